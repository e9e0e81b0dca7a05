theorem dX0_copyFrom_0 : decode cX0_copyFrom 0 = .ok (.aload_n 0, 1) := by decide +kernel
theorem dX0_copyFrom_1 : decode cX0_copyFrom 1 = .ok (.aload_n 1, 1) := by decide +kernel
theorem dX0_copyFrom_2 : decode cX0_copyFrom 2 = .ok (.getfield 15, 3) := by decide +kernel
theorem dX0_copyFrom_5 : decode cX0_copyFrom 5 = .ok (.putfield 15, 3) := by decide +kernel
theorem dX0_copyFrom_8 : decode cX0_copyFrom 8 = .ok (.aload_n 0, 1) := by decide +kernel
theorem dX0_copyFrom_9 : decode cX0_copyFrom 9 = .ok (.aload_n 1, 1) := by decide +kernel
theorem dX0_copyFrom_10 : decode cX0_copyFrom 10 = .ok (.getfield 18, 3) := by decide +kernel
theorem dX0_copyFrom_13 : decode cX0_copyFrom 13 = .ok (.putfield 18, 3) := by decide +kernel
theorem dX0_copyFrom_16 : decode cX0_copyFrom 16 = .ok (.aload_n 0, 1) := by decide +kernel
theorem dX0_copyFrom_17 : decode cX0_copyFrom 17 = .ok (.aload_n 1, 1) := by decide +kernel
theorem dX0_copyFrom_18 : decode cX0_copyFrom 18 = .ok (.getfield 21, 3) := by decide +kernel
theorem dX0_copyFrom_21 : decode cX0_copyFrom 21 = .ok (.putfield 21, 3) := by decide +kernel
theorem dX0_copyFrom_24 : decode cX0_copyFrom 24 = .ok (.aload_n 0, 1) := by decide +kernel
theorem dX0_copyFrom_25 : decode cX0_copyFrom 25 = .ok (.aload_n 1, 1) := by decide +kernel
theorem dX0_copyFrom_26 : decode cX0_copyFrom 26 = .ok (.getfield 24, 3) := by decide +kernel
theorem dX0_copyFrom_29 : decode cX0_copyFrom 29 = .ok (.putfield 24, 3) := by decide +kernel
theorem dX0_copyFrom_32 : decode cX0_copyFrom 32 = .ok (.aload_n 0, 1) := by decide +kernel
theorem dX0_copyFrom_33 : decode cX0_copyFrom 33 = .ok (.aload_n 1, 1) := by decide +kernel
theorem dX0_copyFrom_34 : decode cX0_copyFrom 34 = .ok (.getfield 28, 3) := by decide +kernel
theorem dX0_copyFrom_37 : decode cX0_copyFrom 37 = .ok (.putfield 28, 3) := by decide +kernel
theorem dX0_copyFrom_40 : decode cX0_copyFrom 40 = .ok (.aload_n 0, 1) := by decide +kernel
theorem dX0_copyFrom_41 : decode cX0_copyFrom 41 = .ok (.aload_n 1, 1) := by decide +kernel
theorem dX0_copyFrom_42 : decode cX0_copyFrom 42 = .ok (.getfield 31, 3) := by decide +kernel
theorem dX0_copyFrom_45 : decode cX0_copyFrom 45 = .ok (.putfield 31, 3) := by decide +kernel
theorem dX0_copyFrom_48 : decode cX0_copyFrom 48 = .ok (.aload_n 0, 1) := by decide +kernel
theorem dX0_copyFrom_49 : decode cX0_copyFrom 49 = .ok (.aload_n 1, 1) := by decide +kernel
theorem dX0_copyFrom_50 : decode cX0_copyFrom 50 = .ok (.getfield 34, 3) := by decide +kernel
theorem dX0_copyFrom_53 : decode cX0_copyFrom 53 = .ok (.putfield 34, 3) := by decide +kernel
theorem dX0_copyFrom_56 : decode cX0_copyFrom 56 = .ok (.aload_n 0, 1) := by decide +kernel
theorem dX0_copyFrom_57 : decode cX0_copyFrom 57 = .ok (.aload_n 1, 1) := by decide +kernel
theorem dX0_copyFrom_58 : decode cX0_copyFrom 58 = .ok (.getfield 37, 3) := by decide +kernel
theorem dX0_copyFrom_61 : decode cX0_copyFrom 61 = .ok (.putfield 37, 3) := by decide +kernel
theorem dX0_copyFrom_64 : decode cX0_copyFrom 64 = .ok (.aload_n 0, 1) := by decide +kernel
theorem dX0_copyFrom_65 : decode cX0_copyFrom 65 = .ok (.aload_n 1, 1) := by decide +kernel
theorem dX0_copyFrom_66 : decode cX0_copyFrom 66 = .ok (.getfield 40, 3) := by decide +kernel
theorem dX0_copyFrom_69 : decode cX0_copyFrom 69 = .ok (.putfield 40, 3) := by decide +kernel
theorem dX0_copyFrom_72 : decode cX0_copyFrom 72 = .ok (.aload_n 0, 1) := by decide +kernel
theorem dX0_copyFrom_73 : decode cX0_copyFrom 73 = .ok (.aload_n 1, 1) := by decide +kernel
theorem dX0_copyFrom_74 : decode cX0_copyFrom 74 = .ok (.getfield 43, 3) := by decide +kernel
theorem dX0_copyFrom_77 : decode cX0_copyFrom 77 = .ok (.putfield 43, 3) := by decide +kernel
theorem dX0_copyFrom_80 : decode cX0_copyFrom 80 = .ok (.aload_n 0, 1) := by decide +kernel
theorem dX0_copyFrom_81 : decode cX0_copyFrom 81 = .ok (.aload_n 1, 1) := by decide +kernel
theorem dX0_copyFrom_82 : decode cX0_copyFrom 82 = .ok (.getfield 46, 3) := by decide +kernel
theorem dX0_copyFrom_85 : decode cX0_copyFrom 85 = .ok (.putfield 46, 3) := by decide +kernel
theorem dX0_copyFrom_88 : decode cX0_copyFrom 88 = .ok (.aload_n 0, 1) := by decide +kernel
theorem dX0_copyFrom_89 : decode cX0_copyFrom 89 = .ok (.aload_n 1, 1) := by decide +kernel
theorem dX0_copyFrom_90 : decode cX0_copyFrom 90 = .ok (.getfield 49, 3) := by decide +kernel
theorem dX0_copyFrom_93 : decode cX0_copyFrom 93 = .ok (.putfield 49, 3) := by decide +kernel
theorem dX0_copyFrom_96 : decode cX0_copyFrom 96 = .ok (.aload_n 0, 1) := by decide +kernel
theorem dX0_copyFrom_97 : decode cX0_copyFrom 97 = .ok (.aload_n 1, 1) := by decide +kernel
theorem dX0_copyFrom_98 : decode cX0_copyFrom 98 = .ok (.getfield 52, 3) := by decide +kernel
theorem dX0_copyFrom_101 : decode cX0_copyFrom 101 = .ok (.putfield 52, 3) := by decide +kernel
theorem dX0_copyFrom_104 : decode cX0_copyFrom 104 = .ok (.aload_n 0, 1) := by decide +kernel
theorem dX0_copyFrom_105 : decode cX0_copyFrom 105 = .ok (.aload_n 1, 1) := by decide +kernel
theorem dX0_copyFrom_106 : decode cX0_copyFrom 106 = .ok (.getfield 55, 3) := by decide +kernel
theorem dX0_copyFrom_109 : decode cX0_copyFrom 109 = .ok (.putfield 55, 3) := by decide +kernel
theorem dX0_copyFrom_112 : decode cX0_copyFrom 112 = .ok (.return_, 1) := by decide +kernel
theorem rX0_copyFrom : (∀ (d : Nat) (a1 : Value) (x : Nat) (st : List Value) (h : fk_H), fk_ev d qX0_copyFrom 0 [.ref x, a1] st h = fk_ev d qX0_copyFrom 1 [.ref x, a1] (.ref x :: st) h) ∧
  (∀ (d : Nat) (a0 : Value) (x : Nat) (st : List Value) (h : fk_H), fk_ev d qX0_copyFrom 1 [a0, .ref x] st h = fk_ev d qX0_copyFrom 2 [a0, .ref x] (.ref x :: st) h) ∧
  (∀ (d : Nat) (L st : List Value) (N : Nat) (y : Nat → Nat → Int32) (l : Nat → Nat → Int64) (c : Nat), fk_at c 0 → fk_ev d qX0_copyFrom 2 L (.ref c :: st) (fk_E N y l) = fk_ev d qX0_copyFrom 5 L (.int (y c 1) :: st) (fk_E N y l)) ∧
  (∀ (d : Nat) (L st : List Value) (N : Nat) (y : Nat → Nat → Int32) (l : Nat → Nat → Int64) (c : Nat) (v : Int32), fk_at c 0 → fk_ev d qX0_copyFrom 5 L (.int v :: .ref c :: st) (fk_E N y l) = fk_ev d qX0_copyFrom 8 L st (fk_E N (fk_u y c 1 v) l)) ∧
  (∀ (d : Nat) (a1 : Value) (x : Nat) (st : List Value) (h : fk_H), fk_ev d qX0_copyFrom 8 [.ref x, a1] st h = fk_ev d qX0_copyFrom 9 [.ref x, a1] (.ref x :: st) h) ∧
  (∀ (d : Nat) (a0 : Value) (x : Nat) (st : List Value) (h : fk_H), fk_ev d qX0_copyFrom 9 [a0, .ref x] st h = fk_ev d qX0_copyFrom 10 [a0, .ref x] (.ref x :: st) h) ∧
  (∀ (d : Nat) (L st : List Value) (N : Nat) (y : Nat → Nat → Int32) (l : Nat → Nat → Int64) (c : Nat), fk_at c 0 → fk_ev d qX0_copyFrom 10 L (.ref c :: st) (fk_E N y l) = fk_ev d qX0_copyFrom 13 L (.int (y c 2) :: st) (fk_E N y l)) ∧
  (∀ (d : Nat) (L st : List Value) (N : Nat) (y : Nat → Nat → Int32) (l : Nat → Nat → Int64) (c : Nat) (v : Int32), fk_at c 0 → fk_ev d qX0_copyFrom 13 L (.int v :: .ref c :: st) (fk_E N y l) = fk_ev d qX0_copyFrom 16 L st (fk_E N (fk_u y c 2 v) l)) ∧
  (∀ (d : Nat) (a1 : Value) (x : Nat) (st : List Value) (h : fk_H), fk_ev d qX0_copyFrom 16 [.ref x, a1] st h = fk_ev d qX0_copyFrom 17 [.ref x, a1] (.ref x :: st) h) ∧
  (∀ (d : Nat) (a0 : Value) (x : Nat) (st : List Value) (h : fk_H), fk_ev d qX0_copyFrom 17 [a0, .ref x] st h = fk_ev d qX0_copyFrom 18 [a0, .ref x] (.ref x :: st) h) ∧
  (∀ (d : Nat) (L st : List Value) (N : Nat) (y : Nat → Nat → Int32) (l : Nat → Nat → Int64) (c : Nat), fk_at c 0 → fk_ev d qX0_copyFrom 18 L (.ref c :: st) (fk_E N y l) = fk_ev d qX0_copyFrom 21 L (.int (y c 3) :: st) (fk_E N y l)) ∧
  (∀ (d : Nat) (L st : List Value) (N : Nat) (y : Nat → Nat → Int32) (l : Nat → Nat → Int64) (c : Nat) (v : Int32), fk_at c 0 → fk_ev d qX0_copyFrom 21 L (.int v :: .ref c :: st) (fk_E N y l) = fk_ev d qX0_copyFrom 24 L st (fk_E N (fk_u y c 3 v) l)) ∧
  (∀ (d : Nat) (a1 : Value) (x : Nat) (st : List Value) (h : fk_H), fk_ev d qX0_copyFrom 24 [.ref x, a1] st h = fk_ev d qX0_copyFrom 25 [.ref x, a1] (.ref x :: st) h) ∧
  (∀ (d : Nat) (a0 : Value) (x : Nat) (st : List Value) (h : fk_H), fk_ev d qX0_copyFrom 25 [a0, .ref x] st h = fk_ev d qX0_copyFrom 26 [a0, .ref x] (.ref x :: st) h) ∧
  (∀ (d : Nat) (L st : List Value) (N : Nat) (y : Nat → Nat → Int32) (l : Nat → Nat → Int64) (c : Nat), fk_at c 0 → fk_ev d qX0_copyFrom 26 L (.ref c :: st) (fk_E N y l) = fk_ev d qX0_copyFrom 29 L (.int (y c 4) :: st) (fk_E N y l)) ∧
  (∀ (d : Nat) (L st : List Value) (N : Nat) (y : Nat → Nat → Int32) (l : Nat → Nat → Int64) (c : Nat), fk_at c 0 → fk_ev d qX0_copyFrom 29 L (.int (nI 0) :: .ref c :: st) (fk_E N y l) = fk_ev d qX0_copyFrom 32 L st (fk_E N (fk_u y c 4 (nI 0)) l)) ∧
  (∀ (d : Nat) (L st : List Value) (N : Nat) (y : Nat → Nat → Int32) (l : Nat → Nat → Int64) (c : Nat), fk_at c 0 → fk_ev d qX0_copyFrom 29 L (.int (nI 1) :: .ref c :: st) (fk_E N y l) = fk_ev d qX0_copyFrom 32 L st (fk_E N (fk_u y c 4 (nI 1)) l)) ∧
  (∀ (d : Nat) (L st : List Value) (N : Nat) (y : Nat → Nat → Int32) (l : Nat → Nat → Int64) (c : Nat) (v : Int32), (v = nI 0 ∨ v = nI 1) → fk_at c 0 → fk_ev d qX0_copyFrom 29 L (.int v :: .ref c :: st) (fk_E N y l) = fk_ev d qX0_copyFrom 32 L st (fk_E N (fk_u y c 4 v) l)) ∧
  (∀ (d : Nat) (a1 : Value) (x : Nat) (st : List Value) (h : fk_H), fk_ev d qX0_copyFrom 32 [.ref x, a1] st h = fk_ev d qX0_copyFrom 33 [.ref x, a1] (.ref x :: st) h) ∧
  (∀ (d : Nat) (a0 : Value) (x : Nat) (st : List Value) (h : fk_H), fk_ev d qX0_copyFrom 33 [a0, .ref x] st h = fk_ev d qX0_copyFrom 34 [a0, .ref x] (.ref x :: st) h) ∧
  (∀ (d : Nat) (L st : List Value) (N : Nat) (y : Nat → Nat → Int32) (l : Nat → Nat → Int64) (c : Nat), fk_at c 0 → fk_ev d qX0_copyFrom 34 L (.ref c :: st) (fk_E N y l) = fk_ev d qX0_copyFrom 37 L (.int (y c 5) :: st) (fk_E N y l)) ∧
  (∀ (d : Nat) (L st : List Value) (N : Nat) (y : Nat → Nat → Int32) (l : Nat → Nat → Int64) (c : Nat) (v : Int32), fk_at c 0 → fk_ev d qX0_copyFrom 37 L (.int v :: .ref c :: st) (fk_E N y l) = fk_ev d qX0_copyFrom 40 L st (fk_E N (fk_u y c 5 v) l)) ∧
  (∀ (d : Nat) (a1 : Value) (x : Nat) (st : List Value) (h : fk_H), fk_ev d qX0_copyFrom 40 [.ref x, a1] st h = fk_ev d qX0_copyFrom 41 [.ref x, a1] (.ref x :: st) h) ∧
  (∀ (d : Nat) (a0 : Value) (x : Nat) (st : List Value) (h : fk_H), fk_ev d qX0_copyFrom 41 [a0, .ref x] st h = fk_ev d qX0_copyFrom 42 [a0, .ref x] (.ref x :: st) h) ∧
  (∀ (d : Nat) (L st : List Value) (N : Nat) (y : Nat → Nat → Int32) (l : Nat → Nat → Int64) (c : Nat), fk_at c 0 → fk_ev d qX0_copyFrom 42 L (.ref c :: st) (fk_E N y l) = fk_ev d qX0_copyFrom 45 L (.int (y c 6) :: st) (fk_E N y l)) ∧
  (∀ (d : Nat) (L st : List Value) (N : Nat) (y : Nat → Nat → Int32) (l : Nat → Nat → Int64) (c : Nat) (v : Int32), fk_at c 0 → fk_ev d qX0_copyFrom 45 L (.int v :: .ref c :: st) (fk_E N y l) = fk_ev d qX0_copyFrom 48 L st (fk_E N (fk_u y c 6 v) l)) ∧
  (∀ (d : Nat) (a1 : Value) (x : Nat) (st : List Value) (h : fk_H), fk_ev d qX0_copyFrom 48 [.ref x, a1] st h = fk_ev d qX0_copyFrom 49 [.ref x, a1] (.ref x :: st) h) ∧
  (∀ (d : Nat) (a0 : Value) (x : Nat) (st : List Value) (h : fk_H), fk_ev d qX0_copyFrom 49 [a0, .ref x] st h = fk_ev d qX0_copyFrom 50 [a0, .ref x] (.ref x :: st) h) ∧
  (∀ (d : Nat) (L st : List Value) (N : Nat) (y : Nat → Nat → Int32) (l : Nat → Nat → Int64) (c : Nat), fk_at c 0 → fk_ev d qX0_copyFrom 50 L (.ref c :: st) (fk_E N y l) = fk_ev d qX0_copyFrom 53 L (.int (y c 7) :: st) (fk_E N y l)) ∧
  (∀ (d : Nat) (L st : List Value) (N : Nat) (y : Nat → Nat → Int32) (l : Nat → Nat → Int64) (c : Nat) (v : Int32), fk_at c 0 → fk_ev d qX0_copyFrom 53 L (.int v :: .ref c :: st) (fk_E N y l) = fk_ev d qX0_copyFrom 56 L st (fk_E N (fk_u y c 7 v) l)) ∧
  (∀ (d : Nat) (a1 : Value) (x : Nat) (st : List Value) (h : fk_H), fk_ev d qX0_copyFrom 56 [.ref x, a1] st h = fk_ev d qX0_copyFrom 57 [.ref x, a1] (.ref x :: st) h) ∧
  (∀ (d : Nat) (a0 : Value) (x : Nat) (st : List Value) (h : fk_H), fk_ev d qX0_copyFrom 57 [a0, .ref x] st h = fk_ev d qX0_copyFrom 58 [a0, .ref x] (.ref x :: st) h) ∧
  (∀ (d : Nat) (L st : List Value) (N : Nat) (y : Nat → Nat → Int32) (l : Nat → Nat → Int64) (c : Nat), fk_at c 0 → fk_ev d qX0_copyFrom 58 L (.ref c :: st) (fk_E N y l) = fk_ev d qX0_copyFrom 61 L (.int (y c 8) :: st) (fk_E N y l)) ∧
  (∀ (d : Nat) (L st : List Value) (N : Nat) (y : Nat → Nat → Int32) (l : Nat → Nat → Int64) (c : Nat) (v : Int32), fk_at c 0 → fk_ev d qX0_copyFrom 61 L (.int v :: .ref c :: st) (fk_E N y l) = fk_ev d qX0_copyFrom 64 L st (fk_E N (fk_u y c 8 v) l)) ∧
  (∀ (d : Nat) (a1 : Value) (x : Nat) (st : List Value) (h : fk_H), fk_ev d qX0_copyFrom 64 [.ref x, a1] st h = fk_ev d qX0_copyFrom 65 [.ref x, a1] (.ref x :: st) h) ∧
  (∀ (d : Nat) (a0 : Value) (x : Nat) (st : List Value) (h : fk_H), fk_ev d qX0_copyFrom 65 [a0, .ref x] st h = fk_ev d qX0_copyFrom 66 [a0, .ref x] (.ref x :: st) h) ∧
  (∀ (d : Nat) (L st : List Value) (N : Nat) (y : Nat → Nat → Int32) (l : Nat → Nat → Int64) (c : Nat), fk_at c 0 → fk_ev d qX0_copyFrom 66 L (.ref c :: st) (fk_E N y l) = fk_ev d qX0_copyFrom 69 L (.int (y c 9) :: st) (fk_E N y l)) ∧
  (∀ (d : Nat) (L st : List Value) (N : Nat) (y : Nat → Nat → Int32) (l : Nat → Nat → Int64) (c : Nat) (v : Int32), fk_at c 0 → fk_ev d qX0_copyFrom 69 L (.int v :: .ref c :: st) (fk_E N y l) = fk_ev d qX0_copyFrom 72 L st (fk_E N (fk_u y c 9 v) l)) ∧
  (∀ (d : Nat) (a1 : Value) (x : Nat) (st : List Value) (h : fk_H), fk_ev d qX0_copyFrom 72 [.ref x, a1] st h = fk_ev d qX0_copyFrom 73 [.ref x, a1] (.ref x :: st) h) ∧
  (∀ (d : Nat) (a0 : Value) (x : Nat) (st : List Value) (h : fk_H), fk_ev d qX0_copyFrom 73 [a0, .ref x] st h = fk_ev d qX0_copyFrom 74 [a0, .ref x] (.ref x :: st) h) ∧
  (∀ (d : Nat) (L st : List Value) (N : Nat) (y : Nat → Nat → Int32) (l : Nat → Nat → Int64) (c : Nat), fk_at c 0 → fk_ev d qX0_copyFrom 74 L (.ref c :: st) (fk_E N y l) = fk_ev d qX0_copyFrom 77 L (.int (y c 10) :: st) (fk_E N y l)) ∧
  (∀ (d : Nat) (L st : List Value) (N : Nat) (y : Nat → Nat → Int32) (l : Nat → Nat → Int64) (c : Nat) (v : Int32), fk_at c 0 → fk_ev d qX0_copyFrom 77 L (.int v :: .ref c :: st) (fk_E N y l) = fk_ev d qX0_copyFrom 80 L st (fk_E N (fk_u y c 10 v) l)) ∧
  (∀ (d : Nat) (a1 : Value) (x : Nat) (st : List Value) (h : fk_H), fk_ev d qX0_copyFrom 80 [.ref x, a1] st h = fk_ev d qX0_copyFrom 81 [.ref x, a1] (.ref x :: st) h) ∧
  (∀ (d : Nat) (a0 : Value) (x : Nat) (st : List Value) (h : fk_H), fk_ev d qX0_copyFrom 81 [a0, .ref x] st h = fk_ev d qX0_copyFrom 82 [a0, .ref x] (.ref x :: st) h) ∧
  (∀ (d : Nat) (L st : List Value) (N : Nat) (y : Nat → Nat → Int32) (l : Nat → Nat → Int64) (c : Nat), fk_at c 0 → fk_ev d qX0_copyFrom 82 L (.ref c :: st) (fk_E N y l) = fk_ev d qX0_copyFrom 85 L (.int (y c 11) :: st) (fk_E N y l)) ∧
  (∀ (d : Nat) (L st : List Value) (N : Nat) (y : Nat → Nat → Int32) (l : Nat → Nat → Int64) (c : Nat) (v : Int32), fk_at c 0 → fk_ev d qX0_copyFrom 85 L (.int v :: .ref c :: st) (fk_E N y l) = fk_ev d qX0_copyFrom 88 L st (fk_E N (fk_u y c 11 v) l)) ∧
  (∀ (d : Nat) (a1 : Value) (x : Nat) (st : List Value) (h : fk_H), fk_ev d qX0_copyFrom 88 [.ref x, a1] st h = fk_ev d qX0_copyFrom 89 [.ref x, a1] (.ref x :: st) h) ∧
  (∀ (d : Nat) (a0 : Value) (x : Nat) (st : List Value) (h : fk_H), fk_ev d qX0_copyFrom 89 [a0, .ref x] st h = fk_ev d qX0_copyFrom 90 [a0, .ref x] (.ref x :: st) h) ∧
  (∀ (d : Nat) (L st : List Value) (N : Nat) (y : Nat → Nat → Int32) (l : Nat → Nat → Int64) (c : Nat), fk_at c 0 → fk_ev d qX0_copyFrom 90 L (.ref c :: st) (fk_E N y l) = fk_ev d qX0_copyFrom 93 L (.int (y c 12) :: st) (fk_E N y l)) ∧
  (∀ (d : Nat) (L st : List Value) (N : Nat) (y : Nat → Nat → Int32) (l : Nat → Nat → Int64) (c : Nat) (v : Int32), fk_at c 0 → fk_ev d qX0_copyFrom 93 L (.int v :: .ref c :: st) (fk_E N y l) = fk_ev d qX0_copyFrom 96 L st (fk_E N (fk_u y c 12 v) l)) ∧
  (∀ (d : Nat) (a1 : Value) (x : Nat) (st : List Value) (h : fk_H), fk_ev d qX0_copyFrom 96 [.ref x, a1] st h = fk_ev d qX0_copyFrom 97 [.ref x, a1] (.ref x :: st) h) ∧
  (∀ (d : Nat) (a0 : Value) (x : Nat) (st : List Value) (h : fk_H), fk_ev d qX0_copyFrom 97 [a0, .ref x] st h = fk_ev d qX0_copyFrom 98 [a0, .ref x] (.ref x :: st) h) ∧
  (∀ (d : Nat) (L st : List Value) (N : Nat) (y : Nat → Nat → Int32) (l : Nat → Nat → Int64) (c : Nat), fk_at c 0 → fk_ev d qX0_copyFrom 98 L (.ref c :: st) (fk_E N y l) = fk_ev d qX0_copyFrom 101 L (.int (y c 13) :: st) (fk_E N y l)) ∧
  (∀ (d : Nat) (L st : List Value) (N : Nat) (y : Nat → Nat → Int32) (l : Nat → Nat → Int64) (c : Nat) (v : Int32), fk_at c 0 → fk_ev d qX0_copyFrom 101 L (.int v :: .ref c :: st) (fk_E N y l) = fk_ev d qX0_copyFrom 104 L st (fk_E N (fk_u y c 13 v) l)) ∧
  (∀ (d : Nat) (a1 : Value) (x : Nat) (st : List Value) (h : fk_H), fk_ev d qX0_copyFrom 104 [.ref x, a1] st h = fk_ev d qX0_copyFrom 105 [.ref x, a1] (.ref x :: st) h) ∧
  (∀ (d : Nat) (a0 : Value) (x : Nat) (st : List Value) (h : fk_H), fk_ev d qX0_copyFrom 105 [a0, .ref x] st h = fk_ev d qX0_copyFrom 106 [a0, .ref x] (.ref x :: st) h) ∧
  (∀ (d : Nat) (L st : List Value) (N : Nat) (y : Nat → Nat → Int32) (l : Nat → Nat → Int64) (c : Nat), fk_at c 0 → fk_ev d qX0_copyFrom 106 L (.ref c :: st) (fk_E N y l) = fk_ev d qX0_copyFrom 109 L (.int (y c 14) :: st) (fk_E N y l)) ∧
  (∀ (d : Nat) (L st : List Value) (N : Nat) (y : Nat → Nat → Int32) (l : Nat → Nat → Int64) (c : Nat), fk_at c 0 → fk_ev d qX0_copyFrom 109 L (.int (nI 0) :: .ref c :: st) (fk_E N y l) = fk_ev d qX0_copyFrom 112 L st (fk_E N (fk_u y c 14 (nI 0)) l)) ∧
  (∀ (d : Nat) (L st : List Value) (N : Nat) (y : Nat → Nat → Int32) (l : Nat → Nat → Int64) (c : Nat), fk_at c 0 → fk_ev d qX0_copyFrom 109 L (.int (nI 1) :: .ref c :: st) (fk_E N y l) = fk_ev d qX0_copyFrom 112 L st (fk_E N (fk_u y c 14 (nI 1)) l)) ∧
  (∀ (d : Nat) (L st : List Value) (N : Nat) (y : Nat → Nat → Int32) (l : Nat → Nat → Int64) (c : Nat) (v : Int32), (v = nI 0 ∨ v = nI 1) → fk_at c 0 → fk_ev d qX0_copyFrom 109 L (.int v :: .ref c :: st) (fk_E N y l) = fk_ev d qX0_copyFrom 112 L st (fk_E N (fk_u y c 14 v) l)) ∧
  (∀ (d : Nat) (L : List Value) (h : fk_H), fk_ev d qX0_copyFrom 112 L [] h = some (none, h)) := ⟨fun d a1 x st h => fk_w_aloadn 0 [.ref x, a1] dX0_copyFrom_0 rfl,
  fun d a0 x st h => fk_w_aloadn 1 [a0, .ref x] dX0_copyFrom_1 rfl,
  fun d L st N y l c hc => fk_g_getI rfl lf_0_15 (by decide) dX0_copyFrom_2 hc,
  fun d L st N y l c v hc => fk_g_putI rfl lf_0_15 (by decide) dX0_copyFrom_5 rfl hc,
  fun d a1 x st h => fk_w_aloadn 0 [.ref x, a1] dX0_copyFrom_8 rfl,
  fun d a0 x st h => fk_w_aloadn 1 [a0, .ref x] dX0_copyFrom_9 rfl,
  fun d L st N y l c hc => fk_g_getI rfl lf_0_18 (by decide) dX0_copyFrom_10 hc,
  fun d L st N y l c v hc => fk_g_putI rfl lf_0_18 (by decide) dX0_copyFrom_13 rfl hc,
  fun d a1 x st h => fk_w_aloadn 0 [.ref x, a1] dX0_copyFrom_16 rfl,
  fun d a0 x st h => fk_w_aloadn 1 [a0, .ref x] dX0_copyFrom_17 rfl,
  fun d L st N y l c hc => fk_g_getI rfl lf_0_21 (by decide) dX0_copyFrom_18 hc,
  fun d L st N y l c v hc => fk_g_putI rfl lf_0_21 (by decide) dX0_copyFrom_21 rfl hc,
  fun d a1 x st h => fk_w_aloadn 0 [.ref x, a1] dX0_copyFrom_24 rfl,
  fun d a0 x st h => fk_w_aloadn 1 [a0, .ref x] dX0_copyFrom_25 rfl,
  fun d L st N y l c hc => fk_g_getI rfl lf_0_24 (by decide) dX0_copyFrom_26 hc,
  fun d L st N y l c hc => fk_g_putI rfl lf_0_24 (by decide) dX0_copyFrom_29 rfl hc,
  fun d L st N y l c hc => fk_g_putI rfl lf_0_24 (by decide) dX0_copyFrom_29 rfl hc,
  fun d L st N y l c v hv hc => fk_g_putI rfl lf_0_24 (by decide) dX0_copyFrom_29 (by rcases hv with rfl | rfl <;> rfl) hc,
  fun d a1 x st h => fk_w_aloadn 0 [.ref x, a1] dX0_copyFrom_32 rfl,
  fun d a0 x st h => fk_w_aloadn 1 [a0, .ref x] dX0_copyFrom_33 rfl,
  fun d L st N y l c hc => fk_g_getI rfl lf_0_28 (by decide) dX0_copyFrom_34 hc,
  fun d L st N y l c v hc => fk_g_putI rfl lf_0_28 (by decide) dX0_copyFrom_37 rfl hc,
  fun d a1 x st h => fk_w_aloadn 0 [.ref x, a1] dX0_copyFrom_40 rfl,
  fun d a0 x st h => fk_w_aloadn 1 [a0, .ref x] dX0_copyFrom_41 rfl,
  fun d L st N y l c hc => fk_g_getI rfl lf_0_31 (by decide) dX0_copyFrom_42 hc,
  fun d L st N y l c v hc => fk_g_putI rfl lf_0_31 (by decide) dX0_copyFrom_45 rfl hc,
  fun d a1 x st h => fk_w_aloadn 0 [.ref x, a1] dX0_copyFrom_48 rfl,
  fun d a0 x st h => fk_w_aloadn 1 [a0, .ref x] dX0_copyFrom_49 rfl,
  fun d L st N y l c hc => fk_g_getI rfl lf_0_34 (by decide) dX0_copyFrom_50 hc,
  fun d L st N y l c v hc => fk_g_putI rfl lf_0_34 (by decide) dX0_copyFrom_53 rfl hc,
  fun d a1 x st h => fk_w_aloadn 0 [.ref x, a1] dX0_copyFrom_56 rfl,
  fun d a0 x st h => fk_w_aloadn 1 [a0, .ref x] dX0_copyFrom_57 rfl,
  fun d L st N y l c hc => fk_g_getI rfl lf_0_37 (by decide) dX0_copyFrom_58 hc,
  fun d L st N y l c v hc => fk_g_putI rfl lf_0_37 (by decide) dX0_copyFrom_61 rfl hc,
  fun d a1 x st h => fk_w_aloadn 0 [.ref x, a1] dX0_copyFrom_64 rfl,
  fun d a0 x st h => fk_w_aloadn 1 [a0, .ref x] dX0_copyFrom_65 rfl,
  fun d L st N y l c hc => fk_g_getI rfl lf_0_40 (by decide) dX0_copyFrom_66 hc,
  fun d L st N y l c v hc => fk_g_putI rfl lf_0_40 (by decide) dX0_copyFrom_69 rfl hc,
  fun d a1 x st h => fk_w_aloadn 0 [.ref x, a1] dX0_copyFrom_72 rfl,
  fun d a0 x st h => fk_w_aloadn 1 [a0, .ref x] dX0_copyFrom_73 rfl,
  fun d L st N y l c hc => fk_g_getI rfl lf_0_43 (by decide) dX0_copyFrom_74 hc,
  fun d L st N y l c v hc => fk_g_putI rfl lf_0_43 (by decide) dX0_copyFrom_77 rfl hc,
  fun d a1 x st h => fk_w_aloadn 0 [.ref x, a1] dX0_copyFrom_80 rfl,
  fun d a0 x st h => fk_w_aloadn 1 [a0, .ref x] dX0_copyFrom_81 rfl,
  fun d L st N y l c hc => fk_g_getI rfl lf_0_46 (by decide) dX0_copyFrom_82 hc,
  fun d L st N y l c v hc => fk_g_putI rfl lf_0_46 (by decide) dX0_copyFrom_85 rfl hc,
  fun d a1 x st h => fk_w_aloadn 0 [.ref x, a1] dX0_copyFrom_88 rfl,
  fun d a0 x st h => fk_w_aloadn 1 [a0, .ref x] dX0_copyFrom_89 rfl,
  fun d L st N y l c hc => fk_g_getI rfl lf_0_49 (by decide) dX0_copyFrom_90 hc,
  fun d L st N y l c v hc => fk_g_putI rfl lf_0_49 (by decide) dX0_copyFrom_93 rfl hc,
  fun d a1 x st h => fk_w_aloadn 0 [.ref x, a1] dX0_copyFrom_96 rfl,
  fun d a0 x st h => fk_w_aloadn 1 [a0, .ref x] dX0_copyFrom_97 rfl,
  fun d L st N y l c hc => fk_g_getI rfl lf_0_52 (by decide) dX0_copyFrom_98 hc,
  fun d L st N y l c v hc => fk_g_putI rfl lf_0_52 (by decide) dX0_copyFrom_101 rfl hc,
  fun d a1 x st h => fk_w_aloadn 0 [.ref x, a1] dX0_copyFrom_104 rfl,
  fun d a0 x st h => fk_w_aloadn 1 [a0, .ref x] dX0_copyFrom_105 rfl,
  fun d L st N y l c hc => fk_g_getI rfl lf_0_55 (by decide) dX0_copyFrom_106 hc,
  fun d L st N y l c hc => fk_g_putI rfl lf_0_55 (by decide) dX0_copyFrom_109 rfl hc,
  fun d L st N y l c hc => fk_g_putI rfl lf_0_55 (by decide) dX0_copyFrom_109 rfl hc,
  fun d L st N y l c v hv hc => fk_g_putI rfl lf_0_55 (by decide) dX0_copyFrom_109 (by rcases hv with rfl | rfl <;> rfl) hc,
  fun d L h => fk_r_vret dX0_copyFrom_112 rfl⟩
theorem dX0_beNew_0 : decode cX0_beNew 0 = .ok (.aload_n 0, 1) := by decide +kernel
theorem dX0_beNew_1 : decode cX0_beNew 1 = .ok (.iload_n 1, 1) := by decide +kernel
theorem dX0_beNew_2 : decode cX0_beNew 2 = .ok (.putfield 15, 3) := by decide +kernel
theorem dX0_beNew_5 : decode cX0_beNew 5 = .ok (.aload_n 0, 1) := by decide +kernel
theorem dX0_beNew_6 : decode cX0_beNew 6 = .ok (.bipush (-2), 2) := by decide +kernel
theorem dX0_beNew_8 : decode cX0_beNew 8 = .ok (.putfield 18, 3) := by decide +kernel
theorem dX0_beNew_11 : decode cX0_beNew 11 = .ok (.aload_n 0, 1) := by decide +kernel
theorem dX0_beNew_12 : decode cX0_beNew 12 = .ok (.iload_n 3, 1) := by decide +kernel
theorem dX0_beNew_13 : decode cX0_beNew 13 = .ok (.putfield 21, 3) := by decide +kernel
theorem dX0_beNew_16 : decode cX0_beNew 16 = .ok (.aload_n 0, 1) := by decide +kernel
theorem dX0_beNew_17 : decode cX0_beNew 17 = .ok (.iconst 1, 1) := by decide +kernel
theorem dX0_beNew_18 : decode cX0_beNew 18 = .ok (.putfield 24, 3) := by decide +kernel
theorem dX0_beNew_21 : decode cX0_beNew 21 = .ok (.aload_n 0, 1) := by decide +kernel
theorem dX0_beNew_22 : decode cX0_beNew 22 = .ok (.sipush 4096, 3) := by decide +kernel
theorem dX0_beNew_25 : decode cX0_beNew 25 = .ok (.putfield 28, 3) := by decide +kernel
theorem dX0_beNew_28 : decode cX0_beNew 28 = .ok (.aload_n 0, 1) := by decide +kernel
theorem dX0_beNew_29 : decode cX0_beNew 29 = .ok (.iload_n 2, 1) := by decide +kernel
theorem dX0_beNew_30 : decode cX0_beNew 30 = .ok (.invokevirtual 58, 3) := by decide +kernel
theorem dX0_beNew_33 : decode cX0_beNew 33 = .ok (.aload_n 0, 1) := by decide +kernel
theorem dX0_beNew_34 : decode cX0_beNew 34 = .ok (.iconst 0, 1) := by decide +kernel
theorem dX0_beNew_35 : decode cX0_beNew 35 = .ok (.putfield 40, 3) := by decide +kernel
theorem dX0_beNew_38 : decode cX0_beNew 38 = .ok (.aload_n 0, 1) := by decide +kernel
theorem dX0_beNew_39 : decode cX0_beNew 39 = .ok (.iconst 0, 1) := by decide +kernel
theorem dX0_beNew_40 : decode cX0_beNew 40 = .ok (.putfield 43, 3) := by decide +kernel
theorem dX0_beNew_43 : decode cX0_beNew 43 = .ok (.aload_n 0, 1) := by decide +kernel
theorem dX0_beNew_44 : decode cX0_beNew 44 = .ok (.iconst 0, 1) := by decide +kernel
theorem dX0_beNew_45 : decode cX0_beNew 45 = .ok (.putfield 46, 3) := by decide +kernel
theorem dX0_beNew_48 : decode cX0_beNew 48 = .ok (.aload_n 0, 1) := by decide +kernel
theorem dX0_beNew_49 : decode cX0_beNew 49 = .ok (.iconst 0, 1) := by decide +kernel
theorem dX0_beNew_50 : decode cX0_beNew 50 = .ok (.putfield 49, 3) := by decide +kernel
theorem dX0_beNew_53 : decode cX0_beNew 53 = .ok (.aload_n 0, 1) := by decide +kernel
theorem dX0_beNew_54 : decode cX0_beNew 54 = .ok (.bipush (-2), 2) := by decide +kernel
theorem dX0_beNew_56 : decode cX0_beNew 56 = .ok (.putfield 52, 3) := by decide +kernel
theorem dX0_beNew_59 : decode cX0_beNew 59 = .ok (.aload_n 0, 1) := by decide +kernel
theorem dX0_beNew_60 : decode cX0_beNew 60 = .ok (.iconst 0, 1) := by decide +kernel
theorem dX0_beNew_61 : decode cX0_beNew 61 = .ok (.putfield 55, 3) := by decide +kernel
theorem dX0_beNew_64 : decode cX0_beNew 64 = .ok (.return_, 1) := by decide +kernel
theorem rX0_beNew : (∀ (d : Nat) (a1 a2 a3 : Value) (x : Nat) (st : List Value) (h : fk_H), fk_ev d qX0_beNew 0 [.ref x, a1, a2, a3] st h = fk_ev d qX0_beNew 1 [.ref x, a1, a2, a3] (.ref x :: st) h) ∧
  (∀ (d : Nat) (a0 a2 a3 : Value) (x : Int32) (st : List Value) (h : fk_H), fk_ev d qX0_beNew 1 [a0, .int x, a2, a3] st h = fk_ev d qX0_beNew 2 [a0, .int x, a2, a3] (.int x :: st) h) ∧
  (∀ (d : Nat) (L st : List Value) (N : Nat) (y : Nat → Nat → Int32) (l : Nat → Nat → Int64) (c : Nat) (v : Int32), fk_at c 0 → fk_ev d qX0_beNew 2 L (.int v :: .ref c :: st) (fk_E N y l) = fk_ev d qX0_beNew 5 L st (fk_E N (fk_u y c 1 v) l)) ∧
  (∀ (d : Nat) (a1 a2 a3 : Value) (x : Nat) (st : List Value) (h : fk_H), fk_ev d qX0_beNew 5 [.ref x, a1, a2, a3] st h = fk_ev d qX0_beNew 6 [.ref x, a1, a2, a3] (.ref x :: st) h) ∧
  (∀ (d : Nat) (L st : List Value) (h : fk_H), fk_ev d qX0_beNew 6 L st h = fk_ev d qX0_beNew 8 L (.int ((-2 : Int32)) :: st) h) ∧
  (∀ (d : Nat) (L st : List Value) (N : Nat) (y : Nat → Nat → Int32) (l : Nat → Nat → Int64) (c : Nat) (v : Int32), fk_at c 0 → fk_ev d qX0_beNew 8 L (.int v :: .ref c :: st) (fk_E N y l) = fk_ev d qX0_beNew 11 L st (fk_E N (fk_u y c 2 v) l)) ∧
  (∀ (d : Nat) (a1 a2 a3 : Value) (x : Nat) (st : List Value) (h : fk_H), fk_ev d qX0_beNew 11 [.ref x, a1, a2, a3] st h = fk_ev d qX0_beNew 12 [.ref x, a1, a2, a3] (.ref x :: st) h) ∧
  (∀ (d : Nat) (a0 a1 a2 : Value) (x : Int32) (st : List Value) (h : fk_H), fk_ev d qX0_beNew 12 [a0, a1, a2, .int x] st h = fk_ev d qX0_beNew 13 [a0, a1, a2, .int x] (.int x :: st) h) ∧
  (∀ (d : Nat) (L st : List Value) (N : Nat) (y : Nat → Nat → Int32) (l : Nat → Nat → Int64) (c : Nat) (v : Int32), fk_at c 0 → fk_ev d qX0_beNew 13 L (.int v :: .ref c :: st) (fk_E N y l) = fk_ev d qX0_beNew 16 L st (fk_E N (fk_u y c 3 v) l)) ∧
  (∀ (d : Nat) (a1 a2 a3 : Value) (x : Nat) (st : List Value) (h : fk_H), fk_ev d qX0_beNew 16 [.ref x, a1, a2, a3] st h = fk_ev d qX0_beNew 17 [.ref x, a1, a2, a3] (.ref x :: st) h) ∧
  (∀ (d : Nat) (L st : List Value) (h : fk_H), fk_ev d qX0_beNew 17 L st h = fk_ev d qX0_beNew 18 L (.int (nI 1) :: st) h) ∧
  (∀ (d : Nat) (L st : List Value) (N : Nat) (y : Nat → Nat → Int32) (l : Nat → Nat → Int64) (c : Nat), fk_at c 0 → fk_ev d qX0_beNew 18 L (.int (nI 0) :: .ref c :: st) (fk_E N y l) = fk_ev d qX0_beNew 21 L st (fk_E N (fk_u y c 4 (nI 0)) l)) ∧
  (∀ (d : Nat) (L st : List Value) (N : Nat) (y : Nat → Nat → Int32) (l : Nat → Nat → Int64) (c : Nat), fk_at c 0 → fk_ev d qX0_beNew 18 L (.int (nI 1) :: .ref c :: st) (fk_E N y l) = fk_ev d qX0_beNew 21 L st (fk_E N (fk_u y c 4 (nI 1)) l)) ∧
  (∀ (d : Nat) (L st : List Value) (N : Nat) (y : Nat → Nat → Int32) (l : Nat → Nat → Int64) (c : Nat) (v : Int32), (v = nI 0 ∨ v = nI 1) → fk_at c 0 → fk_ev d qX0_beNew 18 L (.int v :: .ref c :: st) (fk_E N y l) = fk_ev d qX0_beNew 21 L st (fk_E N (fk_u y c 4 v) l)) ∧
  (∀ (d : Nat) (a1 a2 a3 : Value) (x : Nat) (st : List Value) (h : fk_H), fk_ev d qX0_beNew 21 [.ref x, a1, a2, a3] st h = fk_ev d qX0_beNew 22 [.ref x, a1, a2, a3] (.ref x :: st) h) ∧
  (∀ (d : Nat) (L st : List Value) (h : fk_H), fk_ev d qX0_beNew 22 L st h = fk_ev d qX0_beNew 25 L (.int (nI 4096) :: st) h) ∧
  (∀ (d : Nat) (L st : List Value) (N : Nat) (y : Nat → Nat → Int32) (l : Nat → Nat → Int64) (c : Nat) (v : Int32), fk_at c 0 → fk_ev d qX0_beNew 25 L (.int v :: .ref c :: st) (fk_E N y l) = fk_ev d qX0_beNew 28 L st (fk_E N (fk_u y c 5 v) l)) ∧
  (∀ (d : Nat) (a1 a2 a3 : Value) (x : Nat) (st : List Value) (h : fk_H), fk_ev d qX0_beNew 28 [.ref x, a1, a2, a3] st h = fk_ev d qX0_beNew 29 [.ref x, a1, a2, a3] (.ref x :: st) h) ∧
  (∀ (d : Nat) (a0 a1 a3 : Value) (x : Int32) (st : List Value) (h : fk_H), fk_ev d qX0_beNew 29 [a0, a1, .int x, a3] st h = fk_ev d qX0_beNew 30 [a0, a1, .int x, a3] (.int x :: st) h) ∧
  (∀ (d : Nat) (L : List Value) (x0 : Int32)  (N : Nat) (y : Nat → Nat → Int32) (l : Nat → Nat → Int64) (c : Nat), fk_at c 0 → fk_ev (d + 1) qX0_beNew 30 L (.int x0 :: .ref c :: []) (fk_E N y l) = (fk_ev d qX0_standAt 0 [.ref c, .int x0] [] (fk_E N y l)).bind fun o => fk_ev (d + 1) qX0_beNew 33 L (o.1.toList ++ []) o.2) ∧
  (∀ (d : Nat) (a1 a2 a3 : Value) (x : Nat) (st : List Value) (h : fk_H), fk_ev d qX0_beNew 33 [.ref x, a1, a2, a3] st h = fk_ev d qX0_beNew 34 [.ref x, a1, a2, a3] (.ref x :: st) h) ∧
  (∀ (d : Nat) (L st : List Value) (h : fk_H), fk_ev d qX0_beNew 34 L st h = fk_ev d qX0_beNew 35 L (.int (nI 0) :: st) h) ∧
  (∀ (d : Nat) (L st : List Value) (N : Nat) (y : Nat → Nat → Int32) (l : Nat → Nat → Int64) (c : Nat) (v : Int32), fk_at c 0 → fk_ev d qX0_beNew 35 L (.int v :: .ref c :: st) (fk_E N y l) = fk_ev d qX0_beNew 38 L st (fk_E N (fk_u y c 9 v) l)) ∧
  (∀ (d : Nat) (a1 a2 a3 : Value) (x : Nat) (st : List Value) (h : fk_H), fk_ev d qX0_beNew 38 [.ref x, a1, a2, a3] st h = fk_ev d qX0_beNew 39 [.ref x, a1, a2, a3] (.ref x :: st) h) ∧
  (∀ (d : Nat) (L st : List Value) (h : fk_H), fk_ev d qX0_beNew 39 L st h = fk_ev d qX0_beNew 40 L (.int (nI 0) :: st) h) ∧
  (∀ (d : Nat) (L st : List Value) (N : Nat) (y : Nat → Nat → Int32) (l : Nat → Nat → Int64) (c : Nat) (v : Int32), fk_at c 0 → fk_ev d qX0_beNew 40 L (.int v :: .ref c :: st) (fk_E N y l) = fk_ev d qX0_beNew 43 L st (fk_E N (fk_u y c 10 v) l)) ∧
  (∀ (d : Nat) (a1 a2 a3 : Value) (x : Nat) (st : List Value) (h : fk_H), fk_ev d qX0_beNew 43 [.ref x, a1, a2, a3] st h = fk_ev d qX0_beNew 44 [.ref x, a1, a2, a3] (.ref x :: st) h) ∧
  (∀ (d : Nat) (L st : List Value) (h : fk_H), fk_ev d qX0_beNew 44 L st h = fk_ev d qX0_beNew 45 L (.int (nI 0) :: st) h) ∧
  (∀ (d : Nat) (L st : List Value) (N : Nat) (y : Nat → Nat → Int32) (l : Nat → Nat → Int64) (c : Nat) (v : Int32), fk_at c 0 → fk_ev d qX0_beNew 45 L (.int v :: .ref c :: st) (fk_E N y l) = fk_ev d qX0_beNew 48 L st (fk_E N (fk_u y c 11 v) l)) ∧
  (∀ (d : Nat) (a1 a2 a3 : Value) (x : Nat) (st : List Value) (h : fk_H), fk_ev d qX0_beNew 48 [.ref x, a1, a2, a3] st h = fk_ev d qX0_beNew 49 [.ref x, a1, a2, a3] (.ref x :: st) h) ∧
  (∀ (d : Nat) (L st : List Value) (h : fk_H), fk_ev d qX0_beNew 49 L st h = fk_ev d qX0_beNew 50 L (.int (nI 0) :: st) h) ∧
  (∀ (d : Nat) (L st : List Value) (N : Nat) (y : Nat → Nat → Int32) (l : Nat → Nat → Int64) (c : Nat) (v : Int32), fk_at c 0 → fk_ev d qX0_beNew 50 L (.int v :: .ref c :: st) (fk_E N y l) = fk_ev d qX0_beNew 53 L st (fk_E N (fk_u y c 12 v) l)) ∧
  (∀ (d : Nat) (a1 a2 a3 : Value) (x : Nat) (st : List Value) (h : fk_H), fk_ev d qX0_beNew 53 [.ref x, a1, a2, a3] st h = fk_ev d qX0_beNew 54 [.ref x, a1, a2, a3] (.ref x :: st) h) ∧
  (∀ (d : Nat) (L st : List Value) (h : fk_H), fk_ev d qX0_beNew 54 L st h = fk_ev d qX0_beNew 56 L (.int ((-2 : Int32)) :: st) h) ∧
  (∀ (d : Nat) (L st : List Value) (N : Nat) (y : Nat → Nat → Int32) (l : Nat → Nat → Int64) (c : Nat) (v : Int32), fk_at c 0 → fk_ev d qX0_beNew 56 L (.int v :: .ref c :: st) (fk_E N y l) = fk_ev d qX0_beNew 59 L st (fk_E N (fk_u y c 13 v) l)) ∧
  (∀ (d : Nat) (a1 a2 a3 : Value) (x : Nat) (st : List Value) (h : fk_H), fk_ev d qX0_beNew 59 [.ref x, a1, a2, a3] st h = fk_ev d qX0_beNew 60 [.ref x, a1, a2, a3] (.ref x :: st) h) ∧
  (∀ (d : Nat) (L st : List Value) (h : fk_H), fk_ev d qX0_beNew 60 L st h = fk_ev d qX0_beNew 61 L (.int (nI 0) :: st) h) ∧
  (∀ (d : Nat) (L st : List Value) (N : Nat) (y : Nat → Nat → Int32) (l : Nat → Nat → Int64) (c : Nat), fk_at c 0 → fk_ev d qX0_beNew 61 L (.int (nI 0) :: .ref c :: st) (fk_E N y l) = fk_ev d qX0_beNew 64 L st (fk_E N (fk_u y c 14 (nI 0)) l)) ∧
  (∀ (d : Nat) (L st : List Value) (N : Nat) (y : Nat → Nat → Int32) (l : Nat → Nat → Int64) (c : Nat), fk_at c 0 → fk_ev d qX0_beNew 61 L (.int (nI 1) :: .ref c :: st) (fk_E N y l) = fk_ev d qX0_beNew 64 L st (fk_E N (fk_u y c 14 (nI 1)) l)) ∧
  (∀ (d : Nat) (L st : List Value) (N : Nat) (y : Nat → Nat → Int32) (l : Nat → Nat → Int64) (c : Nat) (v : Int32), (v = nI 0 ∨ v = nI 1) → fk_at c 0 → fk_ev d qX0_beNew 61 L (.int v :: .ref c :: st) (fk_E N y l) = fk_ev d qX0_beNew 64 L st (fk_E N (fk_u y c 14 v) l)) ∧
  (∀ (d : Nat) (L : List Value) (h : fk_H), fk_ev d qX0_beNew 64 L [] h = some (none, h)) := ⟨fun d a1 a2 a3 x st h => fk_w_aloadn 0 [.ref x, a1, a2, a3] dX0_beNew_0 rfl,
  fun d a0 a2 a3 x st h => fk_w_iloadn 1 [a0, .int x, a2, a3] dX0_beNew_1 rfl,
  fun d L st N y l c v hc => fk_g_putI rfl lf_0_15 (by decide) dX0_beNew_2 rfl hc,
  fun d a1 a2 a3 x st h => fk_w_aloadn 0 [.ref x, a1, a2, a3] dX0_beNew_5 rfl,
  fun d L st h => fk_w_bipush dX0_beNew_6 (by decide),
  fun d L st N y l c v hc => fk_g_putI rfl lf_0_18 (by decide) dX0_beNew_8 rfl hc,
  fun d a1 a2 a3 x st h => fk_w_aloadn 0 [.ref x, a1, a2, a3] dX0_beNew_11 rfl,
  fun d a0 a1 a2 x st h => fk_w_iloadn 3 [a0, a1, a2, .int x] dX0_beNew_12 rfl,
  fun d L st N y l c v hc => fk_g_putI rfl lf_0_21 (by decide) dX0_beNew_13 rfl hc,
  fun d a1 a2 a3 x st h => fk_w_aloadn 0 [.ref x, a1, a2, a3] dX0_beNew_16 rfl,
  fun d L st h => fk_w_iconst dX0_beNew_17 (by decide),
  fun d L st N y l c hc => fk_g_putI rfl lf_0_24 (by decide) dX0_beNew_18 rfl hc,
  fun d L st N y l c hc => fk_g_putI rfl lf_0_24 (by decide) dX0_beNew_18 rfl hc,
  fun d L st N y l c v hv hc => fk_g_putI rfl lf_0_24 (by decide) dX0_beNew_18 (by rcases hv with rfl | rfl <;> rfl) hc,
  fun d a1 a2 a3 x st h => fk_w_aloadn 0 [.ref x, a1, a2, a3] dX0_beNew_21 rfl,
  fun d L st h => fk_w_sipush dX0_beNew_22 (by decide),
  fun d L st N y l c v hc => fk_g_putI rfl lf_0_28 (by decide) dX0_beNew_25 rfl hc,
  fun d a1 a2 a3 x st h => fk_w_aloadn 0 [.ref x, a1, a2, a3] dX0_beNew_28 rfl,
  fun d a0 a1 a3 x st h => fk_w_iloadn 2 [a0, a1, .int x, a3] dX0_beNew_29 rfl,
  fun d L x0 N y l c hc => fk_g_call [.int x0] [] rfl lm_0_58 dX0_beNew_30 rfl ⟨rfl, by decide⟩ (by simp) hc,
  fun d a1 a2 a3 x st h => fk_w_aloadn 0 [.ref x, a1, a2, a3] dX0_beNew_33 rfl,
  fun d L st h => fk_w_iconst dX0_beNew_34 (by decide),
  fun d L st N y l c v hc => fk_g_putI rfl lf_0_40 (by decide) dX0_beNew_35 rfl hc,
  fun d a1 a2 a3 x st h => fk_w_aloadn 0 [.ref x, a1, a2, a3] dX0_beNew_38 rfl,
  fun d L st h => fk_w_iconst dX0_beNew_39 (by decide),
  fun d L st N y l c v hc => fk_g_putI rfl lf_0_43 (by decide) dX0_beNew_40 rfl hc,
  fun d a1 a2 a3 x st h => fk_w_aloadn 0 [.ref x, a1, a2, a3] dX0_beNew_43 rfl,
  fun d L st h => fk_w_iconst dX0_beNew_44 (by decide),
  fun d L st N y l c v hc => fk_g_putI rfl lf_0_46 (by decide) dX0_beNew_45 rfl hc,
  fun d a1 a2 a3 x st h => fk_w_aloadn 0 [.ref x, a1, a2, a3] dX0_beNew_48 rfl,
  fun d L st h => fk_w_iconst dX0_beNew_49 (by decide),
  fun d L st N y l c v hc => fk_g_putI rfl lf_0_49 (by decide) dX0_beNew_50 rfl hc,
  fun d a1 a2 a3 x st h => fk_w_aloadn 0 [.ref x, a1, a2, a3] dX0_beNew_53 rfl,
  fun d L st h => fk_w_bipush dX0_beNew_54 (by decide),
  fun d L st N y l c v hc => fk_g_putI rfl lf_0_52 (by decide) dX0_beNew_56 rfl hc,
  fun d a1 a2 a3 x st h => fk_w_aloadn 0 [.ref x, a1, a2, a3] dX0_beNew_59 rfl,
  fun d L st h => fk_w_iconst dX0_beNew_60 (by decide),
  fun d L st N y l c hc => fk_g_putI rfl lf_0_55 (by decide) dX0_beNew_61 rfl hc,
  fun d L st N y l c hc => fk_g_putI rfl lf_0_55 (by decide) dX0_beNew_61 rfl hc,
  fun d L st N y l c v hv hc => fk_g_putI rfl lf_0_55 (by decide) dX0_beNew_61 (by rcases hv with rfl | rfl <;> rfl) hc,
  fun d L h => fk_r_vret dX0_beNew_64 rfl⟩
theorem dX0_standAt_0 : decode cX0_standAt 0 = .ok (.aload_n 0, 1) := by decide +kernel
theorem dX0_standAt_1 : decode cX0_standAt 1 = .ok (.iload_n 1, 1) := by decide +kernel
theorem dX0_standAt_2 : decode cX0_standAt 2 = .ok (.putfield 31, 3) := by decide +kernel
theorem dX0_standAt_5 : decode cX0_standAt 5 = .ok (.aload_n 0, 1) := by decide +kernel
theorem dX0_standAt_6 : decode cX0_standAt 6 = .ok (.bipush (-2), 2) := by decide +kernel
theorem dX0_standAt_8 : decode cX0_standAt 8 = .ok (.putfield 34, 3) := by decide +kernel
theorem dX0_standAt_11 : decode cX0_standAt 11 = .ok (.aload_n 0, 1) := by decide +kernel
theorem dX0_standAt_12 : decode cX0_standAt 12 = .ok (.iconst 0, 1) := by decide +kernel
theorem dX0_standAt_13 : decode cX0_standAt 13 = .ok (.putfield 37, 3) := by decide +kernel
theorem dX0_standAt_16 : decode cX0_standAt 16 = .ok (.return_, 1) := by decide +kernel
theorem rX0_standAt : (∀ (d : Nat) (a1 : Value) (x : Nat) (st : List Value) (h : fk_H), fk_ev d qX0_standAt 0 [.ref x, a1] st h = fk_ev d qX0_standAt 1 [.ref x, a1] (.ref x :: st) h) ∧
  (∀ (d : Nat) (a0 : Value) (x : Int32) (st : List Value) (h : fk_H), fk_ev d qX0_standAt 1 [a0, .int x] st h = fk_ev d qX0_standAt 2 [a0, .int x] (.int x :: st) h) ∧
  (∀ (d : Nat) (L st : List Value) (N : Nat) (y : Nat → Nat → Int32) (l : Nat → Nat → Int64) (c : Nat) (v : Int32), fk_at c 0 → fk_ev d qX0_standAt 2 L (.int v :: .ref c :: st) (fk_E N y l) = fk_ev d qX0_standAt 5 L st (fk_E N (fk_u y c 6 v) l)) ∧
  (∀ (d : Nat) (a1 : Value) (x : Nat) (st : List Value) (h : fk_H), fk_ev d qX0_standAt 5 [.ref x, a1] st h = fk_ev d qX0_standAt 6 [.ref x, a1] (.ref x :: st) h) ∧
  (∀ (d : Nat) (L st : List Value) (h : fk_H), fk_ev d qX0_standAt 6 L st h = fk_ev d qX0_standAt 8 L (.int ((-2 : Int32)) :: st) h) ∧
  (∀ (d : Nat) (L st : List Value) (N : Nat) (y : Nat → Nat → Int32) (l : Nat → Nat → Int64) (c : Nat) (v : Int32), fk_at c 0 → fk_ev d qX0_standAt 8 L (.int v :: .ref c :: st) (fk_E N y l) = fk_ev d qX0_standAt 11 L st (fk_E N (fk_u y c 7 v) l)) ∧
  (∀ (d : Nat) (a1 : Value) (x : Nat) (st : List Value) (h : fk_H), fk_ev d qX0_standAt 11 [.ref x, a1] st h = fk_ev d qX0_standAt 12 [.ref x, a1] (.ref x :: st) h) ∧
  (∀ (d : Nat) (L st : List Value) (h : fk_H), fk_ev d qX0_standAt 12 L st h = fk_ev d qX0_standAt 13 L (.int (nI 0) :: st) h) ∧
  (∀ (d : Nat) (L st : List Value) (N : Nat) (y : Nat → Nat → Int32) (l : Nat → Nat → Int64) (c : Nat) (v : Int32), fk_at c 0 → fk_ev d qX0_standAt 13 L (.int v :: .ref c :: st) (fk_E N y l) = fk_ev d qX0_standAt 16 L st (fk_E N (fk_u y c 8 v) l)) ∧
  (∀ (d : Nat) (L : List Value) (h : fk_H), fk_ev d qX0_standAt 16 L [] h = some (none, h)) := ⟨fun d a1 x st h => fk_w_aloadn 0 [.ref x, a1] dX0_standAt_0 rfl,
  fun d a0 x st h => fk_w_iloadn 1 [a0, .int x] dX0_standAt_1 rfl,
  fun d L st N y l c v hc => fk_g_putI rfl lf_0_31 (by decide) dX0_standAt_2 rfl hc,
  fun d a1 x st h => fk_w_aloadn 0 [.ref x, a1] dX0_standAt_5 rfl,
  fun d L st h => fk_w_bipush dX0_standAt_6 (by decide),
  fun d L st N y l c v hc => fk_g_putI rfl lf_0_34 (by decide) dX0_standAt_8 rfl hc,
  fun d a1 x st h => fk_w_aloadn 0 [.ref x, a1] dX0_standAt_11 rfl,
  fun d L st h => fk_w_iconst dX0_standAt_12 (by decide),
  fun d L st N y l c v hc => fk_g_putI rfl lf_0_37 (by decide) dX0_standAt_13 rfl hc,
  fun d L h => fk_r_vret dX0_standAt_16 rfl⟩
theorem dX0_goOn_0 : decode cX0_goOn 0 = .ok (.aload_n 0, 1) := by decide +kernel
theorem dX0_goOn_1 : decode cX0_goOn 1 = .ok (.bipush (-2), 2) := by decide +kernel
theorem dX0_goOn_3 : decode cX0_goOn 3 = .ok (.putfield 31, 3) := by decide +kernel
theorem dX0_goOn_6 : decode cX0_goOn 6 = .ok (.aload_n 0, 1) := by decide +kernel
theorem dX0_goOn_7 : decode cX0_goOn 7 = .ok (.iload_n 1, 1) := by decide +kernel
theorem dX0_goOn_8 : decode cX0_goOn 8 = .ok (.putfield 34, 3) := by decide +kernel
theorem dX0_goOn_11 : decode cX0_goOn 11 = .ok (.aload_n 0, 1) := by decide +kernel
theorem dX0_goOn_12 : decode cX0_goOn 12 = .ok (.iload_n 2, 1) := by decide +kernel
theorem dX0_goOn_13 : decode cX0_goOn 13 = .ok (.putfield 37, 3) := by decide +kernel
theorem dX0_goOn_16 : decode cX0_goOn 16 = .ok (.return_, 1) := by decide +kernel
theorem rX0_goOn : (∀ (d : Nat) (a1 a2 : Value) (x : Nat) (st : List Value) (h : fk_H), fk_ev d qX0_goOn 0 [.ref x, a1, a2] st h = fk_ev d qX0_goOn 1 [.ref x, a1, a2] (.ref x :: st) h) ∧
  (∀ (d : Nat) (L st : List Value) (h : fk_H), fk_ev d qX0_goOn 1 L st h = fk_ev d qX0_goOn 3 L (.int ((-2 : Int32)) :: st) h) ∧
  (∀ (d : Nat) (L st : List Value) (N : Nat) (y : Nat → Nat → Int32) (l : Nat → Nat → Int64) (c : Nat) (v : Int32), fk_at c 0 → fk_ev d qX0_goOn 3 L (.int v :: .ref c :: st) (fk_E N y l) = fk_ev d qX0_goOn 6 L st (fk_E N (fk_u y c 6 v) l)) ∧
  (∀ (d : Nat) (a1 a2 : Value) (x : Nat) (st : List Value) (h : fk_H), fk_ev d qX0_goOn 6 [.ref x, a1, a2] st h = fk_ev d qX0_goOn 7 [.ref x, a1, a2] (.ref x :: st) h) ∧
  (∀ (d : Nat) (a0 a2 : Value) (x : Int32) (st : List Value) (h : fk_H), fk_ev d qX0_goOn 7 [a0, .int x, a2] st h = fk_ev d qX0_goOn 8 [a0, .int x, a2] (.int x :: st) h) ∧
  (∀ (d : Nat) (L st : List Value) (N : Nat) (y : Nat → Nat → Int32) (l : Nat → Nat → Int64) (c : Nat) (v : Int32), fk_at c 0 → fk_ev d qX0_goOn 8 L (.int v :: .ref c :: st) (fk_E N y l) = fk_ev d qX0_goOn 11 L st (fk_E N (fk_u y c 7 v) l)) ∧
  (∀ (d : Nat) (a1 a2 : Value) (x : Nat) (st : List Value) (h : fk_H), fk_ev d qX0_goOn 11 [.ref x, a1, a2] st h = fk_ev d qX0_goOn 12 [.ref x, a1, a2] (.ref x :: st) h) ∧
  (∀ (d : Nat) (a0 a1 : Value) (x : Int32) (st : List Value) (h : fk_H), fk_ev d qX0_goOn 12 [a0, a1, .int x] st h = fk_ev d qX0_goOn 13 [a0, a1, .int x] (.int x :: st) h) ∧
  (∀ (d : Nat) (L st : List Value) (N : Nat) (y : Nat → Nat → Int32) (l : Nat → Nat → Int64) (c : Nat) (v : Int32), fk_at c 0 → fk_ev d qX0_goOn 13 L (.int v :: .ref c :: st) (fk_E N y l) = fk_ev d qX0_goOn 16 L st (fk_E N (fk_u y c 8 v) l)) ∧
  (∀ (d : Nat) (L : List Value) (h : fk_H), fk_ev d qX0_goOn 16 L [] h = some (none, h)) := ⟨fun d a1 a2 x st h => fk_w_aloadn 0 [.ref x, a1, a2] dX0_goOn_0 rfl,
  fun d L st h => fk_w_bipush dX0_goOn_1 (by decide),
  fun d L st N y l c v hc => fk_g_putI rfl lf_0_31 (by decide) dX0_goOn_3 rfl hc,
  fun d a1 a2 x st h => fk_w_aloadn 0 [.ref x, a1, a2] dX0_goOn_6 rfl,
  fun d a0 a2 x st h => fk_w_iloadn 1 [a0, .int x, a2] dX0_goOn_7 rfl,
  fun d L st N y l c v hc => fk_g_putI rfl lf_0_34 (by decide) dX0_goOn_8 rfl hc,
  fun d a1 a2 x st h => fk_w_aloadn 0 [.ref x, a1, a2] dX0_goOn_11 rfl,
  fun d a0 a1 x st h => fk_w_iloadn 2 [a0, a1, .int x] dX0_goOn_12 rfl,
  fun d L st N y l c v hc => fk_g_putI rfl lf_0_37 (by decide) dX0_goOn_13 rfl hc,
  fun d L h => fk_r_vret dX0_goOn_16 rfl⟩
theorem dX0_know_0 : decode cX0_know 0 = .ok (.iconst 1, 1) := by decide +kernel
theorem dX0_know_1 : decode cX0_know 1 = .ok (.iload_n 1, 1) := by decide +kernel
theorem dX0_know_2 : decode cX0_know 2 = .ok (.ishl, 1) := by decide +kernel
theorem dX0_know_3 : decode cX0_know 3 = .ok (.istore_n 3, 1) := by decide +kernel
theorem dX0_know_4 : decode cX0_know 4 = .ok (.aload_n 0, 1) := by decide +kernel
theorem dX0_know_5 : decode cX0_know 5 = .ok (.dup, 1) := by decide +kernel
theorem dX0_know_6 : decode cX0_know 6 = .ok (.getfield 46, 3) := by decide +kernel
theorem dX0_know_9 : decode cX0_know 9 = .ok (.iload_n 3, 1) := by decide +kernel
theorem dX0_know_10 : decode cX0_know 10 = .ok (.ior, 1) := by decide +kernel
theorem dX0_know_11 : decode cX0_know 11 = .ok (.putfield 46, 3) := by decide +kernel
theorem dX0_know_14 : decode cX0_know 14 = .ok (.aload_n 0, 1) := by decide +kernel
theorem dX0_know_15 : decode cX0_know 15 = .ok (.iload_n 2, 1) := by decide +kernel
theorem dX0_know_16 : decode cX0_know 16 = .ok (.ifCond .eq 12, 3) := by decide +kernel
theorem dX0_know_19 : decode cX0_know 19 = .ok (.aload_n 0, 1) := by decide +kernel
theorem dX0_know_20 : decode cX0_know 20 = .ok (.getfield 49, 3) := by decide +kernel
theorem dX0_know_23 : decode cX0_know 23 = .ok (.iload_n 3, 1) := by decide +kernel
theorem dX0_know_24 : decode cX0_know 24 = .ok (.ior, 1) := by decide +kernel
theorem dX0_know_25 : decode cX0_know 25 = .ok (.goto 11, 3) := by decide +kernel
theorem dX0_know_28 : decode cX0_know 28 = .ok (.aload_n 0, 1) := by decide +kernel
theorem dX0_know_29 : decode cX0_know 29 = .ok (.getfield 49, 3) := by decide +kernel
theorem dX0_know_32 : decode cX0_know 32 = .ok (.iload_n 3, 1) := by decide +kernel
theorem dX0_know_33 : decode cX0_know 33 = .ok (.iconst (-1), 1) := by decide +kernel
theorem dX0_know_34 : decode cX0_know 34 = .ok (.ixor, 1) := by decide +kernel
theorem dX0_know_35 : decode cX0_know 35 = .ok (.iand, 1) := by decide +kernel
theorem dX0_know_36 : decode cX0_know 36 = .ok (.putfield 49, 3) := by decide +kernel
theorem dX0_know_39 : decode cX0_know 39 = .ok (.return_, 1) := by decide +kernel
theorem rX0_know : (∀ (d : Nat) (L st : List Value) (h : fk_H), fk_ev d qX0_know 0 L st h = fk_ev d qX0_know 1 L (.int (nI 1) :: st) h) ∧
  (∀ (d : Nat) (a0 a2 a3 : Value) (x : Int32) (st : List Value) (h : fk_H), fk_ev d qX0_know 1 [a0, .int x, a2, a3] st h = fk_ev d qX0_know 2 [a0, .int x, a2, a3] (.int x :: st) h) ∧
  (∀ (d : Nat) (L : List Value) (x y : Int32) (st : List Value) (h : fk_H), fk_ev d qX0_know 2 L (.int y :: .int x :: st) h = fk_ev d qX0_know 3 L (.int (x <<< (y &&& 31)) :: st) h) ∧
  (∀ (d : Nat) (a0 a1 a2 a3 : Value) (x : Int32) (st : List Value) (h : fk_H), fk_ev d qX0_know 3 [a0, a1, a2, a3] (.int x :: st) h = fk_ev d qX0_know 4 [a0, a1, a2, .int x] st h) ∧
  (∀ (d : Nat) (a1 a2 a3 : Value) (x : Nat) (st : List Value) (h : fk_H), fk_ev d qX0_know 4 [.ref x, a1, a2, a3] st h = fk_ev d qX0_know 5 [.ref x, a1, a2, a3] (.ref x :: st) h) ∧
  (∀ (d : Nat) (L : List Value) (x : Nat) (st : List Value) (h : fk_H), fk_ev d qX0_know 5 L (.ref x :: st) h = fk_ev d qX0_know 6 L (.ref x :: .ref x :: st) h) ∧
  (∀ (d : Nat) (L st : List Value) (N : Nat) (y : Nat → Nat → Int32) (l : Nat → Nat → Int64) (c : Nat), fk_at c 0 → fk_ev d qX0_know 6 L (.ref c :: st) (fk_E N y l) = fk_ev d qX0_know 9 L (.int (y c 11) :: st) (fk_E N y l)) ∧
  (∀ (d : Nat) (a0 a1 a2 : Value) (x : Int32) (st : List Value) (h : fk_H), fk_ev d qX0_know 9 [a0, a1, a2, .int x] st h = fk_ev d qX0_know 10 [a0, a1, a2, .int x] (.int x :: st) h) ∧
  (∀ (d : Nat) (L : List Value) (x y : Int32) (st : List Value) (h : fk_H), fk_ev d qX0_know 10 L (.int y :: .int x :: st) h = fk_ev d qX0_know 11 L (.int (x ||| y) :: st) h) ∧
  (∀ (d : Nat) (L st : List Value) (N : Nat) (y : Nat → Nat → Int32) (l : Nat → Nat → Int64) (c : Nat) (v : Int32), fk_at c 0 → fk_ev d qX0_know 11 L (.int v :: .ref c :: st) (fk_E N y l) = fk_ev d qX0_know 14 L st (fk_E N (fk_u y c 11 v) l)) ∧
  (∀ (d : Nat) (a1 a2 a3 : Value) (x : Nat) (st : List Value) (h : fk_H), fk_ev d qX0_know 14 [.ref x, a1, a2, a3] st h = fk_ev d qX0_know 15 [.ref x, a1, a2, a3] (.ref x :: st) h) ∧
  (∀ (d : Nat) (a0 a1 a3 : Value) (x : Int32) (st : List Value) (h : fk_H), fk_ev d qX0_know 15 [a0, a1, .int x, a3] st h = fk_ev d qX0_know 16 [a0, a1, .int x, a3] (.int x :: st) h) ∧
  (∀ (d : Nat) (L : List Value) (x : Int32) (st : List Value) (h : fk_H), fk_ev d qX0_know 16 L (.int x :: st) h = if x = nI 0 then fk_ev d qX0_know 28 L st h else fk_ev d qX0_know 19 L st h) ∧
  (∀ (d : Nat) (a1 a2 a3 : Value) (x : Nat) (st : List Value) (h : fk_H), fk_ev d qX0_know 19 [.ref x, a1, a2, a3] st h = fk_ev d qX0_know 20 [.ref x, a1, a2, a3] (.ref x :: st) h) ∧
  (∀ (d : Nat) (L st : List Value) (N : Nat) (y : Nat → Nat → Int32) (l : Nat → Nat → Int64) (c : Nat), fk_at c 0 → fk_ev d qX0_know 20 L (.ref c :: st) (fk_E N y l) = fk_ev d qX0_know 23 L (.int (y c 12) :: st) (fk_E N y l)) ∧
  (∀ (d : Nat) (a0 a1 a2 : Value) (x : Int32) (st : List Value) (h : fk_H), fk_ev d qX0_know 23 [a0, a1, a2, .int x] st h = fk_ev d qX0_know 24 [a0, a1, a2, .int x] (.int x :: st) h) ∧
  (∀ (d : Nat) (L : List Value) (x y : Int32) (st : List Value) (h : fk_H), fk_ev d qX0_know 24 L (.int y :: .int x :: st) h = fk_ev d qX0_know 25 L (.int (x ||| y) :: st) h) ∧
  (∀ (d : Nat) (L st : List Value) (h : fk_H), fk_ev d qX0_know 25 L st h = fk_ev d qX0_know 36 L st h) ∧
  (∀ (d : Nat) (a1 a2 a3 : Value) (x : Nat) (st : List Value) (h : fk_H), fk_ev d qX0_know 28 [.ref x, a1, a2, a3] st h = fk_ev d qX0_know 29 [.ref x, a1, a2, a3] (.ref x :: st) h) ∧
  (∀ (d : Nat) (L st : List Value) (N : Nat) (y : Nat → Nat → Int32) (l : Nat → Nat → Int64) (c : Nat), fk_at c 0 → fk_ev d qX0_know 29 L (.ref c :: st) (fk_E N y l) = fk_ev d qX0_know 32 L (.int (y c 12) :: st) (fk_E N y l)) ∧
  (∀ (d : Nat) (a0 a1 a2 : Value) (x : Int32) (st : List Value) (h : fk_H), fk_ev d qX0_know 32 [a0, a1, a2, .int x] st h = fk_ev d qX0_know 33 [a0, a1, a2, .int x] (.int x :: st) h) ∧
  (∀ (d : Nat) (L st : List Value) (h : fk_H), fk_ev d qX0_know 33 L st h = fk_ev d qX0_know 34 L (.int ((-1 : Int32)) :: st) h) ∧
  (∀ (d : Nat) (L : List Value) (x y : Int32) (st : List Value) (h : fk_H), fk_ev d qX0_know 34 L (.int y :: .int x :: st) h = fk_ev d qX0_know 35 L (.int (x ^^^ y) :: st) h) ∧
  (∀ (d : Nat) (L : List Value) (x y : Int32) (st : List Value) (h : fk_H), fk_ev d qX0_know 35 L (.int y :: .int x :: st) h = fk_ev d qX0_know 36 L (.int (x &&& y) :: st) h) ∧
  (∀ (d : Nat) (L st : List Value) (N : Nat) (y : Nat → Nat → Int32) (l : Nat → Nat → Int64) (c : Nat) (v : Int32), fk_at c 0 → fk_ev d qX0_know 36 L (.int v :: .ref c :: st) (fk_E N y l) = fk_ev d qX0_know 39 L st (fk_E N (fk_u y c 12 v) l)) ∧
  (∀ (d : Nat) (L : List Value) (h : fk_H), fk_ev d qX0_know 39 L [] h = some (none, h)) := ⟨fun d L st h => fk_w_iconst dX0_know_0 (by decide),
  fun d a0 a2 a3 x st h => fk_w_iloadn 1 [a0, .int x, a2, a3] dX0_know_1 rfl,
  fun d L x y st h => fk_r_ishl dX0_know_2,
  fun d a0 a1 a2 a3 x st h => fk_w_istoren 3 4 [] [a0, a1, a2, a3] [a0, a1, a2, .int x] dX0_know_3 rfl rfl (by decide) rfl,
  fun d a1 a2 a3 x st h => fk_w_aloadn 0 [.ref x, a1, a2, a3] dX0_know_4 rfl,
  fun d L x st h => fk_r_dup_ref dX0_know_5,
  fun d L st N y l c hc => fk_g_getI rfl lf_0_46 (by decide) dX0_know_6 hc,
  fun d a0 a1 a2 x st h => fk_w_iloadn 3 [a0, a1, a2, .int x] dX0_know_9 rfl,
  fun d L x y st h => fk_r_ior dX0_know_10,
  fun d L st N y l c v hc => fk_g_putI rfl lf_0_46 (by decide) dX0_know_11 rfl hc,
  fun d a1 a2 a3 x st h => fk_w_aloadn 0 [.ref x, a1, a2, a3] dX0_know_14 rfl,
  fun d a0 a1 a3 x st h => fk_w_iloadn 2 [a0, a1, .int x, a3] dX0_know_15 rfl,
  fun d L x st h => fk_r_if_eq dX0_know_16 (by decide),
  fun d a1 a2 a3 x st h => fk_w_aloadn 0 [.ref x, a1, a2, a3] dX0_know_19 rfl,
  fun d L st N y l c hc => fk_g_getI rfl lf_0_49 (by decide) dX0_know_20 hc,
  fun d a0 a1 a2 x st h => fk_w_iloadn 3 [a0, a1, a2, .int x] dX0_know_23 rfl,
  fun d L x y st h => fk_r_ior dX0_know_24,
  fun d L st h => fk_r_goto dX0_know_25 (by decide),
  fun d a1 a2 a3 x st h => fk_w_aloadn 0 [.ref x, a1, a2, a3] dX0_know_28 rfl,
  fun d L st N y l c hc => fk_g_getI rfl lf_0_49 (by decide) dX0_know_29 hc,
  fun d a0 a1 a2 x st h => fk_w_iloadn 3 [a0, a1, a2, .int x] dX0_know_32 rfl,
  fun d L st h => fk_w_iconst dX0_know_33 (by decide),
  fun d L x y st h => fk_r_ixor dX0_know_34,
  fun d L x y st h => fk_r_iand dX0_know_35,
  fun d L st N y l c v hc => fk_g_putI rfl lf_0_49 (by decide) dX0_know_36 rfl hc,
  fun d L h => fk_r_vret dX0_know_39 rfl⟩
theorem dX0_knows_0 : decode cX0_knows 0 = .ok (.aload_n 0, 1) := by decide +kernel
theorem dX0_knows_1 : decode cX0_knows 1 = .ok (.getfield 46, 3) := by decide +kernel
theorem dX0_knows_4 : decode cX0_knows 4 = .ok (.iload_n 1, 1) := by decide +kernel
theorem dX0_knows_5 : decode cX0_knows 5 = .ok (.ishr, 1) := by decide +kernel
theorem dX0_knows_6 : decode cX0_knows 6 = .ok (.iconst 1, 1) := by decide +kernel
theorem dX0_knows_7 : decode cX0_knows 7 = .ok (.iand, 1) := by decide +kernel
theorem dX0_knows_8 : decode cX0_knows 8 = .ok (.ifCond .ne 6, 3) := by decide +kernel
theorem dX0_knows_11 : decode cX0_knows 11 = .ok (.bipush (-2), 2) := by decide +kernel
theorem dX0_knows_13 : decode cX0_knows 13 = .ok (.ireturn, 1) := by decide +kernel
theorem dX0_knows_14 : decode cX0_knows 14 = .ok (.aload_n 0, 1) := by decide +kernel
theorem dX0_knows_15 : decode cX0_knows 15 = .ok (.getfield 49, 3) := by decide +kernel
theorem dX0_knows_18 : decode cX0_knows 18 = .ok (.iload_n 1, 1) := by decide +kernel
theorem dX0_knows_19 : decode cX0_knows 19 = .ok (.ishr, 1) := by decide +kernel
theorem dX0_knows_20 : decode cX0_knows 20 = .ok (.iconst 1, 1) := by decide +kernel
theorem dX0_knows_21 : decode cX0_knows 21 = .ok (.iand, 1) := by decide +kernel
theorem dX0_knows_22 : decode cX0_knows 22 = .ok (.ireturn, 1) := by decide +kernel
theorem rX0_knows : (∀ (d : Nat) (a1 : Value) (x : Nat) (st : List Value) (h : fk_H), fk_ev d qX0_knows 0 [.ref x, a1] st h = fk_ev d qX0_knows 1 [.ref x, a1] (.ref x :: st) h) ∧
  (∀ (d : Nat) (L st : List Value) (N : Nat) (y : Nat → Nat → Int32) (l : Nat → Nat → Int64) (c : Nat), fk_at c 0 → fk_ev d qX0_knows 1 L (.ref c :: st) (fk_E N y l) = fk_ev d qX0_knows 4 L (.int (y c 11) :: st) (fk_E N y l)) ∧
  (∀ (d : Nat) (a0 : Value) (x : Int32) (st : List Value) (h : fk_H), fk_ev d qX0_knows 4 [a0, .int x] st h = fk_ev d qX0_knows 5 [a0, .int x] (.int x :: st) h) ∧
  (∀ (d : Nat) (L : List Value) (x y : Int32) (st : List Value) (h : fk_H), fk_ev d qX0_knows 5 L (.int y :: .int x :: st) h = fk_ev d qX0_knows 6 L (.int (x >>> (y &&& 31)) :: st) h) ∧
  (∀ (d : Nat) (L st : List Value) (h : fk_H), fk_ev d qX0_knows 6 L st h = fk_ev d qX0_knows 7 L (.int (nI 1) :: st) h) ∧
  (∀ (d : Nat) (L : List Value) (x y : Int32) (st : List Value) (h : fk_H), fk_ev d qX0_knows 7 L (.int y :: .int x :: st) h = fk_ev d qX0_knows 8 L (.int (x &&& y) :: st) h) ∧
  (∀ (d : Nat) (L : List Value) (x : Int32) (st : List Value) (h : fk_H), fk_ev d qX0_knows 8 L (.int x :: st) h = if ¬ x = nI 0 then fk_ev d qX0_knows 14 L st h else fk_ev d qX0_knows 11 L st h) ∧
  (∀ (d : Nat) (L st : List Value) (h : fk_H), fk_ev d qX0_knows 11 L st h = fk_ev d qX0_knows 13 L (.int ((-2 : Int32)) :: st) h) ∧
  (∀ (d : Nat) (L : List Value) (x : Int32) (h : fk_H), fk_ev d qX0_knows 13 L [.int x] h = some (some (.int x), h)) ∧
  (∀ (d : Nat) (a1 : Value) (x : Nat) (st : List Value) (h : fk_H), fk_ev d qX0_knows 14 [.ref x, a1] st h = fk_ev d qX0_knows 15 [.ref x, a1] (.ref x :: st) h) ∧
  (∀ (d : Nat) (L st : List Value) (N : Nat) (y : Nat → Nat → Int32) (l : Nat → Nat → Int64) (c : Nat), fk_at c 0 → fk_ev d qX0_knows 15 L (.ref c :: st) (fk_E N y l) = fk_ev d qX0_knows 18 L (.int (y c 12) :: st) (fk_E N y l)) ∧
  (∀ (d : Nat) (a0 : Value) (x : Int32) (st : List Value) (h : fk_H), fk_ev d qX0_knows 18 [a0, .int x] st h = fk_ev d qX0_knows 19 [a0, .int x] (.int x :: st) h) ∧
  (∀ (d : Nat) (L : List Value) (x y : Int32) (st : List Value) (h : fk_H), fk_ev d qX0_knows 19 L (.int y :: .int x :: st) h = fk_ev d qX0_knows 20 L (.int (x >>> (y &&& 31)) :: st) h) ∧
  (∀ (d : Nat) (L st : List Value) (h : fk_H), fk_ev d qX0_knows 20 L st h = fk_ev d qX0_knows 21 L (.int (nI 1) :: st) h) ∧
  (∀ (d : Nat) (L : List Value) (x y : Int32) (st : List Value) (h : fk_H), fk_ev d qX0_knows 21 L (.int y :: .int x :: st) h = fk_ev d qX0_knows 22 L (.int (x &&& y) :: st) h) ∧
  (∀ (d : Nat) (L : List Value) (x : Int32) (h : fk_H), fk_ev d qX0_knows 22 L [.int x] h = some (some (.int x), h)) := ⟨fun d a1 x st h => fk_w_aloadn 0 [.ref x, a1] dX0_knows_0 rfl,
  fun d L st N y l c hc => fk_g_getI rfl lf_0_46 (by decide) dX0_knows_1 hc,
  fun d a0 x st h => fk_w_iloadn 1 [a0, .int x] dX0_knows_4 rfl,
  fun d L x y st h => fk_r_ishr dX0_knows_5,
  fun d L st h => fk_w_iconst dX0_knows_6 (by decide),
  fun d L x y st h => fk_r_iand dX0_knows_7,
  fun d L x st h => fk_r_if_ne dX0_knows_8 (by decide),
  fun d L st h => fk_w_bipush dX0_knows_11 (by decide),
  fun d L x h => fk_r_ret dX0_knows_13 (Or.inl rfl),
  fun d a1 x st h => fk_w_aloadn 0 [.ref x, a1] dX0_knows_14 rfl,
  fun d L st N y l c hc => fk_g_getI rfl lf_0_49 (by decide) dX0_knows_15 hc,
  fun d a0 x st h => fk_w_iloadn 1 [a0, .int x] dX0_knows_18 rfl,
  fun d L x y st h => fk_r_ishr dX0_knows_19,
  fun d L st h => fk_w_iconst dX0_knows_20 (by decide),
  fun d L x y st h => fk_r_iand dX0_knows_21,
  fun d L x h => fk_r_ret dX0_knows_22 (Or.inl rfl)⟩
theorem dX0_clash_0 : decode cX0_clash 0 = .ok (.aload_n 0, 1) := by decide +kernel
theorem dX0_clash_1 : decode cX0_clash 1 = .ok (.getfield 46, 3) := by decide +kernel
theorem dX0_clash_4 : decode cX0_clash 4 = .ok (.aload_n 1, 1) := by decide +kernel
theorem dX0_clash_5 : decode cX0_clash 5 = .ok (.getfield 46, 3) := by decide +kernel
theorem dX0_clash_8 : decode cX0_clash 8 = .ok (.iand, 1) := by decide +kernel
theorem dX0_clash_9 : decode cX0_clash 9 = .ok (.aload_n 0, 1) := by decide +kernel
theorem dX0_clash_10 : decode cX0_clash 10 = .ok (.getfield 49, 3) := by decide +kernel
theorem dX0_clash_13 : decode cX0_clash 13 = .ok (.aload_n 1, 1) := by decide +kernel
theorem dX0_clash_14 : decode cX0_clash 14 = .ok (.getfield 49, 3) := by decide +kernel
theorem dX0_clash_17 : decode cX0_clash 17 = .ok (.ixor, 1) := by decide +kernel
theorem dX0_clash_18 : decode cX0_clash 18 = .ok (.iand, 1) := by decide +kernel
theorem dX0_clash_19 : decode cX0_clash 19 = .ok (.ireturn, 1) := by decide +kernel
theorem rX0_clash : (∀ (d : Nat) (a1 : Value) (x : Nat) (st : List Value) (h : fk_H), fk_ev d qX0_clash 0 [.ref x, a1] st h = fk_ev d qX0_clash 1 [.ref x, a1] (.ref x :: st) h) ∧
  (∀ (d : Nat) (L st : List Value) (N : Nat) (y : Nat → Nat → Int32) (l : Nat → Nat → Int64) (c : Nat), fk_at c 0 → fk_ev d qX0_clash 1 L (.ref c :: st) (fk_E N y l) = fk_ev d qX0_clash 4 L (.int (y c 11) :: st) (fk_E N y l)) ∧
  (∀ (d : Nat) (a0 : Value) (x : Nat) (st : List Value) (h : fk_H), fk_ev d qX0_clash 4 [a0, .ref x] st h = fk_ev d qX0_clash 5 [a0, .ref x] (.ref x :: st) h) ∧
  (∀ (d : Nat) (L st : List Value) (N : Nat) (y : Nat → Nat → Int32) (l : Nat → Nat → Int64) (c : Nat), fk_at c 0 → fk_ev d qX0_clash 5 L (.ref c :: st) (fk_E N y l) = fk_ev d qX0_clash 8 L (.int (y c 11) :: st) (fk_E N y l)) ∧
  (∀ (d : Nat) (L : List Value) (x y : Int32) (st : List Value) (h : fk_H), fk_ev d qX0_clash 8 L (.int y :: .int x :: st) h = fk_ev d qX0_clash 9 L (.int (x &&& y) :: st) h) ∧
  (∀ (d : Nat) (a1 : Value) (x : Nat) (st : List Value) (h : fk_H), fk_ev d qX0_clash 9 [.ref x, a1] st h = fk_ev d qX0_clash 10 [.ref x, a1] (.ref x :: st) h) ∧
  (∀ (d : Nat) (L st : List Value) (N : Nat) (y : Nat → Nat → Int32) (l : Nat → Nat → Int64) (c : Nat), fk_at c 0 → fk_ev d qX0_clash 10 L (.ref c :: st) (fk_E N y l) = fk_ev d qX0_clash 13 L (.int (y c 12) :: st) (fk_E N y l)) ∧
  (∀ (d : Nat) (a0 : Value) (x : Nat) (st : List Value) (h : fk_H), fk_ev d qX0_clash 13 [a0, .ref x] st h = fk_ev d qX0_clash 14 [a0, .ref x] (.ref x :: st) h) ∧
  (∀ (d : Nat) (L st : List Value) (N : Nat) (y : Nat → Nat → Int32) (l : Nat → Nat → Int64) (c : Nat), fk_at c 0 → fk_ev d qX0_clash 14 L (.ref c :: st) (fk_E N y l) = fk_ev d qX0_clash 17 L (.int (y c 12) :: st) (fk_E N y l)) ∧
  (∀ (d : Nat) (L : List Value) (x y : Int32) (st : List Value) (h : fk_H), fk_ev d qX0_clash 17 L (.int y :: .int x :: st) h = fk_ev d qX0_clash 18 L (.int (x ^^^ y) :: st) h) ∧
  (∀ (d : Nat) (L : List Value) (x y : Int32) (st : List Value) (h : fk_H), fk_ev d qX0_clash 18 L (.int y :: .int x :: st) h = fk_ev d qX0_clash 19 L (.int (x &&& y) :: st) h) ∧
  (∀ (d : Nat) (L : List Value) (x : Int32) (h : fk_H), fk_ev d qX0_clash 19 L [.int x] h = some (some (.int x), h)) := ⟨fun d a1 x st h => fk_w_aloadn 0 [.ref x, a1] dX0_clash_0 rfl,
  fun d L st N y l c hc => fk_g_getI rfl lf_0_46 (by decide) dX0_clash_1 hc,
  fun d a0 x st h => fk_w_aloadn 1 [a0, .ref x] dX0_clash_4 rfl,
  fun d L st N y l c hc => fk_g_getI rfl lf_0_46 (by decide) dX0_clash_5 hc,
  fun d L x y st h => fk_r_iand dX0_clash_8,
  fun d a1 x st h => fk_w_aloadn 0 [.ref x, a1] dX0_clash_9 rfl,
  fun d L st N y l c hc => fk_g_getI rfl lf_0_49 (by decide) dX0_clash_10 hc,
  fun d a0 x st h => fk_w_aloadn 1 [a0, .ref x] dX0_clash_13 rfl,
  fun d L st N y l c hc => fk_g_getI rfl lf_0_49 (by decide) dX0_clash_14 hc,
  fun d L x y st h => fk_r_ixor dX0_clash_17,
  fun d L x y st h => fk_r_iand dX0_clash_18,
  fun d L x h => fk_r_ret dX0_clash_19 (Or.inl rfl)⟩
theorem dX0_takeIn_0 : decode cX0_takeIn 0 = .ok (.aload_n 0, 1) := by decide +kernel
theorem dX0_takeIn_1 : decode cX0_takeIn 1 = .ok (.aload_n 0, 1) := by decide +kernel
theorem dX0_takeIn_2 : decode cX0_takeIn 2 = .ok (.getfield 49, 3) := by decide +kernel
theorem dX0_takeIn_5 : decode cX0_takeIn 5 = .ok (.aload_n 1, 1) := by decide +kernel
theorem dX0_takeIn_6 : decode cX0_takeIn 6 = .ok (.getfield 49, 3) := by decide +kernel
theorem dX0_takeIn_9 : decode cX0_takeIn 9 = .ok (.aload_n 0, 1) := by decide +kernel
theorem dX0_takeIn_10 : decode cX0_takeIn 10 = .ok (.getfield 46, 3) := by decide +kernel
theorem dX0_takeIn_13 : decode cX0_takeIn 13 = .ok (.iconst (-1), 1) := by decide +kernel
theorem dX0_takeIn_14 : decode cX0_takeIn 14 = .ok (.ixor, 1) := by decide +kernel
theorem dX0_takeIn_15 : decode cX0_takeIn 15 = .ok (.iand, 1) := by decide +kernel
theorem dX0_takeIn_16 : decode cX0_takeIn 16 = .ok (.ior, 1) := by decide +kernel
theorem dX0_takeIn_17 : decode cX0_takeIn 17 = .ok (.iload_n 2, 1) := by decide +kernel
theorem dX0_takeIn_18 : decode cX0_takeIn 18 = .ok (.iconst (-1), 1) := by decide +kernel
theorem dX0_takeIn_19 : decode cX0_takeIn 19 = .ok (.ixor, 1) := by decide +kernel
theorem dX0_takeIn_20 : decode cX0_takeIn 20 = .ok (.iand, 1) := by decide +kernel
theorem dX0_takeIn_21 : decode cX0_takeIn 21 = .ok (.putfield 49, 3) := by decide +kernel
theorem dX0_takeIn_24 : decode cX0_takeIn 24 = .ok (.aload_n 0, 1) := by decide +kernel
theorem dX0_takeIn_25 : decode cX0_takeIn 25 = .ok (.aload_n 0, 1) := by decide +kernel
theorem dX0_takeIn_26 : decode cX0_takeIn 26 = .ok (.getfield 46, 3) := by decide +kernel
theorem dX0_takeIn_29 : decode cX0_takeIn 29 = .ok (.aload_n 1, 1) := by decide +kernel
theorem dX0_takeIn_30 : decode cX0_takeIn 30 = .ok (.getfield 46, 3) := by decide +kernel
theorem dX0_takeIn_33 : decode cX0_takeIn 33 = .ok (.ior, 1) := by decide +kernel
theorem dX0_takeIn_34 : decode cX0_takeIn 34 = .ok (.iload_n 2, 1) := by decide +kernel
theorem dX0_takeIn_35 : decode cX0_takeIn 35 = .ok (.iconst (-1), 1) := by decide +kernel
theorem dX0_takeIn_36 : decode cX0_takeIn 36 = .ok (.ixor, 1) := by decide +kernel
theorem dX0_takeIn_37 : decode cX0_takeIn 37 = .ok (.iand, 1) := by decide +kernel
theorem dX0_takeIn_38 : decode cX0_takeIn 38 = .ok (.putfield 46, 3) := by decide +kernel
theorem dX0_takeIn_41 : decode cX0_takeIn 41 = .ok (.aload_n 0, 1) := by decide +kernel
theorem dX0_takeIn_42 : decode cX0_takeIn 42 = .ok (.dup, 1) := by decide +kernel
theorem dX0_takeIn_43 : decode cX0_takeIn 43 = .ok (.getfield 28, 3) := by decide +kernel
theorem dX0_takeIn_46 : decode cX0_takeIn 46 = .ok (.aload_n 1, 1) := by decide +kernel
theorem dX0_takeIn_47 : decode cX0_takeIn 47 = .ok (.getfield 28, 3) := by decide +kernel
theorem dX0_takeIn_50 : decode cX0_takeIn 50 = .ok (.iadd, 1) := by decide +kernel
theorem dX0_takeIn_51 : decode cX0_takeIn 51 = .ok (.putfield 28, 3) := by decide +kernel
theorem dX0_takeIn_54 : decode cX0_takeIn 54 = .ok (.aload_n 0, 1) := by decide +kernel
theorem dX0_takeIn_55 : decode cX0_takeIn 55 = .ok (.ldc 62, 2) := by decide +kernel
theorem dX0_takeIn_57 : decode cX0_takeIn 57 = .ok (.aload_n 0, 1) := by decide +kernel
theorem dX0_takeIn_58 : decode cX0_takeIn 58 = .ok (.getfield 43, 3) := by decide +kernel
theorem dX0_takeIn_61 : decode cX0_takeIn 61 = .ok (.aload_n 1, 1) := by decide +kernel
theorem dX0_takeIn_62 : decode cX0_takeIn 62 = .ok (.getfield 43, 3) := by decide +kernel
theorem dX0_takeIn_65 : decode cX0_takeIn 65 = .ok (.iadd, 1) := by decide +kernel
theorem dX0_takeIn_66 : decode cX0_takeIn 66 = .ok (.invokestatic 63, 3) := by decide +kernel
theorem dX0_takeIn_69 : decode cX0_takeIn 69 = .ok (.putfield 43, 3) := by decide +kernel
theorem dX0_takeIn_72 : decode cX0_takeIn 72 = .ok (.aload_n 0, 1) := by decide +kernel
theorem dX0_takeIn_73 : decode cX0_takeIn 73 = .ok (.aload_n 0, 1) := by decide +kernel
theorem dX0_takeIn_74 : decode cX0_takeIn 74 = .ok (.getfield 40, 3) := by decide +kernel
theorem dX0_takeIn_77 : decode cX0_takeIn 77 = .ok (.aload_n 1, 1) := by decide +kernel
theorem dX0_takeIn_78 : decode cX0_takeIn 78 = .ok (.getfield 40, 3) := by decide +kernel
theorem dX0_takeIn_81 : decode cX0_takeIn 81 = .ok (.invokestatic 69, 3) := by decide +kernel
theorem dX0_takeIn_84 : decode cX0_takeIn 84 = .ok (.putfield 40, 3) := by decide +kernel
theorem dX0_takeIn_87 : decode cX0_takeIn 87 = .ok (.aload_n 0, 1) := by decide +kernel
theorem dX0_takeIn_88 : decode cX0_takeIn 88 = .ok (.aload_n 0, 1) := by decide +kernel
theorem dX0_takeIn_89 : decode cX0_takeIn 89 = .ok (.getfield 55, 3) := by decide +kernel
theorem dX0_takeIn_92 : decode cX0_takeIn 92 = .ok (.ifCond .ne 10, 3) := by decide +kernel
theorem dX0_takeIn_95 : decode cX0_takeIn 95 = .ok (.aload_n 1, 1) := by decide +kernel
theorem dX0_takeIn_96 : decode cX0_takeIn 96 = .ok (.getfield 55, 3) := by decide +kernel
theorem dX0_takeIn_99 : decode cX0_takeIn 99 = .ok (.ifCond .eq 7, 3) := by decide +kernel
theorem dX0_takeIn_102 : decode cX0_takeIn 102 = .ok (.iconst 1, 1) := by decide +kernel
theorem dX0_takeIn_103 : decode cX0_takeIn 103 = .ok (.goto 4, 3) := by decide +kernel
theorem dX0_takeIn_106 : decode cX0_takeIn 106 = .ok (.iconst 0, 1) := by decide +kernel
theorem dX0_takeIn_107 : decode cX0_takeIn 107 = .ok (.putfield 55, 3) := by decide +kernel
theorem dX0_takeIn_110 : decode cX0_takeIn 110 = .ok (.aload_n 1, 1) := by decide +kernel
theorem dX0_takeIn_111 : decode cX0_takeIn 111 = .ok (.iconst 0, 1) := by decide +kernel
theorem dX0_takeIn_112 : decode cX0_takeIn 112 = .ok (.putfield 24, 3) := by decide +kernel
theorem dX0_takeIn_115 : decode cX0_takeIn 115 = .ok (.aload_n 1, 1) := by decide +kernel
theorem dX0_takeIn_116 : decode cX0_takeIn 116 = .ok (.aload_n 0, 1) := by decide +kernel
theorem dX0_takeIn_117 : decode cX0_takeIn 117 = .ok (.getfield 9, 3) := by decide +kernel
theorem dX0_takeIn_120 : decode cX0_takeIn 120 = .ok (.putfield 52, 3) := by decide +kernel
theorem dX0_takeIn_123 : decode cX0_takeIn 123 = .ok (.return_, 1) := by decide +kernel
theorem rX0_takeIn : (∀ (d : Nat) (a1 a2 : Value) (x : Nat) (st : List Value) (h : fk_H), fk_ev d qX0_takeIn 0 [.ref x, a1, a2] st h = fk_ev d qX0_takeIn 1 [.ref x, a1, a2] (.ref x :: st) h) ∧
  (∀ (d : Nat) (a1 a2 : Value) (x : Nat) (st : List Value) (h : fk_H), fk_ev d qX0_takeIn 1 [.ref x, a1, a2] st h = fk_ev d qX0_takeIn 2 [.ref x, a1, a2] (.ref x :: st) h) ∧
  (∀ (d : Nat) (L st : List Value) (N : Nat) (y : Nat → Nat → Int32) (l : Nat → Nat → Int64) (c : Nat), fk_at c 0 → fk_ev d qX0_takeIn 2 L (.ref c :: st) (fk_E N y l) = fk_ev d qX0_takeIn 5 L (.int (y c 12) :: st) (fk_E N y l)) ∧
  (∀ (d : Nat) (a0 a2 : Value) (x : Nat) (st : List Value) (h : fk_H), fk_ev d qX0_takeIn 5 [a0, .ref x, a2] st h = fk_ev d qX0_takeIn 6 [a0, .ref x, a2] (.ref x :: st) h) ∧
  (∀ (d : Nat) (L st : List Value) (N : Nat) (y : Nat → Nat → Int32) (l : Nat → Nat → Int64) (c : Nat), fk_at c 0 → fk_ev d qX0_takeIn 6 L (.ref c :: st) (fk_E N y l) = fk_ev d qX0_takeIn 9 L (.int (y c 12) :: st) (fk_E N y l)) ∧
  (∀ (d : Nat) (a1 a2 : Value) (x : Nat) (st : List Value) (h : fk_H), fk_ev d qX0_takeIn 9 [.ref x, a1, a2] st h = fk_ev d qX0_takeIn 10 [.ref x, a1, a2] (.ref x :: st) h) ∧
  (∀ (d : Nat) (L st : List Value) (N : Nat) (y : Nat → Nat → Int32) (l : Nat → Nat → Int64) (c : Nat), fk_at c 0 → fk_ev d qX0_takeIn 10 L (.ref c :: st) (fk_E N y l) = fk_ev d qX0_takeIn 13 L (.int (y c 11) :: st) (fk_E N y l)) ∧
  (∀ (d : Nat) (L st : List Value) (h : fk_H), fk_ev d qX0_takeIn 13 L st h = fk_ev d qX0_takeIn 14 L (.int ((-1 : Int32)) :: st) h) ∧
  (∀ (d : Nat) (L : List Value) (x y : Int32) (st : List Value) (h : fk_H), fk_ev d qX0_takeIn 14 L (.int y :: .int x :: st) h = fk_ev d qX0_takeIn 15 L (.int (x ^^^ y) :: st) h) ∧
  (∀ (d : Nat) (L : List Value) (x y : Int32) (st : List Value) (h : fk_H), fk_ev d qX0_takeIn 15 L (.int y :: .int x :: st) h = fk_ev d qX0_takeIn 16 L (.int (x &&& y) :: st) h) ∧
  (∀ (d : Nat) (L : List Value) (x y : Int32) (st : List Value) (h : fk_H), fk_ev d qX0_takeIn 16 L (.int y :: .int x :: st) h = fk_ev d qX0_takeIn 17 L (.int (x ||| y) :: st) h) ∧
  (∀ (d : Nat) (a0 a1 : Value) (x : Int32) (st : List Value) (h : fk_H), fk_ev d qX0_takeIn 17 [a0, a1, .int x] st h = fk_ev d qX0_takeIn 18 [a0, a1, .int x] (.int x :: st) h) ∧
  (∀ (d : Nat) (L st : List Value) (h : fk_H), fk_ev d qX0_takeIn 18 L st h = fk_ev d qX0_takeIn 19 L (.int ((-1 : Int32)) :: st) h) ∧
  (∀ (d : Nat) (L : List Value) (x y : Int32) (st : List Value) (h : fk_H), fk_ev d qX0_takeIn 19 L (.int y :: .int x :: st) h = fk_ev d qX0_takeIn 20 L (.int (x ^^^ y) :: st) h) ∧
  (∀ (d : Nat) (L : List Value) (x y : Int32) (st : List Value) (h : fk_H), fk_ev d qX0_takeIn 20 L (.int y :: .int x :: st) h = fk_ev d qX0_takeIn 21 L (.int (x &&& y) :: st) h) ∧
  (∀ (d : Nat) (L st : List Value) (N : Nat) (y : Nat → Nat → Int32) (l : Nat → Nat → Int64) (c : Nat) (v : Int32), fk_at c 0 → fk_ev d qX0_takeIn 21 L (.int v :: .ref c :: st) (fk_E N y l) = fk_ev d qX0_takeIn 24 L st (fk_E N (fk_u y c 12 v) l)) ∧
  (∀ (d : Nat) (a1 a2 : Value) (x : Nat) (st : List Value) (h : fk_H), fk_ev d qX0_takeIn 24 [.ref x, a1, a2] st h = fk_ev d qX0_takeIn 25 [.ref x, a1, a2] (.ref x :: st) h) ∧
  (∀ (d : Nat) (a1 a2 : Value) (x : Nat) (st : List Value) (h : fk_H), fk_ev d qX0_takeIn 25 [.ref x, a1, a2] st h = fk_ev d qX0_takeIn 26 [.ref x, a1, a2] (.ref x :: st) h) ∧
  (∀ (d : Nat) (L st : List Value) (N : Nat) (y : Nat → Nat → Int32) (l : Nat → Nat → Int64) (c : Nat), fk_at c 0 → fk_ev d qX0_takeIn 26 L (.ref c :: st) (fk_E N y l) = fk_ev d qX0_takeIn 29 L (.int (y c 11) :: st) (fk_E N y l)) ∧
  (∀ (d : Nat) (a0 a2 : Value) (x : Nat) (st : List Value) (h : fk_H), fk_ev d qX0_takeIn 29 [a0, .ref x, a2] st h = fk_ev d qX0_takeIn 30 [a0, .ref x, a2] (.ref x :: st) h) ∧
  (∀ (d : Nat) (L st : List Value) (N : Nat) (y : Nat → Nat → Int32) (l : Nat → Nat → Int64) (c : Nat), fk_at c 0 → fk_ev d qX0_takeIn 30 L (.ref c :: st) (fk_E N y l) = fk_ev d qX0_takeIn 33 L (.int (y c 11) :: st) (fk_E N y l)) ∧
  (∀ (d : Nat) (L : List Value) (x y : Int32) (st : List Value) (h : fk_H), fk_ev d qX0_takeIn 33 L (.int y :: .int x :: st) h = fk_ev d qX0_takeIn 34 L (.int (x ||| y) :: st) h) ∧
  (∀ (d : Nat) (a0 a1 : Value) (x : Int32) (st : List Value) (h : fk_H), fk_ev d qX0_takeIn 34 [a0, a1, .int x] st h = fk_ev d qX0_takeIn 35 [a0, a1, .int x] (.int x :: st) h) ∧
  (∀ (d : Nat) (L st : List Value) (h : fk_H), fk_ev d qX0_takeIn 35 L st h = fk_ev d qX0_takeIn 36 L (.int ((-1 : Int32)) :: st) h) ∧
  (∀ (d : Nat) (L : List Value) (x y : Int32) (st : List Value) (h : fk_H), fk_ev d qX0_takeIn 36 L (.int y :: .int x :: st) h = fk_ev d qX0_takeIn 37 L (.int (x ^^^ y) :: st) h) ∧
  (∀ (d : Nat) (L : List Value) (x y : Int32) (st : List Value) (h : fk_H), fk_ev d qX0_takeIn 37 L (.int y :: .int x :: st) h = fk_ev d qX0_takeIn 38 L (.int (x &&& y) :: st) h) ∧
  (∀ (d : Nat) (L st : List Value) (N : Nat) (y : Nat → Nat → Int32) (l : Nat → Nat → Int64) (c : Nat) (v : Int32), fk_at c 0 → fk_ev d qX0_takeIn 38 L (.int v :: .ref c :: st) (fk_E N y l) = fk_ev d qX0_takeIn 41 L st (fk_E N (fk_u y c 11 v) l)) ∧
  (∀ (d : Nat) (a1 a2 : Value) (x : Nat) (st : List Value) (h : fk_H), fk_ev d qX0_takeIn 41 [.ref x, a1, a2] st h = fk_ev d qX0_takeIn 42 [.ref x, a1, a2] (.ref x :: st) h) ∧
  (∀ (d : Nat) (L : List Value) (x : Nat) (st : List Value) (h : fk_H), fk_ev d qX0_takeIn 42 L (.ref x :: st) h = fk_ev d qX0_takeIn 43 L (.ref x :: .ref x :: st) h) ∧
  (∀ (d : Nat) (L st : List Value) (N : Nat) (y : Nat → Nat → Int32) (l : Nat → Nat → Int64) (c : Nat), fk_at c 0 → fk_ev d qX0_takeIn 43 L (.ref c :: st) (fk_E N y l) = fk_ev d qX0_takeIn 46 L (.int (y c 5) :: st) (fk_E N y l)) ∧
  (∀ (d : Nat) (a0 a2 : Value) (x : Nat) (st : List Value) (h : fk_H), fk_ev d qX0_takeIn 46 [a0, .ref x, a2] st h = fk_ev d qX0_takeIn 47 [a0, .ref x, a2] (.ref x :: st) h) ∧
  (∀ (d : Nat) (L st : List Value) (N : Nat) (y : Nat → Nat → Int32) (l : Nat → Nat → Int64) (c : Nat), fk_at c 0 → fk_ev d qX0_takeIn 47 L (.ref c :: st) (fk_E N y l) = fk_ev d qX0_takeIn 50 L (.int (y c 5) :: st) (fk_E N y l)) ∧
  (∀ (d : Nat) (L : List Value) (x y : Int32) (st : List Value) (h : fk_H), fk_ev d qX0_takeIn 50 L (.int y :: .int x :: st) h = fk_ev d qX0_takeIn 51 L (.int (x + y) :: st) h) ∧
  (∀ (d : Nat) (L st : List Value) (N : Nat) (y : Nat → Nat → Int32) (l : Nat → Nat → Int64) (c : Nat) (v : Int32), fk_at c 0 → fk_ev d qX0_takeIn 51 L (.int v :: .ref c :: st) (fk_E N y l) = fk_ev d qX0_takeIn 54 L st (fk_E N (fk_u y c 5 v) l)) ∧
  (∀ (d : Nat) (a1 a2 : Value) (x : Nat) (st : List Value) (h : fk_H), fk_ev d qX0_takeIn 54 [.ref x, a1, a2] st h = fk_ev d qX0_takeIn 55 [.ref x, a1, a2] (.ref x :: st) h) ∧
  (∀ (d : Nat) (L st : List Value) (h : fk_H), fk_ev d qX0_takeIn 55 L st h = fk_ev d qX0_takeIn 57 L (.int (nI 99999) :: st) h) ∧
  (∀ (d : Nat) (a1 a2 : Value) (x : Nat) (st : List Value) (h : fk_H), fk_ev d qX0_takeIn 57 [.ref x, a1, a2] st h = fk_ev d qX0_takeIn 58 [.ref x, a1, a2] (.ref x :: st) h) ∧
  (∀ (d : Nat) (L st : List Value) (N : Nat) (y : Nat → Nat → Int32) (l : Nat → Nat → Int64) (c : Nat), fk_at c 0 → fk_ev d qX0_takeIn 58 L (.ref c :: st) (fk_E N y l) = fk_ev d qX0_takeIn 61 L (.int (y c 10) :: st) (fk_E N y l)) ∧
  (∀ (d : Nat) (a0 a2 : Value) (x : Nat) (st : List Value) (h : fk_H), fk_ev d qX0_takeIn 61 [a0, .ref x, a2] st h = fk_ev d qX0_takeIn 62 [a0, .ref x, a2] (.ref x :: st) h) ∧
  (∀ (d : Nat) (L st : List Value) (N : Nat) (y : Nat → Nat → Int32) (l : Nat → Nat → Int64) (c : Nat), fk_at c 0 → fk_ev d qX0_takeIn 62 L (.ref c :: st) (fk_E N y l) = fk_ev d qX0_takeIn 65 L (.int (y c 10) :: st) (fk_E N y l)) ∧
  (∀ (d : Nat) (L : List Value) (x y : Int32) (st : List Value) (h : fk_H), fk_ev d qX0_takeIn 65 L (.int y :: .int x :: st) h = fk_ev d qX0_takeIn 66 L (.int (x + y) :: st) h) ∧
  (∀ (d : Nat) (L : List Value) (x y : Int32) (w0 : Value) (h : fk_H), fk_ev d qX0_takeIn 66 L (.int y :: .int x :: [w0]) h = fk_ev d qX0_takeIn 69 L (.int (if y < x then y else x) :: [w0]) h) ∧
  (∀ (d : Nat) (L st : List Value) (N : Nat) (y : Nat → Nat → Int32) (l : Nat → Nat → Int64) (c : Nat) (v : Int32), fk_at c 0 → fk_ev d qX0_takeIn 69 L (.int v :: .ref c :: st) (fk_E N y l) = fk_ev d qX0_takeIn 72 L st (fk_E N (fk_u y c 10 v) l)) ∧
  (∀ (d : Nat) (a1 a2 : Value) (x : Nat) (st : List Value) (h : fk_H), fk_ev d qX0_takeIn 72 [.ref x, a1, a2] st h = fk_ev d qX0_takeIn 73 [.ref x, a1, a2] (.ref x :: st) h) ∧
  (∀ (d : Nat) (a1 a2 : Value) (x : Nat) (st : List Value) (h : fk_H), fk_ev d qX0_takeIn 73 [.ref x, a1, a2] st h = fk_ev d qX0_takeIn 74 [.ref x, a1, a2] (.ref x :: st) h) ∧
  (∀ (d : Nat) (L st : List Value) (N : Nat) (y : Nat → Nat → Int32) (l : Nat → Nat → Int64) (c : Nat), fk_at c 0 → fk_ev d qX0_takeIn 74 L (.ref c :: st) (fk_E N y l) = fk_ev d qX0_takeIn 77 L (.int (y c 9) :: st) (fk_E N y l)) ∧
  (∀ (d : Nat) (a0 a2 : Value) (x : Nat) (st : List Value) (h : fk_H), fk_ev d qX0_takeIn 77 [a0, .ref x, a2] st h = fk_ev d qX0_takeIn 78 [a0, .ref x, a2] (.ref x :: st) h) ∧
  (∀ (d : Nat) (L st : List Value) (N : Nat) (y : Nat → Nat → Int32) (l : Nat → Nat → Int64) (c : Nat), fk_at c 0 → fk_ev d qX0_takeIn 78 L (.ref c :: st) (fk_E N y l) = fk_ev d qX0_takeIn 81 L (.int (y c 9) :: st) (fk_E N y l)) ∧
  (∀ (d : Nat) (L : List Value) (x y : Int32) (w0 : Value) (h : fk_H), fk_ev d qX0_takeIn 81 L (.int y :: .int x :: [w0]) h = fk_ev d qX0_takeIn 84 L (.int (if x < y then y else x) :: [w0]) h) ∧
  (∀ (d : Nat) (L st : List Value) (N : Nat) (y : Nat → Nat → Int32) (l : Nat → Nat → Int64) (c : Nat) (v : Int32), fk_at c 0 → fk_ev d qX0_takeIn 84 L (.int v :: .ref c :: st) (fk_E N y l) = fk_ev d qX0_takeIn 87 L st (fk_E N (fk_u y c 9 v) l)) ∧
  (∀ (d : Nat) (a1 a2 : Value) (x : Nat) (st : List Value) (h : fk_H), fk_ev d qX0_takeIn 87 [.ref x, a1, a2] st h = fk_ev d qX0_takeIn 88 [.ref x, a1, a2] (.ref x :: st) h) ∧
  (∀ (d : Nat) (a1 a2 : Value) (x : Nat) (st : List Value) (h : fk_H), fk_ev d qX0_takeIn 88 [.ref x, a1, a2] st h = fk_ev d qX0_takeIn 89 [.ref x, a1, a2] (.ref x :: st) h) ∧
  (∀ (d : Nat) (L st : List Value) (N : Nat) (y : Nat → Nat → Int32) (l : Nat → Nat → Int64) (c : Nat), fk_at c 0 → fk_ev d qX0_takeIn 89 L (.ref c :: st) (fk_E N y l) = fk_ev d qX0_takeIn 92 L (.int (y c 14) :: st) (fk_E N y l)) ∧
  (∀ (d : Nat) (L : List Value) (x : Int32) (st : List Value) (h : fk_H), fk_ev d qX0_takeIn 92 L (.int x :: st) h = if ¬ x = nI 0 then fk_ev d qX0_takeIn 102 L st h else fk_ev d qX0_takeIn 95 L st h) ∧
  (∀ (d : Nat) (a0 a2 : Value) (x : Nat) (st : List Value) (h : fk_H), fk_ev d qX0_takeIn 95 [a0, .ref x, a2] st h = fk_ev d qX0_takeIn 96 [a0, .ref x, a2] (.ref x :: st) h) ∧
  (∀ (d : Nat) (L st : List Value) (N : Nat) (y : Nat → Nat → Int32) (l : Nat → Nat → Int64) (c : Nat), fk_at c 0 → fk_ev d qX0_takeIn 96 L (.ref c :: st) (fk_E N y l) = fk_ev d qX0_takeIn 99 L (.int (y c 14) :: st) (fk_E N y l)) ∧
  (∀ (d : Nat) (L : List Value) (x : Int32) (st : List Value) (h : fk_H), fk_ev d qX0_takeIn 99 L (.int x :: st) h = if x = nI 0 then fk_ev d qX0_takeIn 106 L st h else fk_ev d qX0_takeIn 102 L st h) ∧
  (∀ (d : Nat) (L st : List Value) (h : fk_H), fk_ev d qX0_takeIn 102 L st h = fk_ev d qX0_takeIn 103 L (.int (nI 1) :: st) h) ∧
  (∀ (d : Nat) (L st : List Value) (h : fk_H), fk_ev d qX0_takeIn 103 L st h = fk_ev d qX0_takeIn 107 L st h) ∧
  (∀ (d : Nat) (L st : List Value) (h : fk_H), fk_ev d qX0_takeIn 106 L st h = fk_ev d qX0_takeIn 107 L (.int (nI 0) :: st) h) ∧
  (∀ (d : Nat) (L st : List Value) (N : Nat) (y : Nat → Nat → Int32) (l : Nat → Nat → Int64) (c : Nat), fk_at c 0 → fk_ev d qX0_takeIn 107 L (.int (nI 0) :: .ref c :: st) (fk_E N y l) = fk_ev d qX0_takeIn 110 L st (fk_E N (fk_u y c 14 (nI 0)) l)) ∧
  (∀ (d : Nat) (L st : List Value) (N : Nat) (y : Nat → Nat → Int32) (l : Nat → Nat → Int64) (c : Nat), fk_at c 0 → fk_ev d qX0_takeIn 107 L (.int (nI 1) :: .ref c :: st) (fk_E N y l) = fk_ev d qX0_takeIn 110 L st (fk_E N (fk_u y c 14 (nI 1)) l)) ∧
  (∀ (d : Nat) (L st : List Value) (N : Nat) (y : Nat → Nat → Int32) (l : Nat → Nat → Int64) (c : Nat) (v : Int32), (v = nI 0 ∨ v = nI 1) → fk_at c 0 → fk_ev d qX0_takeIn 107 L (.int v :: .ref c :: st) (fk_E N y l) = fk_ev d qX0_takeIn 110 L st (fk_E N (fk_u y c 14 v) l)) ∧
  (∀ (d : Nat) (a0 a2 : Value) (x : Nat) (st : List Value) (h : fk_H), fk_ev d qX0_takeIn 110 [a0, .ref x, a2] st h = fk_ev d qX0_takeIn 111 [a0, .ref x, a2] (.ref x :: st) h) ∧
  (∀ (d : Nat) (L st : List Value) (h : fk_H), fk_ev d qX0_takeIn 111 L st h = fk_ev d qX0_takeIn 112 L (.int (nI 0) :: st) h) ∧
  (∀ (d : Nat) (L st : List Value) (N : Nat) (y : Nat → Nat → Int32) (l : Nat → Nat → Int64) (c : Nat), fk_at c 0 → fk_ev d qX0_takeIn 112 L (.int (nI 0) :: .ref c :: st) (fk_E N y l) = fk_ev d qX0_takeIn 115 L st (fk_E N (fk_u y c 4 (nI 0)) l)) ∧
  (∀ (d : Nat) (L st : List Value) (N : Nat) (y : Nat → Nat → Int32) (l : Nat → Nat → Int64) (c : Nat), fk_at c 0 → fk_ev d qX0_takeIn 112 L (.int (nI 1) :: .ref c :: st) (fk_E N y l) = fk_ev d qX0_takeIn 115 L st (fk_E N (fk_u y c 4 (nI 1)) l)) ∧
  (∀ (d : Nat) (L st : List Value) (N : Nat) (y : Nat → Nat → Int32) (l : Nat → Nat → Int64) (c : Nat) (v : Int32), (v = nI 0 ∨ v = nI 1) → fk_at c 0 → fk_ev d qX0_takeIn 112 L (.int v :: .ref c :: st) (fk_E N y l) = fk_ev d qX0_takeIn 115 L st (fk_E N (fk_u y c 4 v) l)) ∧
  (∀ (d : Nat) (a0 a2 : Value) (x : Nat) (st : List Value) (h : fk_H), fk_ev d qX0_takeIn 115 [a0, .ref x, a2] st h = fk_ev d qX0_takeIn 116 [a0, .ref x, a2] (.ref x :: st) h) ∧
  (∀ (d : Nat) (a1 a2 : Value) (x : Nat) (st : List Value) (h : fk_H), fk_ev d qX0_takeIn 116 [.ref x, a1, a2] st h = fk_ev d qX0_takeIn 117 [.ref x, a1, a2] (.ref x :: st) h) ∧
  (∀ (d : Nat) (L st : List Value) (N : Nat) (y : Nat → Nat → Int32) (l : Nat → Nat → Int64) (c : Nat), fk_at c 0 → fk_ev d qX0_takeIn 117 L (.ref c :: st) (fk_E N y l) = fk_ev d qX0_takeIn 120 L (.int (y c 0) :: st) (fk_E N y l)) ∧
  (∀ (d : Nat) (L st : List Value) (N : Nat) (y : Nat → Nat → Int32) (l : Nat → Nat → Int64) (c : Nat) (v : Int32), fk_at c 0 → fk_ev d qX0_takeIn 120 L (.int v :: .ref c :: st) (fk_E N y l) = fk_ev d qX0_takeIn 123 L st (fk_E N (fk_u y c 13 v) l)) ∧
  (∀ (d : Nat) (L : List Value) (h : fk_H), fk_ev d qX0_takeIn 123 L [] h = some (none, h)) := ⟨fun d a1 a2 x st h => fk_w_aloadn 0 [.ref x, a1, a2] dX0_takeIn_0 rfl,
  fun d a1 a2 x st h => fk_w_aloadn 0 [.ref x, a1, a2] dX0_takeIn_1 rfl,
  fun d L st N y l c hc => fk_g_getI rfl lf_0_49 (by decide) dX0_takeIn_2 hc,
  fun d a0 a2 x st h => fk_w_aloadn 1 [a0, .ref x, a2] dX0_takeIn_5 rfl,
  fun d L st N y l c hc => fk_g_getI rfl lf_0_49 (by decide) dX0_takeIn_6 hc,
  fun d a1 a2 x st h => fk_w_aloadn 0 [.ref x, a1, a2] dX0_takeIn_9 rfl,
  fun d L st N y l c hc => fk_g_getI rfl lf_0_46 (by decide) dX0_takeIn_10 hc,
  fun d L st h => fk_w_iconst dX0_takeIn_13 (by decide),
  fun d L x y st h => fk_r_ixor dX0_takeIn_14,
  fun d L x y st h => fk_r_iand dX0_takeIn_15,
  fun d L x y st h => fk_r_ior dX0_takeIn_16,
  fun d a0 a1 x st h => fk_w_iloadn 2 [a0, a1, .int x] dX0_takeIn_17 rfl,
  fun d L st h => fk_w_iconst dX0_takeIn_18 (by decide),
  fun d L x y st h => fk_r_ixor dX0_takeIn_19,
  fun d L x y st h => fk_r_iand dX0_takeIn_20,
  fun d L st N y l c v hc => fk_g_putI rfl lf_0_49 (by decide) dX0_takeIn_21 rfl hc,
  fun d a1 a2 x st h => fk_w_aloadn 0 [.ref x, a1, a2] dX0_takeIn_24 rfl,
  fun d a1 a2 x st h => fk_w_aloadn 0 [.ref x, a1, a2] dX0_takeIn_25 rfl,
  fun d L st N y l c hc => fk_g_getI rfl lf_0_46 (by decide) dX0_takeIn_26 hc,
  fun d a0 a2 x st h => fk_w_aloadn 1 [a0, .ref x, a2] dX0_takeIn_29 rfl,
  fun d L st N y l c hc => fk_g_getI rfl lf_0_46 (by decide) dX0_takeIn_30 hc,
  fun d L x y st h => fk_r_ior dX0_takeIn_33,
  fun d a0 a1 x st h => fk_w_iloadn 2 [a0, a1, .int x] dX0_takeIn_34 rfl,
  fun d L st h => fk_w_iconst dX0_takeIn_35 (by decide),
  fun d L x y st h => fk_r_ixor dX0_takeIn_36,
  fun d L x y st h => fk_r_iand dX0_takeIn_37,
  fun d L st N y l c v hc => fk_g_putI rfl lf_0_46 (by decide) dX0_takeIn_38 rfl hc,
  fun d a1 a2 x st h => fk_w_aloadn 0 [.ref x, a1, a2] dX0_takeIn_41 rfl,
  fun d L x st h => fk_r_dup_ref dX0_takeIn_42,
  fun d L st N y l c hc => fk_g_getI rfl lf_0_28 (by decide) dX0_takeIn_43 hc,
  fun d a0 a2 x st h => fk_w_aloadn 1 [a0, .ref x, a2] dX0_takeIn_46 rfl,
  fun d L st N y l c hc => fk_g_getI rfl lf_0_28 (by decide) dX0_takeIn_47 hc,
  fun d L x y st h => fk_r_iadd dX0_takeIn_50,
  fun d L st N y l c v hc => fk_g_putI rfl lf_0_28 (by decide) dX0_takeIn_51 rfl hc,
  fun d a1 a2 x st h => fk_w_aloadn 0 [.ref x, a1, a2] dX0_takeIn_54 rfl,
  fun d L st h => fk_g_ldc rfl lc_0_62 (by decide) dX0_takeIn_55,
  fun d a1 a2 x st h => fk_w_aloadn 0 [.ref x, a1, a2] dX0_takeIn_57 rfl,
  fun d L st N y l c hc => fk_g_getI rfl lf_0_43 (by decide) dX0_takeIn_58 hc,
  fun d a0 a2 x st h => fk_w_aloadn 1 [a0, .ref x, a2] dX0_takeIn_61 rfl,
  fun d L st N y l c hc => fk_g_getI rfl lf_0_43 (by decide) dX0_takeIn_62 hc,
  fun d L x y st h => fk_r_iadd dX0_takeIn_65,
  fun d L x y w0 h => fk_p_min dX0_takeIn_66 ln_0_63 lp_0_63 (by simp),
  fun d L st N y l c v hc => fk_g_putI rfl lf_0_43 (by decide) dX0_takeIn_69 rfl hc,
  fun d a1 a2 x st h => fk_w_aloadn 0 [.ref x, a1, a2] dX0_takeIn_72 rfl,
  fun d a1 a2 x st h => fk_w_aloadn 0 [.ref x, a1, a2] dX0_takeIn_73 rfl,
  fun d L st N y l c hc => fk_g_getI rfl lf_0_40 (by decide) dX0_takeIn_74 hc,
  fun d a0 a2 x st h => fk_w_aloadn 1 [a0, .ref x, a2] dX0_takeIn_77 rfl,
  fun d L st N y l c hc => fk_g_getI rfl lf_0_40 (by decide) dX0_takeIn_78 hc,
  fun d L x y w0 h => fk_p_max dX0_takeIn_81 ln_0_69 lp_0_69 (by simp),
  fun d L st N y l c v hc => fk_g_putI rfl lf_0_40 (by decide) dX0_takeIn_84 rfl hc,
  fun d a1 a2 x st h => fk_w_aloadn 0 [.ref x, a1, a2] dX0_takeIn_87 rfl,
  fun d a1 a2 x st h => fk_w_aloadn 0 [.ref x, a1, a2] dX0_takeIn_88 rfl,
  fun d L st N y l c hc => fk_g_getI rfl lf_0_55 (by decide) dX0_takeIn_89 hc,
  fun d L x st h => fk_r_if_ne dX0_takeIn_92 (by decide),
  fun d a0 a2 x st h => fk_w_aloadn 1 [a0, .ref x, a2] dX0_takeIn_95 rfl,
  fun d L st N y l c hc => fk_g_getI rfl lf_0_55 (by decide) dX0_takeIn_96 hc,
  fun d L x st h => fk_r_if_eq dX0_takeIn_99 (by decide),
  fun d L st h => fk_w_iconst dX0_takeIn_102 (by decide),
  fun d L st h => fk_r_goto dX0_takeIn_103 (by decide),
  fun d L st h => fk_w_iconst dX0_takeIn_106 (by decide),
  fun d L st N y l c hc => fk_g_putI rfl lf_0_55 (by decide) dX0_takeIn_107 rfl hc,
  fun d L st N y l c hc => fk_g_putI rfl lf_0_55 (by decide) dX0_takeIn_107 rfl hc,
  fun d L st N y l c v hv hc => fk_g_putI rfl lf_0_55 (by decide) dX0_takeIn_107 (by rcases hv with rfl | rfl <;> rfl) hc,
  fun d a0 a2 x st h => fk_w_aloadn 1 [a0, .ref x, a2] dX0_takeIn_110 rfl,
  fun d L st h => fk_w_iconst dX0_takeIn_111 (by decide),
  fun d L st N y l c hc => fk_g_putI rfl lf_0_24 (by decide) dX0_takeIn_112 rfl hc,
  fun d L st N y l c hc => fk_g_putI rfl lf_0_24 (by decide) dX0_takeIn_112 rfl hc,
  fun d L st N y l c v hv hc => fk_g_putI rfl lf_0_24 (by decide) dX0_takeIn_112 (by rcases hv with rfl | rfl <;> rfl) hc,
  fun d a0 a2 x st h => fk_w_aloadn 1 [a0, .ref x, a2] dX0_takeIn_115 rfl,
  fun d a1 a2 x st h => fk_w_aloadn 0 [.ref x, a1, a2] dX0_takeIn_116 rfl,
  fun d L st N y l c hc => fk_g_getI rfl lf_0_9 (by decide) dX0_takeIn_117 hc,
  fun d L st N y l c v hc => fk_g_putI rfl lf_0_52 (by decide) dX0_takeIn_120 rfl hc,
  fun d L h => fk_r_vret dX0_takeIn_123 rfl⟩
theorem dX1_read_0 : decode cX1_read 0 = .ok (.aload_n 0, 1) := by decide +kernel
theorem dX1_read_1 : decode cX1_read 1 = .ok (.iload_n 1, 1) := by decide +kernel
theorem dX1_read_2 : decode cX1_read 2 = .ok (.putfield 22, 3) := by decide +kernel
theorem dX1_read_5 : decode cX1_read 5 = .ok (.aload_n 0, 1) := by decide +kernel
theorem dX1_read_6 : decode cX1_read 6 = .ok (.iconst 0, 1) := by decide +kernel
theorem dX1_read_7 : decode cX1_read 7 = .ok (.putfield 25, 3) := by decide +kernel
theorem dX1_read_10 : decode cX1_read 10 = .ok (.aload_n 0, 1) := by decide +kernel
theorem dX1_read_11 : decode cX1_read 11 = .ok (.iconst 0, 1) := by decide +kernel
theorem dX1_read_12 : decode cX1_read 12 = .ok (.putfield 18, 3) := by decide +kernel
theorem dX1_read_15 : decode cX1_read 15 = .ok (.iconst 0, 1) := by decide +kernel
theorem dX1_read_16 : decode cX1_read 16 = .ok (.istore_n 2, 1) := by decide +kernel
theorem dX1_read_17 : decode cX1_read 17 = .ok (.iload_n 2, 1) := by decide +kernel
theorem dX1_read_18 : decode cX1_read 18 = .ok (.aload_n 0, 1) := by decide +kernel
theorem dX1_read_19 : decode cX1_read 19 = .ok (.getfield 9, 3) := by decide +kernel
theorem dX1_read_22 : decode cX1_read 22 = .ok (.arraylength, 1) := by decide +kernel
theorem dX1_read_23 : decode cX1_read 23 = .ok (.if_icmp .ge 59, 3) := by decide +kernel
theorem dX1_read_26 : decode cX1_read 26 = .ok (.aload_n 0, 1) := by decide +kernel
theorem dX1_read_27 : decode cX1_read 27 = .ok (.invokevirtual 32, 3) := by decide +kernel
theorem dX1_read_30 : decode cX1_read 30 = .ok (.istore_n 3, 1) := by decide +kernel
theorem dX1_read_31 : decode cX1_read 31 = .ok (.iload_n 3, 1) := by decide +kernel
theorem dX1_read_32 : decode cX1_read 32 = .ok (.ifCond .ne 14, 3) := by decide +kernel
theorem dX1_read_35 : decode cX1_read 35 = .ok (.aload_n 0, 1) := by decide +kernel
theorem dX1_read_36 : decode cX1_read 36 = .ok (.getfield 25, 3) := by decide +kernel
theorem dX1_read_39 : decode cX1_read 39 = .ok (.aload_n 0, 1) := by decide +kernel
theorem dX1_read_40 : decode cX1_read 40 = .ok (.getfield 22, 3) := by decide +kernel
theorem dX1_read_43 : decode cX1_read 43 = .ok (.if_icmp .ne 5, 3) := by decide +kernel
theorem dX1_read_46 : decode cX1_read 46 = .ok (.iload_n 3, 1) := by decide +kernel
theorem dX1_read_47 : decode cX1_read 47 = .ok (.ireturn, 1) := by decide +kernel
theorem dX1_read_48 : decode cX1_read 48 = .ok (.aload_n 0, 1) := by decide +kernel
theorem dX1_read_49 : decode cX1_read 49 = .ok (.invokevirtual 36, 3) := by decide +kernel
theorem dX1_read_52 : decode cX1_read 52 = .ok (.bipush 44, 2) := by decide +kernel
theorem dX1_read_54 : decode cX1_read 54 = .ok (.if_icmp .eq 12, 3) := by decide +kernel
theorem dX1_read_57 : decode cX1_read 57 = .ok (.iconst 1, 1) := by decide +kernel
theorem dX1_read_58 : decode cX1_read 58 = .ok (.aload_n 0, 1) := by decide +kernel
theorem dX1_read_59 : decode cX1_read 59 = .ok (.getfield 25, 3) := by decide +kernel
theorem dX1_read_62 : decode cX1_read 62 = .ok (.invokestatic 39, 3) := by decide +kernel
theorem dX1_read_65 : decode cX1_read 65 = .ok (.ireturn, 1) := by decide +kernel
theorem dX1_read_66 : decode cX1_read 66 = .ok (.aload_n 0, 1) := by decide +kernel
theorem dX1_read_67 : decode cX1_read 67 = .ok (.dup, 1) := by decide +kernel
theorem dX1_read_68 : decode cX1_read 68 = .ok (.getfield 25, 3) := by decide +kernel
theorem dX1_read_71 : decode cX1_read 71 = .ok (.iconst 1, 1) := by decide +kernel
theorem dX1_read_72 : decode cX1_read 72 = .ok (.iadd, 1) := by decide +kernel
theorem dX1_read_73 : decode cX1_read 73 = .ok (.putfield 25, 3) := by decide +kernel
theorem dX1_read_76 : decode cX1_read 76 = .ok (.iinc 2 1, 3) := by decide +kernel
theorem dX1_read_79 : decode cX1_read 79 = .ok (.goto (-62), 3) := by decide +kernel
theorem dX1_read_82 : decode cX1_read 82 = .ok (.iconst 1, 1) := by decide +kernel
theorem dX1_read_83 : decode cX1_read 83 = .ok (.aload_n 0, 1) := by decide +kernel
theorem dX1_read_84 : decode cX1_read 84 = .ok (.getfield 25, 3) := by decide +kernel
theorem dX1_read_87 : decode cX1_read 87 = .ok (.invokestatic 39, 3) := by decide +kernel
theorem dX1_read_90 : decode cX1_read 90 = .ok (.ireturn, 1) := by decide +kernel
theorem rX1_read : (∀ (d : Nat) (a1 a2 a3 : Value) (x : Nat) (st : List Value) (h : fk_H), fk_ev d qX1_read 0 [.ref x, a1, a2, a3] st h = fk_ev d qX1_read 1 [.ref x, a1, a2, a3] (.ref x :: st) h) ∧
  (∀ (d : Nat) (a0 a2 a3 : Value) (x : Int32) (st : List Value) (h : fk_H), fk_ev d qX1_read 1 [a0, .int x, a2, a3] st h = fk_ev d qX1_read 2 [a0, .int x, a2, a3] (.int x :: st) h) ∧
  (∀ (d : Nat) (L st : List Value) (N : Nat) (y : Nat → Nat → Int32) (l : Nat → Nat → Int64) (v : Int32), fk_ev d qX1_read 2 L (.int v :: .ref 30 :: st) (fk_E N y l) = fk_ev d qX1_read 5 L st (fk_E N (fk_u y 30 4 v) l)) ∧
  (∀ (d : Nat) (a1 a2 a3 : Value) (x : Nat) (st : List Value) (h : fk_H), fk_ev d qX1_read 5 [.ref x, a1, a2, a3] st h = fk_ev d qX1_read 6 [.ref x, a1, a2, a3] (.ref x :: st) h) ∧
  (∀ (d : Nat) (L st : List Value) (h : fk_H), fk_ev d qX1_read 6 L st h = fk_ev d qX1_read 7 L (.int (nI 0) :: st) h) ∧
  (∀ (d : Nat) (L st : List Value) (N : Nat) (y : Nat → Nat → Int32) (l : Nat → Nat → Int64) (v : Int32), fk_ev d qX1_read 7 L (.int v :: .ref 30 :: st) (fk_E N y l) = fk_ev d qX1_read 10 L st (fk_E N (fk_u y 30 5 v) l)) ∧
  (∀ (d : Nat) (a1 a2 a3 : Value) (x : Nat) (st : List Value) (h : fk_H), fk_ev d qX1_read 10 [.ref x, a1, a2, a3] st h = fk_ev d qX1_read 11 [.ref x, a1, a2, a3] (.ref x :: st) h) ∧
  (∀ (d : Nat) (L st : List Value) (h : fk_H), fk_ev d qX1_read 11 L st h = fk_ev d qX1_read 12 L (.int (nI 0) :: st) h) ∧
  (∀ (d : Nat) (L st : List Value) (N : Nat) (y : Nat → Nat → Int32) (l : Nat → Nat → Int64) (v : Int32), fk_ev d qX1_read 12 L (.int v :: .ref 30 :: st) (fk_E N y l) = fk_ev d qX1_read 15 L st (fk_E N (fk_u y 30 3 v) l)) ∧
  (∀ (d : Nat) (L st : List Value) (h : fk_H), fk_ev d qX1_read 15 L st h = fk_ev d qX1_read 16 L (.int (nI 0) :: st) h) ∧
  (∀ (d : Nat) (a0 a1 a2 a3 : Value) (x : Int32) (st : List Value) (h : fk_H), fk_ev d qX1_read 16 [a0, a1, a2, a3] (.int x :: st) h = fk_ev d qX1_read 17 [a0, a1, .int x, a3] st h) ∧
  (∀ (d : Nat) (a1 a2 a3 : Value) (x : Nat) (st : List Value) (h : fk_H), fk_ev d qX1_read 18 [.ref x, a1, a2, a3] st h = fk_ev d qX1_read 19 [.ref x, a1, a2, a3] (.ref x :: st) h) ∧
  (∀ (d : Nat) (L st : List Value) (N : Nat) (y : Nat → Nat → Int32) (l : Nat → Nat → Int64), fk_ev d qX1_read 19 L (.ref 30 :: st) (fk_E N y l) = fk_ev d qX1_read 22 L (.ref 31 :: st) (fk_E N y l)) ∧
  (∀ (d : Nat) (L st : List Value) (N : Nat) (y : Nat → Nat → Int32) (l : Nat → Nat → Int64), fk_ev d qX1_read 22 L (.ref 31 :: st) (fk_E N y l) = fk_ev d qX1_read 23 L (.int (nI 16) :: st) (fk_E N y l)) ∧
  (∀ (d : Nat) (L : List Value) (x y : Int32) (st : List Value) (h : fk_H), fk_ev d qX1_read 23 L (.int y :: .int x :: st) h = if y ≤ x then fk_ev d qX1_read 82 L st h else fk_ev d qX1_read 26 L st h) ∧
  (∀ (d : Nat) (a1 a2 a3 : Value) (x : Nat) (st : List Value) (h : fk_H), fk_ev d qX1_read 26 [.ref x, a1, a2, a3] st h = fk_ev d qX1_read 27 [.ref x, a1, a2, a3] (.ref x :: st) h) ∧
  (∀ (d : Nat) (L : List Value)   (N : Nat) (y : Nat → Nat → Int32) (l : Nat → Nat → Int64), fk_ev (d + 1) qX1_read 27 L (.ref 30 :: []) (fk_E N y l) = (fk_ev d qX1_step 0 [.ref 30, .null, .null, .null] [] (fk_E N y l)).bind fun o => fk_ev (d + 1) qX1_read 30 L (o.1.toList ++ []) o.2) ∧
  (∀ (d : Nat) (a0 a1 a2 a3 : Value) (x : Int32) (st : List Value) (h : fk_H), fk_ev d qX1_read 30 [a0, a1, a2, a3] (.int x :: st) h = fk_ev d qX1_read 31 [a0, a1, a2, .int x] st h) ∧
  (∀ (d : Nat) (a0 a1 a2 : Value) (x : Int32) (st : List Value) (h : fk_H), fk_ev d qX1_read 31 [a0, a1, a2, .int x] st h = fk_ev d qX1_read 32 [a0, a1, a2, .int x] (.int x :: st) h) ∧
  (∀ (d : Nat) (L : List Value) (x : Int32) (st : List Value) (h : fk_H), fk_ev d qX1_read 32 L (.int x :: st) h = if ¬ x = nI 0 then fk_ev d qX1_read 46 L st h else fk_ev d qX1_read 35 L st h) ∧
  (∀ (d : Nat) (a1 a2 a3 : Value) (x : Nat) (st : List Value) (h : fk_H), fk_ev d qX1_read 35 [.ref x, a1, a2, a3] st h = fk_ev d qX1_read 36 [.ref x, a1, a2, a3] (.ref x :: st) h) ∧
  (∀ (d : Nat) (L st : List Value) (N : Nat) (y : Nat → Nat → Int32) (l : Nat → Nat → Int64), fk_ev d qX1_read 36 L (.ref 30 :: st) (fk_E N y l) = fk_ev d qX1_read 39 L (.int (y 30 5) :: st) (fk_E N y l)) ∧
  (∀ (d : Nat) (a1 a2 a3 : Value) (x : Nat) (st : List Value) (h : fk_H), fk_ev d qX1_read 39 [.ref x, a1, a2, a3] st h = fk_ev d qX1_read 40 [.ref x, a1, a2, a3] (.ref x :: st) h) ∧
  (∀ (d : Nat) (L st : List Value) (N : Nat) (y : Nat → Nat → Int32) (l : Nat → Nat → Int64), fk_ev d qX1_read 40 L (.ref 30 :: st) (fk_E N y l) = fk_ev d qX1_read 43 L (.int (y 30 4) :: st) (fk_E N y l)) ∧
  (∀ (d : Nat) (L : List Value) (x y : Int32) (st : List Value) (h : fk_H), fk_ev d qX1_read 43 L (.int y :: .int x :: st) h = if ¬ x = y then fk_ev d qX1_read 48 L st h else fk_ev d qX1_read 46 L st h) ∧
  (∀ (d : Nat) (a0 a1 a2 : Value) (x : Int32) (st : List Value) (h : fk_H), fk_ev d qX1_read 46 [a0, a1, a2, .int x] st h = fk_ev d qX1_read 47 [a0, a1, a2, .int x] (.int x :: st) h) ∧
  (∀ (d : Nat) (L : List Value) (x : Int32) (h : fk_H), fk_ev d qX1_read 47 L [.int x] h = some (some (.int x), h)) ∧
  (∀ (d : Nat) (a1 a2 a3 : Value) (x : Nat) (st : List Value) (h : fk_H), fk_ev d qX1_read 48 [.ref x, a1, a2, a3] st h = fk_ev d qX1_read 49 [.ref x, a1, a2, a3] (.ref x :: st) h) ∧
  (∀ (d : Nat) (L : List Value)   (N : Nat) (y : Nat → Nat → Int32) (l : Nat → Nat → Int64), fk_ev (d + 1) qX1_read 49 L (.ref 30 :: []) (fk_E N y l) = (fk_ev d qX1_peek 0 [.ref 30] [] (fk_E N y l)).bind fun o => fk_ev (d + 1) qX1_read 52 L (o.1.toList ++ []) o.2) ∧
  (∀ (d : Nat) (L st : List Value) (h : fk_H), fk_ev d qX1_read 52 L st h = fk_ev d qX1_read 54 L (.int (nI 44) :: st) h) ∧
  (∀ (d : Nat) (L : List Value) (x y : Int32) (st : List Value) (h : fk_H), fk_ev d qX1_read 54 L (.int y :: .int x :: st) h = if x = y then fk_ev d qX1_read 66 L st h else fk_ev d qX1_read 57 L st h) ∧
  (∀ (d : Nat) (L st : List Value) (h : fk_H), fk_ev d qX1_read 57 L st h = fk_ev d qX1_read 58 L (.int (nI 1) :: st) h) ∧
  (∀ (d : Nat) (a1 a2 a3 : Value) (x : Nat) (st : List Value) (h : fk_H), fk_ev d qX1_read 58 [.ref x, a1, a2, a3] st h = fk_ev d qX1_read 59 [.ref x, a1, a2, a3] (.ref x :: st) h) ∧
  (∀ (d : Nat) (L st : List Value) (N : Nat) (y : Nat → Nat → Int32) (l : Nat → Nat → Int64), fk_ev d qX1_read 59 L (.ref 30 :: st) (fk_E N y l) = fk_ev d qX1_read 62 L (.int (y 30 5) :: st) (fk_E N y l)) ∧
  (∀ (d : Nat) (L : List Value) (x0 : Int32) (x1 : Int32)  (h : fk_H), fk_ev (d + 1) qX1_read 62 L (.int x1 :: .int x0 :: []) h = (fk_ev d qX11_faultAt 0 [.int x0, .int x1] [] h).bind fun o => fk_ev (d + 1) qX1_read 65 L (o.1.toList ++ []) o.2) ∧
  (∀ (d : Nat) (L : List Value) (x : Int32) (h : fk_H), fk_ev d qX1_read 65 L [.int x] h = some (some (.int x), h)) ∧
  (∀ (d : Nat) (a1 a2 a3 : Value) (x : Nat) (st : List Value) (h : fk_H), fk_ev d qX1_read 66 [.ref x, a1, a2, a3] st h = fk_ev d qX1_read 67 [.ref x, a1, a2, a3] (.ref x :: st) h) ∧
  (∀ (d : Nat) (L : List Value) (x : Nat) (st : List Value) (h : fk_H), fk_ev d qX1_read 67 L (.ref x :: st) h = fk_ev d qX1_read 68 L (.ref x :: .ref x :: st) h) ∧
  (∀ (d : Nat) (L st : List Value) (N : Nat) (y : Nat → Nat → Int32) (l : Nat → Nat → Int64), fk_ev d qX1_read 68 L (.ref 30 :: st) (fk_E N y l) = fk_ev d qX1_read 71 L (.int (y 30 5) :: st) (fk_E N y l)) ∧
  (∀ (d : Nat) (L st : List Value) (h : fk_H), fk_ev d qX1_read 71 L st h = fk_ev d qX1_read 72 L (.int (nI 1) :: st) h) ∧
  (∀ (d : Nat) (L : List Value) (x y : Int32) (st : List Value) (h : fk_H), fk_ev d qX1_read 72 L (.int y :: .int x :: st) h = fk_ev d qX1_read 73 L (.int (x + y) :: st) h) ∧
  (∀ (d : Nat) (L st : List Value) (N : Nat) (y : Nat → Nat → Int32) (l : Nat → Nat → Int64) (v : Int32), fk_ev d qX1_read 73 L (.int v :: .ref 30 :: st) (fk_E N y l) = fk_ev d qX1_read 76 L st (fk_E N (fk_u y 30 5 v) l)) ∧
  (∀ (d : Nat) (a0 a1 a3 : Value) (x : Int32) (st : List Value) (h : fk_H), fk_ev d qX1_read 76 [a0, a1, .int x, a3] st h = fk_ev d qX1_read 79 [a0, a1, .int (x + nI 1), a3] st h) ∧
  (∀ (d : Nat) (L st : List Value) (h : fk_H), fk_ev d qX1_read 79 L st h = fk_ev d qX1_read 17 L st h) ∧
  (∀ (d : Nat) (L st : List Value) (h : fk_H), fk_ev d qX1_read 82 L st h = fk_ev d qX1_read 83 L (.int (nI 1) :: st) h) ∧
  (∀ (d : Nat) (a1 a2 a3 : Value) (x : Nat) (st : List Value) (h : fk_H), fk_ev d qX1_read 83 [.ref x, a1, a2, a3] st h = fk_ev d qX1_read 84 [.ref x, a1, a2, a3] (.ref x :: st) h) ∧
  (∀ (d : Nat) (L st : List Value) (N : Nat) (y : Nat → Nat → Int32) (l : Nat → Nat → Int64), fk_ev d qX1_read 84 L (.ref 30 :: st) (fk_E N y l) = fk_ev d qX1_read 87 L (.int (y 30 5) :: st) (fk_E N y l)) ∧
  (∀ (d : Nat) (L : List Value) (x0 : Int32) (x1 : Int32)  (h : fk_H), fk_ev (d + 1) qX1_read 87 L (.int x1 :: .int x0 :: []) h = (fk_ev d qX11_faultAt 0 [.int x0, .int x1] [] h).bind fun o => fk_ev (d + 1) qX1_read 90 L (o.1.toList ++ []) o.2) ∧
  (∀ (d : Nat) (L : List Value) (x : Int32) (h : fk_H), fk_ev d qX1_read 90 L [.int x] h = some (some (.int x), h)) := ⟨fun d a1 a2 a3 x st h => fk_w_aloadn 0 [.ref x, a1, a2, a3] dX1_read_0 rfl,
  fun d a0 a2 a3 x st h => fk_w_iloadn 1 [a0, .int x, a2, a3] dX1_read_1 rfl,
  fun d L st N y l v => fk_g_putI rfl lf_1_22 (by decide) dX1_read_2 rfl fk_at_30,
  fun d a1 a2 a3 x st h => fk_w_aloadn 0 [.ref x, a1, a2, a3] dX1_read_5 rfl,
  fun d L st h => fk_w_iconst dX1_read_6 (by decide),
  fun d L st N y l v => fk_g_putI rfl lf_1_25 (by decide) dX1_read_7 rfl fk_at_30,
  fun d a1 a2 a3 x st h => fk_w_aloadn 0 [.ref x, a1, a2, a3] dX1_read_10 rfl,
  fun d L st h => fk_w_iconst dX1_read_11 (by decide),
  fun d L st N y l v => fk_g_putI rfl lf_1_18 (by decide) dX1_read_12 rfl fk_at_30,
  fun d L st h => fk_w_iconst dX1_read_15 (by decide),
  fun d a0 a1 a2 a3 x st h => fk_w_istoren 2 4 [] [a0, a1, a2, a3] [a0, a1, .int x, a3] dX1_read_16 rfl rfl (by decide) rfl,
  fun d a1 a2 a3 x st h => fk_w_aloadn 0 [.ref x, a1, a2, a3] dX1_read_18 rfl,
  fun d L st N y l => fk_g_getC rfl lf_1_9 (by decide) rfl dX1_read_19 fk_at_30,
  fun d L st N y l => fk_g_alen fk_at_31 fk_ln_31 dX1_read_22,
  fun d L x y st h => fk_r_icmp_ge dX1_read_23 (by decide),
  fun d a1 a2 a3 x st h => fk_w_aloadn 0 [.ref x, a1, a2, a3] dX1_read_26 rfl,
  fun d L  N y l  => fk_g_call [] [] rfl lm_1_32 dX1_read_27 rfl ⟨rfl, by decide⟩ (by simp) fk_at_30,
  fun d a0 a1 a2 a3 x st h => fk_w_istoren 3 4 [] [a0, a1, a2, a3] [a0, a1, a2, .int x] dX1_read_30 rfl rfl (by decide) rfl,
  fun d a0 a1 a2 x st h => fk_w_iloadn 3 [a0, a1, a2, .int x] dX1_read_31 rfl,
  fun d L x st h => fk_r_if_ne dX1_read_32 (by decide),
  fun d a1 a2 a3 x st h => fk_w_aloadn 0 [.ref x, a1, a2, a3] dX1_read_35 rfl,
  fun d L st N y l => fk_g_getI rfl lf_1_25 (by decide) dX1_read_36 fk_at_30,
  fun d a1 a2 a3 x st h => fk_w_aloadn 0 [.ref x, a1, a2, a3] dX1_read_39 rfl,
  fun d L st N y l => fk_g_getI rfl lf_1_22 (by decide) dX1_read_40 fk_at_30,
  fun d L x y st h => fk_r_icmp_ne dX1_read_43 (by decide),
  fun d a0 a1 a2 x st h => fk_w_iloadn 3 [a0, a1, a2, .int x] dX1_read_46 rfl,
  fun d L x h => fk_r_ret dX1_read_47 (Or.inl rfl),
  fun d a1 a2 a3 x st h => fk_w_aloadn 0 [.ref x, a1, a2, a3] dX1_read_48 rfl,
  fun d L  N y l  => fk_g_call [] [] rfl lm_1_36 dX1_read_49 rfl ⟨rfl, by decide⟩ (by simp) fk_at_30,
  fun d L st h => fk_w_bipush dX1_read_52 (by decide),
  fun d L x y st h => fk_r_icmp_eq dX1_read_54 (by decide),
  fun d L st h => fk_w_iconst dX1_read_57 (by decide),
  fun d a1 a2 a3 x st h => fk_w_aloadn 0 [.ref x, a1, a2, a3] dX1_read_58 rfl,
  fun d L st N y l => fk_g_getI rfl lf_1_25 (by decide) dX1_read_59 fk_at_30,
  fun d L x0 x1 h => fk_g_calls [.int x0, .int x1] [] rfl lm_1_39 dX1_read_62 rfl ⟨rfl, by decide⟩ (by simp),
  fun d L x h => fk_r_ret dX1_read_65 (Or.inl rfl),
  fun d a1 a2 a3 x st h => fk_w_aloadn 0 [.ref x, a1, a2, a3] dX1_read_66 rfl,
  fun d L x st h => fk_r_dup_ref dX1_read_67,
  fun d L st N y l => fk_g_getI rfl lf_1_25 (by decide) dX1_read_68 fk_at_30,
  fun d L st h => fk_w_iconst dX1_read_71 (by decide),
  fun d L x y st h => fk_r_iadd dX1_read_72,
  fun d L st N y l v => fk_g_putI rfl lf_1_25 (by decide) dX1_read_73 rfl fk_at_30,
  fun d a0 a1 a3 x st h => fk_w_iinc 2 4 (1) [] [a0, a1, .int x, a3] [a0, a1, .int (x + nI 1), a3] dX1_read_76 rfl rfl rfl (by decide) rfl,
  fun d L st h => fk_r_goto dX1_read_79 (by decide),
  fun d L st h => fk_w_iconst dX1_read_82 (by decide),
  fun d a1 a2 a3 x st h => fk_w_aloadn 0 [.ref x, a1, a2, a3] dX1_read_83 rfl,
  fun d L st N y l => fk_g_getI rfl lf_1_25 (by decide) dX1_read_84 fk_at_30,
  fun d L x0 x1 h => fk_g_calls [.int x0, .int x1] [] rfl lm_1_39 dX1_read_87 rfl ⟨rfl, by decide⟩ (by simp),
  fun d L x h => fk_r_ret dX1_read_90 (Or.inl rfl)⟩
theorem hX1_read_17 : ∀ (d : Nat) (a0 a1 a3 : Value) (x : Int32) (st : List Value) (h : fk_H), fk_ev d qX1_read 17 [a0, a1, .int x, a3] st h = fk_ev d qX1_read 18 [a0, a1, .int x, a3] (.int x :: st) h := fun d a0 a1 a3 x st h => fk_w_iloadn 2 [a0, a1, .int x, a3] dX1_read_17 rfl
theorem dX1_step_0 : decode cX1_step 0 = .ok (.aload_n 0, 1) := by decide +kernel
theorem dX1_step_1 : decode cX1_step 1 = .ok (.getfield 25, 3) := by decide +kernel
theorem dX1_step_4 : decode cX1_step 4 = .ok (.istore_n 1, 1) := by decide +kernel
theorem dX1_step_5 : decode cX1_step 5 = .ok (.aload_n 0, 1) := by decide +kernel
theorem dX1_step_6 : decode cX1_step 6 = .ok (.iconst 2, 1) := by decide +kernel
theorem dX1_step_7 : decode cX1_step 7 = .ok (.invokevirtual 43, 3) := by decide +kernel
theorem dX1_step_10 : decode cX1_step 10 = .ok (.istore_n 2, 1) := by decide +kernel
theorem dX1_step_11 : decode cX1_step 11 = .ok (.iload_n 2, 1) := by decide +kernel
theorem dX1_step_12 : decode cX1_step 12 = .ok (.ifCond .ge 12, 3) := by decide +kernel
theorem dX1_step_15 : decode cX1_step 15 = .ok (.iconst 1, 1) := by decide +kernel
theorem dX1_step_16 : decode cX1_step 16 = .ok (.aload_n 0, 1) := by decide +kernel
theorem dX1_step_17 : decode cX1_step 17 = .ok (.getfield 25, 3) := by decide +kernel
theorem dX1_step_20 : decode cX1_step 20 = .ok (.invokestatic 39, 3) := by decide +kernel
theorem dX1_step_23 : decode cX1_step 23 = .ok (.ireturn, 1) := by decide +kernel
theorem dX1_step_24 : decode cX1_step 24 = .ok (.iload_n 2, 1) := by decide +kernel
theorem dX1_step_25 : decode cX1_step 25 = .ok (.bipush 16, 2) := by decide +kernel
theorem dX1_step_27 : decode cX1_step 27 = .ok (.if_icmp .lt 9, 3) := by decide +kernel
theorem dX1_step_30 : decode cX1_step 30 = .ok (.iconst 3, 1) := by decide +kernel
theorem dX1_step_31 : decode cX1_step 31 = .ok (.iload_n 1, 1) := by decide +kernel
theorem dX1_step_32 : decode cX1_step 32 = .ok (.invokestatic 39, 3) := by decide +kernel
theorem dX1_step_35 : decode cX1_step 35 = .ok (.ireturn, 1) := by decide +kernel
theorem dX1_step_36 : decode cX1_step 36 = .ok (.aload_n 0, 1) := by decide +kernel
theorem dX1_step_37 : decode cX1_step 37 = .ok (.invokevirtual 36, 3) := by decide +kernel
theorem dX1_step_40 : decode cX1_step 40 = .ok (.bipush 64, 2) := by decide +kernel
theorem dX1_step_42 : decode cX1_step 42 = .ok (.if_icmp .eq 12, 3) := by decide +kernel
theorem dX1_step_45 : decode cX1_step 45 = .ok (.iconst 1, 1) := by decide +kernel
theorem dX1_step_46 : decode cX1_step 46 = .ok (.aload_n 0, 1) := by decide +kernel
theorem dX1_step_47 : decode cX1_step 47 = .ok (.getfield 25, 3) := by decide +kernel
theorem dX1_step_50 : decode cX1_step 50 = .ok (.invokestatic 39, 3) := by decide +kernel
theorem dX1_step_53 : decode cX1_step 53 = .ok (.ireturn, 1) := by decide +kernel
theorem dX1_step_54 : decode cX1_step 54 = .ok (.aload_n 0, 1) := by decide +kernel
theorem dX1_step_55 : decode cX1_step 55 = .ok (.dup, 1) := by decide +kernel
theorem dX1_step_56 : decode cX1_step 56 = .ok (.getfield 25, 3) := by decide +kernel
theorem dX1_step_59 : decode cX1_step 59 = .ok (.iconst 1, 1) := by decide +kernel
theorem dX1_step_60 : decode cX1_step 60 = .ok (.iadd, 1) := by decide +kernel
theorem dX1_step_61 : decode cX1_step 61 = .ok (.putfield 25, 3) := by decide +kernel
theorem dX1_step_64 : decode cX1_step 64 = .ok (.aload_n 0, 1) := by decide +kernel
theorem dX1_step_65 : decode cX1_step 65 = .ok (.getfield 25, 3) := by decide +kernel
theorem dX1_step_68 : decode cX1_step 68 = .ok (.istore_n 1, 1) := by decide +kernel
theorem dX1_step_69 : decode cX1_step 69 = .ok (.aload_n 0, 1) := by decide +kernel
theorem dX1_step_70 : decode cX1_step 70 = .ok (.iconst 3, 1) := by decide +kernel
theorem dX1_step_71 : decode cX1_step 71 = .ok (.invokevirtual 43, 3) := by decide +kernel
theorem dX1_step_74 : decode cX1_step 74 = .ok (.istore_n 3, 1) := by decide +kernel
theorem dX1_step_75 : decode cX1_step 75 = .ok (.iload_n 3, 1) := by decide +kernel
theorem dX1_step_76 : decode cX1_step 76 = .ok (.ifCond .ge 12, 3) := by decide +kernel
theorem dX1_step_79 : decode cX1_step 79 = .ok (.iconst 1, 1) := by decide +kernel
theorem dX1_step_80 : decode cX1_step 80 = .ok (.aload_n 0, 1) := by decide +kernel
theorem dX1_step_81 : decode cX1_step 81 = .ok (.getfield 25, 3) := by decide +kernel
theorem dX1_step_84 : decode cX1_step 84 = .ok (.invokestatic 39, 3) := by decide +kernel
theorem dX1_step_87 : decode cX1_step 87 = .ok (.ireturn, 1) := by decide +kernel
theorem dX1_step_88 : decode cX1_step 88 = .ok (.aload_n 0, 1) := by decide +kernel
theorem dX1_step_89 : decode cX1_step 89 = .ok (.getfield 18, 3) := by decide +kernel
theorem dX1_step_92 : decode cX1_step 92 = .ok (.ifCond .le 25, 3) := by decide +kernel
theorem dX1_step_95 : decode cX1_step 95 = .ok (.iload_n 3, 1) := by decide +kernel
theorem dX1_step_96 : decode cX1_step 96 = .ok (.aload_n 0, 1) := by decide +kernel
theorem dX1_step_97 : decode cX1_step 97 = .ok (.getfield 15, 3) := by decide +kernel
theorem dX1_step_100 : decode cX1_step 100 = .ok (.aload_n 0, 1) := by decide +kernel
theorem dX1_step_101 : decode cX1_step 101 = .ok (.getfield 18, 3) := by decide +kernel
theorem dX1_step_104 : decode cX1_step 104 = .ok (.iconst 1, 1) := by decide +kernel
theorem dX1_step_105 : decode cX1_step 105 = .ok (.isub, 1) := by decide +kernel
theorem dX1_step_106 : decode cX1_step 106 = .ok (.iaload, 1) := by decide +kernel
theorem dX1_step_107 : decode cX1_step 107 = .ok (.if_icmp .gt 10, 3) := by decide +kernel
theorem dX1_step_110 : decode cX1_step 110 = .ok (.bipush 6, 2) := by decide +kernel
theorem dX1_step_112 : decode cX1_step 112 = .ok (.iload_n 1, 1) := by decide +kernel
theorem dX1_step_113 : decode cX1_step 113 = .ok (.invokestatic 39, 3) := by decide +kernel
theorem dX1_step_116 : decode cX1_step 116 = .ok (.ireturn, 1) := by decide +kernel
theorem dX1_step_117 : decode cX1_step 117 = .ok (.aload_n 0, 1) := by decide +kernel
theorem dX1_step_118 : decode cX1_step 118 = .ok (.getfield 9, 3) := by decide +kernel
theorem dX1_step_121 : decode cX1_step 121 = .ok (.aload_n 0, 1) := by decide +kernel
theorem dX1_step_122 : decode cX1_step 122 = .ok (.getfield 18, 3) := by decide +kernel
theorem dX1_step_125 : decode cX1_step 125 = .ok (.iload_n 2, 1) := by decide +kernel
theorem dX1_step_126 : decode cX1_step 126 = .ok (.iastore, 1) := by decide +kernel
theorem dX1_step_127 : decode cX1_step 127 = .ok (.aload_n 0, 1) := by decide +kernel
theorem dX1_step_128 : decode cX1_step 128 = .ok (.getfield 15, 3) := by decide +kernel
theorem dX1_step_131 : decode cX1_step 131 = .ok (.aload_n 0, 1) := by decide +kernel
theorem dX1_step_132 : decode cX1_step 132 = .ok (.getfield 18, 3) := by decide +kernel
theorem dX1_step_135 : decode cX1_step 135 = .ok (.iload_n 3, 1) := by decide +kernel
theorem dX1_step_136 : decode cX1_step 136 = .ok (.iastore, 1) := by decide +kernel
theorem dX1_step_137 : decode cX1_step 137 = .ok (.aload_n 0, 1) := by decide +kernel
theorem dX1_step_138 : decode cX1_step 138 = .ok (.dup, 1) := by decide +kernel
theorem dX1_step_139 : decode cX1_step 139 = .ok (.getfield 18, 3) := by decide +kernel
theorem dX1_step_142 : decode cX1_step 142 = .ok (.iconst 1, 1) := by decide +kernel
theorem dX1_step_143 : decode cX1_step 143 = .ok (.iadd, 1) := by decide +kernel
theorem dX1_step_144 : decode cX1_step 144 = .ok (.putfield 18, 3) := by decide +kernel
theorem dX1_step_147 : decode cX1_step 147 = .ok (.iconst 0, 1) := by decide +kernel
theorem dX1_step_148 : decode cX1_step 148 = .ok (.ireturn, 1) := by decide +kernel
theorem rX1_step : (∀ (d : Nat) (a1 a2 a3 : Value) (x : Nat) (st : List Value) (h : fk_H), fk_ev d qX1_step 0 [.ref x, a1, a2, a3] st h = fk_ev d qX1_step 1 [.ref x, a1, a2, a3] (.ref x :: st) h) ∧
  (∀ (d : Nat) (L st : List Value) (N : Nat) (y : Nat → Nat → Int32) (l : Nat → Nat → Int64), fk_ev d qX1_step 1 L (.ref 30 :: st) (fk_E N y l) = fk_ev d qX1_step 4 L (.int (y 30 5) :: st) (fk_E N y l)) ∧
  (∀ (d : Nat) (a0 a1 a2 a3 : Value) (x : Int32) (st : List Value) (h : fk_H), fk_ev d qX1_step 4 [a0, a1, a2, a3] (.int x :: st) h = fk_ev d qX1_step 5 [a0, .int x, a2, a3] st h) ∧
  (∀ (d : Nat) (a1 a2 a3 : Value) (x : Nat) (st : List Value) (h : fk_H), fk_ev d qX1_step 5 [.ref x, a1, a2, a3] st h = fk_ev d qX1_step 6 [.ref x, a1, a2, a3] (.ref x :: st) h) ∧
  (∀ (d : Nat) (L st : List Value) (h : fk_H), fk_ev d qX1_step 6 L st h = fk_ev d qX1_step 7 L (.int (nI 2) :: st) h) ∧
  (∀ (d : Nat) (L : List Value) (x0 : Int32)  (N : Nat) (y : Nat → Nat → Int32) (l : Nat → Nat → Int64), fk_ev (d + 1) qX1_step 7 L (.int x0 :: .ref 30 :: []) (fk_E N y l) = (fk_ev d qX1_digits 0 [.ref 30, .int x0, .null, .null] [] (fk_E N y l)).bind fun o => fk_ev (d + 1) qX1_step 10 L (o.1.toList ++ []) o.2) ∧
  (∀ (d : Nat) (a0 a1 a2 a3 : Value) (x : Int32) (st : List Value) (h : fk_H), fk_ev d qX1_step 10 [a0, a1, a2, a3] (.int x :: st) h = fk_ev d qX1_step 11 [a0, a1, .int x, a3] st h) ∧
  (∀ (d : Nat) (a0 a1 a3 : Value) (x : Int32) (st : List Value) (h : fk_H), fk_ev d qX1_step 11 [a0, a1, .int x, a3] st h = fk_ev d qX1_step 12 [a0, a1, .int x, a3] (.int x :: st) h) ∧
  (∀ (d : Nat) (L : List Value) (x : Int32) (st : List Value) (h : fk_H), fk_ev d qX1_step 12 L (.int x :: st) h = if nI 0 ≤ x then fk_ev d qX1_step 24 L st h else fk_ev d qX1_step 15 L st h) ∧
  (∀ (d : Nat) (L st : List Value) (h : fk_H), fk_ev d qX1_step 15 L st h = fk_ev d qX1_step 16 L (.int (nI 1) :: st) h) ∧
  (∀ (d : Nat) (a1 a2 a3 : Value) (x : Nat) (st : List Value) (h : fk_H), fk_ev d qX1_step 16 [.ref x, a1, a2, a3] st h = fk_ev d qX1_step 17 [.ref x, a1, a2, a3] (.ref x :: st) h) ∧
  (∀ (d : Nat) (L st : List Value) (N : Nat) (y : Nat → Nat → Int32) (l : Nat → Nat → Int64), fk_ev d qX1_step 17 L (.ref 30 :: st) (fk_E N y l) = fk_ev d qX1_step 20 L (.int (y 30 5) :: st) (fk_E N y l)) ∧
  (∀ (d : Nat) (L : List Value) (x0 : Int32) (x1 : Int32)  (h : fk_H), fk_ev (d + 1) qX1_step 20 L (.int x1 :: .int x0 :: []) h = (fk_ev d qX11_faultAt 0 [.int x0, .int x1] [] h).bind fun o => fk_ev (d + 1) qX1_step 23 L (o.1.toList ++ []) o.2) ∧
  (∀ (d : Nat) (L : List Value) (x : Int32) (h : fk_H), fk_ev d qX1_step 23 L [.int x] h = some (some (.int x), h)) ∧
  (∀ (d : Nat) (a0 a1 a3 : Value) (x : Int32) (st : List Value) (h : fk_H), fk_ev d qX1_step 24 [a0, a1, .int x, a3] st h = fk_ev d qX1_step 25 [a0, a1, .int x, a3] (.int x :: st) h) ∧
  (∀ (d : Nat) (L st : List Value) (h : fk_H), fk_ev d qX1_step 25 L st h = fk_ev d qX1_step 27 L (.int (nI 16) :: st) h) ∧
  (∀ (d : Nat) (L : List Value) (x y : Int32) (st : List Value) (h : fk_H), fk_ev d qX1_step 27 L (.int y :: .int x :: st) h = if x < y then fk_ev d qX1_step 36 L st h else fk_ev d qX1_step 30 L st h) ∧
  (∀ (d : Nat) (L st : List Value) (h : fk_H), fk_ev d qX1_step 30 L st h = fk_ev d qX1_step 31 L (.int (nI 3) :: st) h) ∧
  (∀ (d : Nat) (a0 a2 a3 : Value) (x : Int32) (st : List Value) (h : fk_H), fk_ev d qX1_step 31 [a0, .int x, a2, a3] st h = fk_ev d qX1_step 32 [a0, .int x, a2, a3] (.int x :: st) h) ∧
  (∀ (d : Nat) (L : List Value) (x0 : Int32) (x1 : Int32)  (h : fk_H), fk_ev (d + 1) qX1_step 32 L (.int x1 :: .int x0 :: []) h = (fk_ev d qX11_faultAt 0 [.int x0, .int x1] [] h).bind fun o => fk_ev (d + 1) qX1_step 35 L (o.1.toList ++ []) o.2) ∧
  (∀ (d : Nat) (L : List Value) (x : Int32) (h : fk_H), fk_ev d qX1_step 35 L [.int x] h = some (some (.int x), h)) ∧
  (∀ (d : Nat) (a1 a2 a3 : Value) (x : Nat) (st : List Value) (h : fk_H), fk_ev d qX1_step 36 [.ref x, a1, a2, a3] st h = fk_ev d qX1_step 37 [.ref x, a1, a2, a3] (.ref x :: st) h) ∧
  (∀ (d : Nat) (L : List Value)   (N : Nat) (y : Nat → Nat → Int32) (l : Nat → Nat → Int64), fk_ev (d + 1) qX1_step 37 L (.ref 30 :: []) (fk_E N y l) = (fk_ev d qX1_peek 0 [.ref 30] [] (fk_E N y l)).bind fun o => fk_ev (d + 1) qX1_step 40 L (o.1.toList ++ []) o.2) ∧
  (∀ (d : Nat) (L st : List Value) (h : fk_H), fk_ev d qX1_step 40 L st h = fk_ev d qX1_step 42 L (.int (nI 64) :: st) h) ∧
  (∀ (d : Nat) (L : List Value) (x y : Int32) (st : List Value) (h : fk_H), fk_ev d qX1_step 42 L (.int y :: .int x :: st) h = if x = y then fk_ev d qX1_step 54 L st h else fk_ev d qX1_step 45 L st h) ∧
  (∀ (d : Nat) (L st : List Value) (h : fk_H), fk_ev d qX1_step 45 L st h = fk_ev d qX1_step 46 L (.int (nI 1) :: st) h) ∧
  (∀ (d : Nat) (a1 a2 a3 : Value) (x : Nat) (st : List Value) (h : fk_H), fk_ev d qX1_step 46 [.ref x, a1, a2, a3] st h = fk_ev d qX1_step 47 [.ref x, a1, a2, a3] (.ref x :: st) h) ∧
  (∀ (d : Nat) (L st : List Value) (N : Nat) (y : Nat → Nat → Int32) (l : Nat → Nat → Int64), fk_ev d qX1_step 47 L (.ref 30 :: st) (fk_E N y l) = fk_ev d qX1_step 50 L (.int (y 30 5) :: st) (fk_E N y l)) ∧
  (∀ (d : Nat) (L : List Value) (x0 : Int32) (x1 : Int32)  (h : fk_H), fk_ev (d + 1) qX1_step 50 L (.int x1 :: .int x0 :: []) h = (fk_ev d qX11_faultAt 0 [.int x0, .int x1] [] h).bind fun o => fk_ev (d + 1) qX1_step 53 L (o.1.toList ++ []) o.2) ∧
  (∀ (d : Nat) (L : List Value) (x : Int32) (h : fk_H), fk_ev d qX1_step 53 L [.int x] h = some (some (.int x), h)) ∧
  (∀ (d : Nat) (a1 a2 a3 : Value) (x : Nat) (st : List Value) (h : fk_H), fk_ev d qX1_step 54 [.ref x, a1, a2, a3] st h = fk_ev d qX1_step 55 [.ref x, a1, a2, a3] (.ref x :: st) h) ∧
  (∀ (d : Nat) (L : List Value) (x : Nat) (st : List Value) (h : fk_H), fk_ev d qX1_step 55 L (.ref x :: st) h = fk_ev d qX1_step 56 L (.ref x :: .ref x :: st) h) ∧
  (∀ (d : Nat) (L st : List Value) (N : Nat) (y : Nat → Nat → Int32) (l : Nat → Nat → Int64), fk_ev d qX1_step 56 L (.ref 30 :: st) (fk_E N y l) = fk_ev d qX1_step 59 L (.int (y 30 5) :: st) (fk_E N y l)) ∧
  (∀ (d : Nat) (L st : List Value) (h : fk_H), fk_ev d qX1_step 59 L st h = fk_ev d qX1_step 60 L (.int (nI 1) :: st) h) ∧
  (∀ (d : Nat) (L : List Value) (x y : Int32) (st : List Value) (h : fk_H), fk_ev d qX1_step 60 L (.int y :: .int x :: st) h = fk_ev d qX1_step 61 L (.int (x + y) :: st) h) ∧
  (∀ (d : Nat) (L st : List Value) (N : Nat) (y : Nat → Nat → Int32) (l : Nat → Nat → Int64) (v : Int32), fk_ev d qX1_step 61 L (.int v :: .ref 30 :: st) (fk_E N y l) = fk_ev d qX1_step 64 L st (fk_E N (fk_u y 30 5 v) l)) ∧
  (∀ (d : Nat) (a1 a2 a3 : Value) (x : Nat) (st : List Value) (h : fk_H), fk_ev d qX1_step 64 [.ref x, a1, a2, a3] st h = fk_ev d qX1_step 65 [.ref x, a1, a2, a3] (.ref x :: st) h) ∧
  (∀ (d : Nat) (L st : List Value) (N : Nat) (y : Nat → Nat → Int32) (l : Nat → Nat → Int64), fk_ev d qX1_step 65 L (.ref 30 :: st) (fk_E N y l) = fk_ev d qX1_step 68 L (.int (y 30 5) :: st) (fk_E N y l)) ∧
  (∀ (d : Nat) (a0 a1 a2 a3 : Value) (x : Int32) (st : List Value) (h : fk_H), fk_ev d qX1_step 68 [a0, a1, a2, a3] (.int x :: st) h = fk_ev d qX1_step 69 [a0, .int x, a2, a3] st h) ∧
  (∀ (d : Nat) (a1 a2 a3 : Value) (x : Nat) (st : List Value) (h : fk_H), fk_ev d qX1_step 69 [.ref x, a1, a2, a3] st h = fk_ev d qX1_step 70 [.ref x, a1, a2, a3] (.ref x :: st) h) ∧
  (∀ (d : Nat) (L st : List Value) (h : fk_H), fk_ev d qX1_step 70 L st h = fk_ev d qX1_step 71 L (.int (nI 3) :: st) h) ∧
  (∀ (d : Nat) (L : List Value) (x0 : Int32)  (N : Nat) (y : Nat → Nat → Int32) (l : Nat → Nat → Int64), fk_ev (d + 1) qX1_step 71 L (.int x0 :: .ref 30 :: []) (fk_E N y l) = (fk_ev d qX1_digits 0 [.ref 30, .int x0, .null, .null] [] (fk_E N y l)).bind fun o => fk_ev (d + 1) qX1_step 74 L (o.1.toList ++ []) o.2) ∧
  (∀ (d : Nat) (a0 a1 a2 a3 : Value) (x : Int32) (st : List Value) (h : fk_H), fk_ev d qX1_step 74 [a0, a1, a2, a3] (.int x :: st) h = fk_ev d qX1_step 75 [a0, a1, a2, .int x] st h) ∧
  (∀ (d : Nat) (a0 a1 a2 : Value) (x : Int32) (st : List Value) (h : fk_H), fk_ev d qX1_step 75 [a0, a1, a2, .int x] st h = fk_ev d qX1_step 76 [a0, a1, a2, .int x] (.int x :: st) h) ∧
  (∀ (d : Nat) (L : List Value) (x : Int32) (st : List Value) (h : fk_H), fk_ev d qX1_step 76 L (.int x :: st) h = if nI 0 ≤ x then fk_ev d qX1_step 88 L st h else fk_ev d qX1_step 79 L st h) ∧
  (∀ (d : Nat) (L st : List Value) (h : fk_H), fk_ev d qX1_step 79 L st h = fk_ev d qX1_step 80 L (.int (nI 1) :: st) h) ∧
  (∀ (d : Nat) (a1 a2 a3 : Value) (x : Nat) (st : List Value) (h : fk_H), fk_ev d qX1_step 80 [.ref x, a1, a2, a3] st h = fk_ev d qX1_step 81 [.ref x, a1, a2, a3] (.ref x :: st) h) ∧
  (∀ (d : Nat) (L st : List Value) (N : Nat) (y : Nat → Nat → Int32) (l : Nat → Nat → Int64), fk_ev d qX1_step 81 L (.ref 30 :: st) (fk_E N y l) = fk_ev d qX1_step 84 L (.int (y 30 5) :: st) (fk_E N y l)) ∧
  (∀ (d : Nat) (L : List Value) (x0 : Int32) (x1 : Int32)  (h : fk_H), fk_ev (d + 1) qX1_step 84 L (.int x1 :: .int x0 :: []) h = (fk_ev d qX11_faultAt 0 [.int x0, .int x1] [] h).bind fun o => fk_ev (d + 1) qX1_step 87 L (o.1.toList ++ []) o.2) ∧
  (∀ (d : Nat) (L : List Value) (x : Int32) (h : fk_H), fk_ev d qX1_step 87 L [.int x] h = some (some (.int x), h)) ∧
  (∀ (d : Nat) (a1 a2 a3 : Value) (x : Nat) (st : List Value) (h : fk_H), fk_ev d qX1_step 88 [.ref x, a1, a2, a3] st h = fk_ev d qX1_step 89 [.ref x, a1, a2, a3] (.ref x :: st) h) ∧
  (∀ (d : Nat) (L st : List Value) (N : Nat) (y : Nat → Nat → Int32) (l : Nat → Nat → Int64), fk_ev d qX1_step 89 L (.ref 30 :: st) (fk_E N y l) = fk_ev d qX1_step 92 L (.int (y 30 3) :: st) (fk_E N y l)) ∧
  (∀ (d : Nat) (L : List Value) (x : Int32) (st : List Value) (h : fk_H), fk_ev d qX1_step 92 L (.int x :: st) h = if x ≤ nI 0 then fk_ev d qX1_step 117 L st h else fk_ev d qX1_step 95 L st h) ∧
  (∀ (d : Nat) (a0 a1 a2 : Value) (x : Int32) (st : List Value) (h : fk_H), fk_ev d qX1_step 95 [a0, a1, a2, .int x] st h = fk_ev d qX1_step 96 [a0, a1, a2, .int x] (.int x :: st) h) ∧
  (∀ (d : Nat) (a1 a2 a3 : Value) (x : Nat) (st : List Value) (h : fk_H), fk_ev d qX1_step 96 [.ref x, a1, a2, a3] st h = fk_ev d qX1_step 97 [.ref x, a1, a2, a3] (.ref x :: st) h) ∧
  (∀ (d : Nat) (L st : List Value) (N : Nat) (y : Nat → Nat → Int32) (l : Nat → Nat → Int64), fk_ev d qX1_step 97 L (.ref 30 :: st) (fk_E N y l) = fk_ev d qX1_step 100 L (.ref 32 :: st) (fk_E N y l)) ∧
  (∀ (d : Nat) (a1 a2 a3 : Value) (x : Nat) (st : List Value) (h : fk_H), fk_ev d qX1_step 100 [.ref x, a1, a2, a3] st h = fk_ev d qX1_step 101 [.ref x, a1, a2, a3] (.ref x :: st) h) ∧
  (∀ (d : Nat) (L st : List Value) (N : Nat) (y : Nat → Nat → Int32) (l : Nat → Nat → Int64), fk_ev d qX1_step 101 L (.ref 30 :: st) (fk_E N y l) = fk_ev d qX1_step 104 L (.int (y 30 3) :: st) (fk_E N y l)) ∧
  (∀ (d : Nat) (L st : List Value) (h : fk_H), fk_ev d qX1_step 104 L st h = fk_ev d qX1_step 105 L (.int (nI 1) :: st) h) ∧
  (∀ (d : Nat) (L : List Value) (x y : Int32) (st : List Value) (h : fk_H), fk_ev d qX1_step 105 L (.int y :: .int x :: st) h = fk_ev d qX1_step 106 L (.int (x - y) :: st) h) ∧
  (∀ (d : Nat) (L st : List Value) (N : Nat) (y : Nat → Nat → Int32) (l : Nat → Nat → Int64) (i : Nat), i < 16 → fk_ev d qX1_step 106 L (.int (nI i) :: .ref 32 :: st) (fk_E N y l) = fk_ev d qX1_step 107 L (.int (y 32 i) :: st) (fk_E N y l)) ∧
  (∀ (d : Nat) (L : List Value) (x y : Int32) (st : List Value) (h : fk_H), fk_ev d qX1_step 107 L (.int y :: .int x :: st) h = if y < x then fk_ev d qX1_step 117 L st h else fk_ev d qX1_step 110 L st h) ∧
  (∀ (d : Nat) (L st : List Value) (h : fk_H), fk_ev d qX1_step 110 L st h = fk_ev d qX1_step 112 L (.int (nI 6) :: st) h) ∧
  (∀ (d : Nat) (a0 a2 a3 : Value) (x : Int32) (st : List Value) (h : fk_H), fk_ev d qX1_step 112 [a0, .int x, a2, a3] st h = fk_ev d qX1_step 113 [a0, .int x, a2, a3] (.int x :: st) h) ∧
  (∀ (d : Nat) (L : List Value) (x0 : Int32) (x1 : Int32)  (h : fk_H), fk_ev (d + 1) qX1_step 113 L (.int x1 :: .int x0 :: []) h = (fk_ev d qX11_faultAt 0 [.int x0, .int x1] [] h).bind fun o => fk_ev (d + 1) qX1_step 116 L (o.1.toList ++ []) o.2) ∧
  (∀ (d : Nat) (L : List Value) (x : Int32) (h : fk_H), fk_ev d qX1_step 116 L [.int x] h = some (some (.int x), h)) ∧
  (∀ (d : Nat) (a1 a2 a3 : Value) (x : Nat) (st : List Value) (h : fk_H), fk_ev d qX1_step 117 [.ref x, a1, a2, a3] st h = fk_ev d qX1_step 118 [.ref x, a1, a2, a3] (.ref x :: st) h) ∧
  (∀ (d : Nat) (L st : List Value) (N : Nat) (y : Nat → Nat → Int32) (l : Nat → Nat → Int64), fk_ev d qX1_step 118 L (.ref 30 :: st) (fk_E N y l) = fk_ev d qX1_step 121 L (.ref 31 :: st) (fk_E N y l)) ∧
  (∀ (d : Nat) (a1 a2 a3 : Value) (x : Nat) (st : List Value) (h : fk_H), fk_ev d qX1_step 121 [.ref x, a1, a2, a3] st h = fk_ev d qX1_step 122 [.ref x, a1, a2, a3] (.ref x :: st) h) ∧
  (∀ (d : Nat) (L st : List Value) (N : Nat) (y : Nat → Nat → Int32) (l : Nat → Nat → Int64), fk_ev d qX1_step 122 L (.ref 30 :: st) (fk_E N y l) = fk_ev d qX1_step 125 L (.int (y 30 3) :: st) (fk_E N y l)) ∧
  (∀ (d : Nat) (a0 a1 a3 : Value) (x : Int32) (st : List Value) (h : fk_H), fk_ev d qX1_step 125 [a0, a1, .int x, a3] st h = fk_ev d qX1_step 126 [a0, a1, .int x, a3] (.int x :: st) h) ∧
  (∀ (d : Nat) (L st : List Value) (N : Nat) (y : Nat → Nat → Int32) (l : Nat → Nat → Int64) (i : Nat) (v : Int32), i < 16 → fk_ev d qX1_step 126 L (.int v :: .int (nI i) :: .ref 31 :: st) (fk_E N y l) = fk_ev d qX1_step 127 L st (fk_E N (fk_u y 31 i v) l)) ∧
  (∀ (d : Nat) (a1 a2 a3 : Value) (x : Nat) (st : List Value) (h : fk_H), fk_ev d qX1_step 127 [.ref x, a1, a2, a3] st h = fk_ev d qX1_step 128 [.ref x, a1, a2, a3] (.ref x :: st) h) ∧
  (∀ (d : Nat) (L st : List Value) (N : Nat) (y : Nat → Nat → Int32) (l : Nat → Nat → Int64), fk_ev d qX1_step 128 L (.ref 30 :: st) (fk_E N y l) = fk_ev d qX1_step 131 L (.ref 32 :: st) (fk_E N y l)) ∧
  (∀ (d : Nat) (a1 a2 a3 : Value) (x : Nat) (st : List Value) (h : fk_H), fk_ev d qX1_step 131 [.ref x, a1, a2, a3] st h = fk_ev d qX1_step 132 [.ref x, a1, a2, a3] (.ref x :: st) h) ∧
  (∀ (d : Nat) (L st : List Value) (N : Nat) (y : Nat → Nat → Int32) (l : Nat → Nat → Int64), fk_ev d qX1_step 132 L (.ref 30 :: st) (fk_E N y l) = fk_ev d qX1_step 135 L (.int (y 30 3) :: st) (fk_E N y l)) ∧
  (∀ (d : Nat) (a0 a1 a2 : Value) (x : Int32) (st : List Value) (h : fk_H), fk_ev d qX1_step 135 [a0, a1, a2, .int x] st h = fk_ev d qX1_step 136 [a0, a1, a2, .int x] (.int x :: st) h) ∧
  (∀ (d : Nat) (L st : List Value) (N : Nat) (y : Nat → Nat → Int32) (l : Nat → Nat → Int64) (i : Nat) (v : Int32), i < 16 → fk_ev d qX1_step 136 L (.int v :: .int (nI i) :: .ref 32 :: st) (fk_E N y l) = fk_ev d qX1_step 137 L st (fk_E N (fk_u y 32 i v) l)) ∧
  (∀ (d : Nat) (a1 a2 a3 : Value) (x : Nat) (st : List Value) (h : fk_H), fk_ev d qX1_step 137 [.ref x, a1, a2, a3] st h = fk_ev d qX1_step 138 [.ref x, a1, a2, a3] (.ref x :: st) h) ∧
  (∀ (d : Nat) (L : List Value) (x : Nat) (st : List Value) (h : fk_H), fk_ev d qX1_step 138 L (.ref x :: st) h = fk_ev d qX1_step 139 L (.ref x :: .ref x :: st) h) ∧
  (∀ (d : Nat) (L st : List Value) (N : Nat) (y : Nat → Nat → Int32) (l : Nat → Nat → Int64), fk_ev d qX1_step 139 L (.ref 30 :: st) (fk_E N y l) = fk_ev d qX1_step 142 L (.int (y 30 3) :: st) (fk_E N y l)) ∧
  (∀ (d : Nat) (L st : List Value) (h : fk_H), fk_ev d qX1_step 142 L st h = fk_ev d qX1_step 143 L (.int (nI 1) :: st) h) ∧
  (∀ (d : Nat) (L : List Value) (x y : Int32) (st : List Value) (h : fk_H), fk_ev d qX1_step 143 L (.int y :: .int x :: st) h = fk_ev d qX1_step 144 L (.int (x + y) :: st) h) ∧
  (∀ (d : Nat) (L st : List Value) (N : Nat) (y : Nat → Nat → Int32) (l : Nat → Nat → Int64) (v : Int32), fk_ev d qX1_step 144 L (.int v :: .ref 30 :: st) (fk_E N y l) = fk_ev d qX1_step 147 L st (fk_E N (fk_u y 30 3 v) l)) ∧
  (∀ (d : Nat) (L st : List Value) (h : fk_H), fk_ev d qX1_step 147 L st h = fk_ev d qX1_step 148 L (.int (nI 0) :: st) h) ∧
  (∀ (d : Nat) (L : List Value) (x : Int32) (h : fk_H), fk_ev d qX1_step 148 L [.int x] h = some (some (.int x), h)) := ⟨fun d a1 a2 a3 x st h => fk_w_aloadn 0 [.ref x, a1, a2, a3] dX1_step_0 rfl,
  fun d L st N y l => fk_g_getI rfl lf_1_25 (by decide) dX1_step_1 fk_at_30,
  fun d a0 a1 a2 a3 x st h => fk_w_istoren 1 4 [] [a0, a1, a2, a3] [a0, .int x, a2, a3] dX1_step_4 rfl rfl (by decide) rfl,
  fun d a1 a2 a3 x st h => fk_w_aloadn 0 [.ref x, a1, a2, a3] dX1_step_5 rfl,
  fun d L st h => fk_w_iconst dX1_step_6 (by decide),
  fun d L x0 N y l  => fk_g_call [.int x0] [] rfl lm_1_43 dX1_step_7 rfl ⟨rfl, by decide⟩ (by simp) fk_at_30,
  fun d a0 a1 a2 a3 x st h => fk_w_istoren 2 4 [] [a0, a1, a2, a3] [a0, a1, .int x, a3] dX1_step_10 rfl rfl (by decide) rfl,
  fun d a0 a1 a3 x st h => fk_w_iloadn 2 [a0, a1, .int x, a3] dX1_step_11 rfl,
  fun d L x st h => fk_r_if_ge dX1_step_12 (by decide),
  fun d L st h => fk_w_iconst dX1_step_15 (by decide),
  fun d a1 a2 a3 x st h => fk_w_aloadn 0 [.ref x, a1, a2, a3] dX1_step_16 rfl,
  fun d L st N y l => fk_g_getI rfl lf_1_25 (by decide) dX1_step_17 fk_at_30,
  fun d L x0 x1 h => fk_g_calls [.int x0, .int x1] [] rfl lm_1_39 dX1_step_20 rfl ⟨rfl, by decide⟩ (by simp),
  fun d L x h => fk_r_ret dX1_step_23 (Or.inl rfl),
  fun d a0 a1 a3 x st h => fk_w_iloadn 2 [a0, a1, .int x, a3] dX1_step_24 rfl,
  fun d L st h => fk_w_bipush dX1_step_25 (by decide),
  fun d L x y st h => fk_r_icmp_lt dX1_step_27 (by decide),
  fun d L st h => fk_w_iconst dX1_step_30 (by decide),
  fun d a0 a2 a3 x st h => fk_w_iloadn 1 [a0, .int x, a2, a3] dX1_step_31 rfl,
  fun d L x0 x1 h => fk_g_calls [.int x0, .int x1] [] rfl lm_1_39 dX1_step_32 rfl ⟨rfl, by decide⟩ (by simp),
  fun d L x h => fk_r_ret dX1_step_35 (Or.inl rfl),
  fun d a1 a2 a3 x st h => fk_w_aloadn 0 [.ref x, a1, a2, a3] dX1_step_36 rfl,
  fun d L  N y l  => fk_g_call [] [] rfl lm_1_36 dX1_step_37 rfl ⟨rfl, by decide⟩ (by simp) fk_at_30,
  fun d L st h => fk_w_bipush dX1_step_40 (by decide),
  fun d L x y st h => fk_r_icmp_eq dX1_step_42 (by decide),
  fun d L st h => fk_w_iconst dX1_step_45 (by decide),
  fun d a1 a2 a3 x st h => fk_w_aloadn 0 [.ref x, a1, a2, a3] dX1_step_46 rfl,
  fun d L st N y l => fk_g_getI rfl lf_1_25 (by decide) dX1_step_47 fk_at_30,
  fun d L x0 x1 h => fk_g_calls [.int x0, .int x1] [] rfl lm_1_39 dX1_step_50 rfl ⟨rfl, by decide⟩ (by simp),
  fun d L x h => fk_r_ret dX1_step_53 (Or.inl rfl),
  fun d a1 a2 a3 x st h => fk_w_aloadn 0 [.ref x, a1, a2, a3] dX1_step_54 rfl,
  fun d L x st h => fk_r_dup_ref dX1_step_55,
  fun d L st N y l => fk_g_getI rfl lf_1_25 (by decide) dX1_step_56 fk_at_30,
  fun d L st h => fk_w_iconst dX1_step_59 (by decide),
  fun d L x y st h => fk_r_iadd dX1_step_60,
  fun d L st N y l v => fk_g_putI rfl lf_1_25 (by decide) dX1_step_61 rfl fk_at_30,
  fun d a1 a2 a3 x st h => fk_w_aloadn 0 [.ref x, a1, a2, a3] dX1_step_64 rfl,
  fun d L st N y l => fk_g_getI rfl lf_1_25 (by decide) dX1_step_65 fk_at_30,
  fun d a0 a1 a2 a3 x st h => fk_w_istoren 1 4 [] [a0, a1, a2, a3] [a0, .int x, a2, a3] dX1_step_68 rfl rfl (by decide) rfl,
  fun d a1 a2 a3 x st h => fk_w_aloadn 0 [.ref x, a1, a2, a3] dX1_step_69 rfl,
  fun d L st h => fk_w_iconst dX1_step_70 (by decide),
  fun d L x0 N y l  => fk_g_call [.int x0] [] rfl lm_1_43 dX1_step_71 rfl ⟨rfl, by decide⟩ (by simp) fk_at_30,
  fun d a0 a1 a2 a3 x st h => fk_w_istoren 3 4 [] [a0, a1, a2, a3] [a0, a1, a2, .int x] dX1_step_74 rfl rfl (by decide) rfl,
  fun d a0 a1 a2 x st h => fk_w_iloadn 3 [a0, a1, a2, .int x] dX1_step_75 rfl,
  fun d L x st h => fk_r_if_ge dX1_step_76 (by decide),
  fun d L st h => fk_w_iconst dX1_step_79 (by decide),
  fun d a1 a2 a3 x st h => fk_w_aloadn 0 [.ref x, a1, a2, a3] dX1_step_80 rfl,
  fun d L st N y l => fk_g_getI rfl lf_1_25 (by decide) dX1_step_81 fk_at_30,
  fun d L x0 x1 h => fk_g_calls [.int x0, .int x1] [] rfl lm_1_39 dX1_step_84 rfl ⟨rfl, by decide⟩ (by simp),
  fun d L x h => fk_r_ret dX1_step_87 (Or.inl rfl),
  fun d a1 a2 a3 x st h => fk_w_aloadn 0 [.ref x, a1, a2, a3] dX1_step_88 rfl,
  fun d L st N y l => fk_g_getI rfl lf_1_18 (by decide) dX1_step_89 fk_at_30,
  fun d L x st h => fk_r_if_le dX1_step_92 (by decide),
  fun d a0 a1 a2 x st h => fk_w_iloadn 3 [a0, a1, a2, .int x] dX1_step_95 rfl,
  fun d a1 a2 a3 x st h => fk_w_aloadn 0 [.ref x, a1, a2, a3] dX1_step_96 rfl,
  fun d L st N y l => fk_g_getC rfl lf_1_15 (by decide) rfl dX1_step_97 fk_at_30,
  fun d a1 a2 a3 x st h => fk_w_aloadn 0 [.ref x, a1, a2, a3] dX1_step_100 rfl,
  fun d L st N y l => fk_g_getI rfl lf_1_18 (by decide) dX1_step_101 fk_at_30,
  fun d L st h => fk_w_iconst dX1_step_104 (by decide),
  fun d L x y st h => fk_r_isub dX1_step_105,
  fun d L st N y l i hi => fk_g_iald fk_at_32 fk_ln_32 (by decide) dX1_step_106 hi,
  fun d L x y st h => fk_r_icmp_gt dX1_step_107 (by decide),
  fun d L st h => fk_w_bipush dX1_step_110 (by decide),
  fun d a0 a2 a3 x st h => fk_w_iloadn 1 [a0, .int x, a2, a3] dX1_step_112 rfl,
  fun d L x0 x1 h => fk_g_calls [.int x0, .int x1] [] rfl lm_1_39 dX1_step_113 rfl ⟨rfl, by decide⟩ (by simp),
  fun d L x h => fk_r_ret dX1_step_116 (Or.inl rfl),
  fun d a1 a2 a3 x st h => fk_w_aloadn 0 [.ref x, a1, a2, a3] dX1_step_117 rfl,
  fun d L st N y l => fk_g_getC rfl lf_1_9 (by decide) rfl dX1_step_118 fk_at_30,
  fun d a1 a2 a3 x st h => fk_w_aloadn 0 [.ref x, a1, a2, a3] dX1_step_121 rfl,
  fun d L st N y l => fk_g_getI rfl lf_1_18 (by decide) dX1_step_122 fk_at_30,
  fun d a0 a1 a3 x st h => fk_w_iloadn 2 [a0, a1, .int x, a3] dX1_step_125 rfl,
  fun d L st N y l i v hi => fk_g_iast fk_at_31 fk_ln_31 (by decide) dX1_step_126 hi,
  fun d a1 a2 a3 x st h => fk_w_aloadn 0 [.ref x, a1, a2, a3] dX1_step_127 rfl,
  fun d L st N y l => fk_g_getC rfl lf_1_15 (by decide) rfl dX1_step_128 fk_at_30,
  fun d a1 a2 a3 x st h => fk_w_aloadn 0 [.ref x, a1, a2, a3] dX1_step_131 rfl,
  fun d L st N y l => fk_g_getI rfl lf_1_18 (by decide) dX1_step_132 fk_at_30,
  fun d a0 a1 a2 x st h => fk_w_iloadn 3 [a0, a1, a2, .int x] dX1_step_135 rfl,
  fun d L st N y l i v hi => fk_g_iast fk_at_32 fk_ln_32 (by decide) dX1_step_136 hi,
  fun d a1 a2 a3 x st h => fk_w_aloadn 0 [.ref x, a1, a2, a3] dX1_step_137 rfl,
  fun d L x st h => fk_r_dup_ref dX1_step_138,
  fun d L st N y l => fk_g_getI rfl lf_1_18 (by decide) dX1_step_139 fk_at_30,
  fun d L st h => fk_w_iconst dX1_step_142 (by decide),
  fun d L x y st h => fk_r_iadd dX1_step_143,
  fun d L st N y l v => fk_g_putI rfl lf_1_18 (by decide) dX1_step_144 rfl fk_at_30,
  fun d L st h => fk_w_iconst dX1_step_147 (by decide),
  fun d L x h => fk_r_ret dX1_step_148 (Or.inl rfl)⟩
theorem dX1_peek_0 : decode cX1_peek 0 = .ok (.aload_n 0, 1) := by decide +kernel
theorem dX1_peek_1 : decode cX1_peek 1 = .ok (.getfield 25, 3) := by decide +kernel
theorem dX1_peek_4 : decode cX1_peek 4 = .ok (.aload_n 0, 1) := by decide +kernel
theorem dX1_peek_5 : decode cX1_peek 5 = .ok (.getfield 22, 3) := by decide +kernel
theorem dX1_peek_8 : decode cX1_peek 8 = .ok (.if_icmp .ge 17, 3) := by decide +kernel
theorem dX1_peek_11 : decode cX1_peek 11 = .ok (.aload_n 0, 1) := by decide +kernel
theorem dX1_peek_12 : decode cX1_peek 12 = .ok (.getfield 28, 3) := by decide +kernel
theorem dX1_peek_15 : decode cX1_peek 15 = .ok (.aload_n 0, 1) := by decide +kernel
theorem dX1_peek_16 : decode cX1_peek 16 = .ok (.getfield 25, 3) := by decide +kernel
theorem dX1_peek_19 : decode cX1_peek 19 = .ok (.invokevirtual 47, 3) := by decide +kernel
theorem dX1_peek_22 : decode cX1_peek 22 = .ok (.goto 4, 3) := by decide +kernel
theorem dX1_peek_25 : decode cX1_peek 25 = .ok (.iconst (-1), 1) := by decide +kernel
theorem dX1_peek_26 : decode cX1_peek 26 = .ok (.ireturn, 1) := by decide +kernel
theorem rX1_peek : (∀ (d : Nat) (x : Nat) (st : List Value) (h : fk_H), fk_ev d qX1_peek 0 [.ref x] st h = fk_ev d qX1_peek 1 [.ref x] (.ref x :: st) h) ∧
  (∀ (d : Nat) (L st : List Value) (N : Nat) (y : Nat → Nat → Int32) (l : Nat → Nat → Int64), fk_ev d qX1_peek 1 L (.ref 30 :: st) (fk_E N y l) = fk_ev d qX1_peek 4 L (.int (y 30 5) :: st) (fk_E N y l)) ∧
  (∀ (d : Nat) (x : Nat) (st : List Value) (h : fk_H), fk_ev d qX1_peek 4 [.ref x] st h = fk_ev d qX1_peek 5 [.ref x] (.ref x :: st) h) ∧
  (∀ (d : Nat) (L st : List Value) (N : Nat) (y : Nat → Nat → Int32) (l : Nat → Nat → Int64), fk_ev d qX1_peek 5 L (.ref 30 :: st) (fk_E N y l) = fk_ev d qX1_peek 8 L (.int (y 30 4) :: st) (fk_E N y l)) ∧
  (∀ (d : Nat) (L : List Value) (x y : Int32) (st : List Value) (h : fk_H), fk_ev d qX1_peek 8 L (.int y :: .int x :: st) h = if y ≤ x then fk_ev d qX1_peek 25 L st h else fk_ev d qX1_peek 11 L st h) ∧
  (∀ (d : Nat) (x : Nat) (st : List Value) (h : fk_H), fk_ev d qX1_peek 11 [.ref x] st h = fk_ev d qX1_peek 12 [.ref x] (.ref x :: st) h) ∧
  (∀ (d : Nat) (L st : List Value) (N : Nat) (y : Nat → Nat → Int32) (l : Nat → Nat → Int64), fk_ev d qX1_peek 12 L (.ref 30 :: st) (fk_E N y l) = fk_ev d qX1_peek 15 L (.ref 26 :: st) (fk_E N y l)) ∧
  (∀ (d : Nat) (x : Nat) (st : List Value) (h : fk_H), fk_ev d qX1_peek 15 [.ref x] st h = fk_ev d qX1_peek 16 [.ref x] (.ref x :: st) h) ∧
  (∀ (d : Nat) (L st : List Value) (N : Nat) (y : Nat → Nat → Int32) (l : Nat → Nat → Int64), fk_ev d qX1_peek 16 L (.ref 30 :: st) (fk_E N y l) = fk_ev d qX1_peek 19 L (.int (y 30 5) :: st) (fk_E N y l)) ∧
  (∀ (d : Nat) (L : List Value) (x0 : Int32)  (N : Nat) (y : Nat → Nat → Int32) (l : Nat → Nat → Int64), fk_ev (d + 1) qX1_peek 19 L (.int x0 :: .ref 26 :: []) (fk_E N y l) = (fk_ev d qX10_byteAt 0 [.ref 26, .int x0] [] (fk_E N y l)).bind fun o => fk_ev (d + 1) qX1_peek 22 L (o.1.toList ++ []) o.2) ∧
  (∀ (d : Nat) (L st : List Value) (h : fk_H), fk_ev d qX1_peek 22 L st h = fk_ev d qX1_peek 26 L st h) ∧
  (∀ (d : Nat) (L st : List Value) (h : fk_H), fk_ev d qX1_peek 25 L st h = fk_ev d qX1_peek 26 L (.int ((-1 : Int32)) :: st) h) ∧
  (∀ (d : Nat) (L : List Value) (x : Int32) (h : fk_H), fk_ev d qX1_peek 26 L [.int x] h = some (some (.int x), h)) := ⟨fun d  x st h => fk_w_aloadn 0 [.ref x] dX1_peek_0 rfl,
  fun d L st N y l => fk_g_getI rfl lf_1_25 (by decide) dX1_peek_1 fk_at_30,
  fun d  x st h => fk_w_aloadn 0 [.ref x] dX1_peek_4 rfl,
  fun d L st N y l => fk_g_getI rfl lf_1_22 (by decide) dX1_peek_5 fk_at_30,
  fun d L x y st h => fk_r_icmp_ge dX1_peek_8 (by decide),
  fun d  x st h => fk_w_aloadn 0 [.ref x] dX1_peek_11 rfl,
  fun d L st N y l => fk_g_getC rfl lf_1_28 (by decide) rfl dX1_peek_12 fk_at_30,
  fun d  x st h => fk_w_aloadn 0 [.ref x] dX1_peek_15 rfl,
  fun d L st N y l => fk_g_getI rfl lf_1_25 (by decide) dX1_peek_16 fk_at_30,
  fun d L x0 N y l  => fk_g_call [.int x0] [] rfl lm_1_47 dX1_peek_19 rfl ⟨rfl, by decide⟩ (by simp) fk_at_26,
  fun d L st h => fk_r_goto dX1_peek_22 (by decide),
  fun d L st h => fk_w_iconst dX1_peek_25 (by decide),
  fun d L x h => fk_r_ret dX1_peek_26 (Or.inl rfl)⟩
theorem dX1_digits_0 : decode cX1_digits 0 = .ok (.iconst (-1), 1) := by decide +kernel
theorem dX1_digits_1 : decode cX1_digits 1 = .ok (.istore_n 2, 1) := by decide +kernel
theorem dX1_digits_2 : decode cX1_digits 2 = .ok (.iconst 0, 1) := by decide +kernel
theorem dX1_digits_3 : decode cX1_digits 3 = .ok (.istore_n 3, 1) := by decide +kernel
theorem dX1_digits_4 : decode cX1_digits 4 = .ok (.iload_n 3, 1) := by decide +kernel
theorem dX1_digits_5 : decode cX1_digits 5 = .ok (.iload_n 1, 1) := by decide +kernel
theorem dX1_digits_6 : decode cX1_digits 6 = .ok (.if_icmp .ge 54, 3) := by decide +kernel
theorem dX1_digits_9 : decode cX1_digits 9 = .ok (.aload_n 0, 1) := by decide +kernel
theorem dX1_digits_10 : decode cX1_digits 10 = .ok (.invokevirtual 36, 3) := by decide +kernel
theorem dX1_digits_13 : decode cX1_digits 13 = .ok (.bipush 48, 2) := by decide +kernel
theorem dX1_digits_15 : decode cX1_digits 15 = .ok (.if_icmp .lt 45, 3) := by decide +kernel
theorem dX1_digits_18 : decode cX1_digits 18 = .ok (.aload_n 0, 1) := by decide +kernel
theorem dX1_digits_19 : decode cX1_digits 19 = .ok (.invokevirtual 36, 3) := by decide +kernel
theorem dX1_digits_22 : decode cX1_digits 22 = .ok (.bipush 57, 2) := by decide +kernel
theorem dX1_digits_24 : decode cX1_digits 24 = .ok (.if_icmp .gt 36, 3) := by decide +kernel
theorem dX1_digits_27 : decode cX1_digits 27 = .ok (.bipush 10, 2) := by decide +kernel
theorem dX1_digits_29 : decode cX1_digits 29 = .ok (.iload_n 2, 1) := by decide +kernel
theorem dX1_digits_30 : decode cX1_digits 30 = .ok (.iconst 0, 1) := by decide +kernel
theorem dX1_digits_31 : decode cX1_digits 31 = .ok (.invokestatic 52, 3) := by decide +kernel
theorem dX1_digits_34 : decode cX1_digits 34 = .ok (.imul, 1) := by decide +kernel
theorem dX1_digits_35 : decode cX1_digits 35 = .ok (.aload_n 0, 1) := by decide +kernel
theorem dX1_digits_36 : decode cX1_digits 36 = .ok (.invokevirtual 36, 3) := by decide +kernel
theorem dX1_digits_39 : decode cX1_digits 39 = .ok (.iadd, 1) := by decide +kernel
theorem dX1_digits_40 : decode cX1_digits 40 = .ok (.bipush 48, 2) := by decide +kernel
theorem dX1_digits_42 : decode cX1_digits 42 = .ok (.isub, 1) := by decide +kernel
theorem dX1_digits_43 : decode cX1_digits 43 = .ok (.istore_n 2, 1) := by decide +kernel
theorem dX1_digits_44 : decode cX1_digits 44 = .ok (.aload_n 0, 1) := by decide +kernel
theorem dX1_digits_45 : decode cX1_digits 45 = .ok (.dup, 1) := by decide +kernel
theorem dX1_digits_46 : decode cX1_digits 46 = .ok (.getfield 25, 3) := by decide +kernel
theorem dX1_digits_49 : decode cX1_digits 49 = .ok (.iconst 1, 1) := by decide +kernel
theorem dX1_digits_50 : decode cX1_digits 50 = .ok (.iadd, 1) := by decide +kernel
theorem dX1_digits_51 : decode cX1_digits 51 = .ok (.putfield 25, 3) := by decide +kernel
theorem dX1_digits_54 : decode cX1_digits 54 = .ok (.iinc 3 1, 3) := by decide +kernel
theorem dX1_digits_57 : decode cX1_digits 57 = .ok (.goto (-53), 3) := by decide +kernel
theorem dX1_digits_60 : decode cX1_digits 60 = .ok (.iload_n 2, 1) := by decide +kernel
theorem dX1_digits_61 : decode cX1_digits 61 = .ok (.ireturn, 1) := by decide +kernel
theorem rX1_digits : (∀ (d : Nat) (L st : List Value) (h : fk_H), fk_ev d qX1_digits 0 L st h = fk_ev d qX1_digits 1 L (.int ((-1 : Int32)) :: st) h) ∧
  (∀ (d : Nat) (a0 a1 a2 a3 : Value) (x : Int32) (st : List Value) (h : fk_H), fk_ev d qX1_digits 1 [a0, a1, a2, a3] (.int x :: st) h = fk_ev d qX1_digits 2 [a0, a1, .int x, a3] st h) ∧
  (∀ (d : Nat) (L st : List Value) (h : fk_H), fk_ev d qX1_digits 2 L st h = fk_ev d qX1_digits 3 L (.int (nI 0) :: st) h) ∧
  (∀ (d : Nat) (a0 a1 a2 a3 : Value) (x : Int32) (st : List Value) (h : fk_H), fk_ev d qX1_digits 3 [a0, a1, a2, a3] (.int x :: st) h = fk_ev d qX1_digits 4 [a0, a1, a2, .int x] st h) ∧
  (∀ (d : Nat) (a0 a2 a3 : Value) (x : Int32) (st : List Value) (h : fk_H), fk_ev d qX1_digits 5 [a0, .int x, a2, a3] st h = fk_ev d qX1_digits 6 [a0, .int x, a2, a3] (.int x :: st) h) ∧
  (∀ (d : Nat) (L : List Value) (x y : Int32) (st : List Value) (h : fk_H), fk_ev d qX1_digits 6 L (.int y :: .int x :: st) h = if y ≤ x then fk_ev d qX1_digits 60 L st h else fk_ev d qX1_digits 9 L st h) ∧
  (∀ (d : Nat) (a1 a2 a3 : Value) (x : Nat) (st : List Value) (h : fk_H), fk_ev d qX1_digits 9 [.ref x, a1, a2, a3] st h = fk_ev d qX1_digits 10 [.ref x, a1, a2, a3] (.ref x :: st) h) ∧
  (∀ (d : Nat) (L : List Value)   (N : Nat) (y : Nat → Nat → Int32) (l : Nat → Nat → Int64), fk_ev (d + 1) qX1_digits 10 L (.ref 30 :: []) (fk_E N y l) = (fk_ev d qX1_peek 0 [.ref 30] [] (fk_E N y l)).bind fun o => fk_ev (d + 1) qX1_digits 13 L (o.1.toList ++ []) o.2) ∧
  (∀ (d : Nat) (L st : List Value) (h : fk_H), fk_ev d qX1_digits 13 L st h = fk_ev d qX1_digits 15 L (.int (nI 48) :: st) h) ∧
  (∀ (d : Nat) (L : List Value) (x y : Int32) (st : List Value) (h : fk_H), fk_ev d qX1_digits 15 L (.int y :: .int x :: st) h = if x < y then fk_ev d qX1_digits 60 L st h else fk_ev d qX1_digits 18 L st h) ∧
  (∀ (d : Nat) (a1 a2 a3 : Value) (x : Nat) (st : List Value) (h : fk_H), fk_ev d qX1_digits 18 [.ref x, a1, a2, a3] st h = fk_ev d qX1_digits 19 [.ref x, a1, a2, a3] (.ref x :: st) h) ∧
  (∀ (d : Nat) (L : List Value)   (N : Nat) (y : Nat → Nat → Int32) (l : Nat → Nat → Int64), fk_ev (d + 1) qX1_digits 19 L (.ref 30 :: []) (fk_E N y l) = (fk_ev d qX1_peek 0 [.ref 30] [] (fk_E N y l)).bind fun o => fk_ev (d + 1) qX1_digits 22 L (o.1.toList ++ []) o.2) ∧
  (∀ (d : Nat) (L st : List Value) (h : fk_H), fk_ev d qX1_digits 22 L st h = fk_ev d qX1_digits 24 L (.int (nI 57) :: st) h) ∧
  (∀ (d : Nat) (L : List Value) (x y : Int32) (st : List Value) (h : fk_H), fk_ev d qX1_digits 24 L (.int y :: .int x :: st) h = if y < x then fk_ev d qX1_digits 60 L st h else fk_ev d qX1_digits 27 L st h) ∧
  (∀ (d : Nat) (L st : List Value) (h : fk_H), fk_ev d qX1_digits 27 L st h = fk_ev d qX1_digits 29 L (.int (nI 10) :: st) h) ∧
  (∀ (d : Nat) (a0 a1 a3 : Value) (x : Int32) (st : List Value) (h : fk_H), fk_ev d qX1_digits 29 [a0, a1, .int x, a3] st h = fk_ev d qX1_digits 30 [a0, a1, .int x, a3] (.int x :: st) h) ∧
  (∀ (d : Nat) (L st : List Value) (h : fk_H), fk_ev d qX1_digits 30 L st h = fk_ev d qX1_digits 31 L (.int (nI 0) :: st) h) ∧
  (∀ (d : Nat) (L : List Value) (x y : Int32) (w0 : Value) (h : fk_H), fk_ev d qX1_digits 31 L (.int y :: .int x :: [w0]) h = fk_ev d qX1_digits 34 L (.int (if x < y then y else x) :: [w0]) h) ∧
  (∀ (d : Nat) (L : List Value) (x y : Int32) (st : List Value) (h : fk_H), fk_ev d qX1_digits 34 L (.int y :: .int x :: st) h = fk_ev d qX1_digits 35 L (.int (x * y) :: st) h) ∧
  (∀ (d : Nat) (a1 a2 a3 : Value) (x : Nat) (st : List Value) (h : fk_H), fk_ev d qX1_digits 35 [.ref x, a1, a2, a3] st h = fk_ev d qX1_digits 36 [.ref x, a1, a2, a3] (.ref x :: st) h) ∧
  (∀ (d : Nat) (L : List Value)  (w0 : Value) (N : Nat) (y : Nat → Nat → Int32) (l : Nat → Nat → Int64), fk_ev (d + 1) qX1_digits 36 L (.ref 30 :: [w0]) (fk_E N y l) = (fk_ev d qX1_peek 0 [.ref 30] [] (fk_E N y l)).bind fun o => fk_ev (d + 1) qX1_digits 39 L (o.1.toList ++ [w0]) o.2) ∧
  (∀ (d : Nat) (L : List Value) (x y : Int32) (st : List Value) (h : fk_H), fk_ev d qX1_digits 39 L (.int y :: .int x :: st) h = fk_ev d qX1_digits 40 L (.int (x + y) :: st) h) ∧
  (∀ (d : Nat) (L st : List Value) (h : fk_H), fk_ev d qX1_digits 40 L st h = fk_ev d qX1_digits 42 L (.int (nI 48) :: st) h) ∧
  (∀ (d : Nat) (L : List Value) (x y : Int32) (st : List Value) (h : fk_H), fk_ev d qX1_digits 42 L (.int y :: .int x :: st) h = fk_ev d qX1_digits 43 L (.int (x - y) :: st) h) ∧
  (∀ (d : Nat) (a0 a1 a2 a3 : Value) (x : Int32) (st : List Value) (h : fk_H), fk_ev d qX1_digits 43 [a0, a1, a2, a3] (.int x :: st) h = fk_ev d qX1_digits 44 [a0, a1, .int x, a3] st h) ∧
  (∀ (d : Nat) (a1 a2 a3 : Value) (x : Nat) (st : List Value) (h : fk_H), fk_ev d qX1_digits 44 [.ref x, a1, a2, a3] st h = fk_ev d qX1_digits 45 [.ref x, a1, a2, a3] (.ref x :: st) h) ∧
  (∀ (d : Nat) (L : List Value) (x : Nat) (st : List Value) (h : fk_H), fk_ev d qX1_digits 45 L (.ref x :: st) h = fk_ev d qX1_digits 46 L (.ref x :: .ref x :: st) h) ∧
  (∀ (d : Nat) (L st : List Value) (N : Nat) (y : Nat → Nat → Int32) (l : Nat → Nat → Int64), fk_ev d qX1_digits 46 L (.ref 30 :: st) (fk_E N y l) = fk_ev d qX1_digits 49 L (.int (y 30 5) :: st) (fk_E N y l)) ∧
  (∀ (d : Nat) (L st : List Value) (h : fk_H), fk_ev d qX1_digits 49 L st h = fk_ev d qX1_digits 50 L (.int (nI 1) :: st) h) ∧
  (∀ (d : Nat) (L : List Value) (x y : Int32) (st : List Value) (h : fk_H), fk_ev d qX1_digits 50 L (.int y :: .int x :: st) h = fk_ev d qX1_digits 51 L (.int (x + y) :: st) h) ∧
  (∀ (d : Nat) (L st : List Value) (N : Nat) (y : Nat → Nat → Int32) (l : Nat → Nat → Int64) (v : Int32), fk_ev d qX1_digits 51 L (.int v :: .ref 30 :: st) (fk_E N y l) = fk_ev d qX1_digits 54 L st (fk_E N (fk_u y 30 5 v) l)) ∧
  (∀ (d : Nat) (a0 a1 a2 : Value) (x : Int32) (st : List Value) (h : fk_H), fk_ev d qX1_digits 54 [a0, a1, a2, .int x] st h = fk_ev d qX1_digits 57 [a0, a1, a2, .int (x + nI 1)] st h) ∧
  (∀ (d : Nat) (L st : List Value) (h : fk_H), fk_ev d qX1_digits 57 L st h = fk_ev d qX1_digits 4 L st h) ∧
  (∀ (d : Nat) (a0 a1 a3 : Value) (x : Int32) (st : List Value) (h : fk_H), fk_ev d qX1_digits 60 [a0, a1, .int x, a3] st h = fk_ev d qX1_digits 61 [a0, a1, .int x, a3] (.int x :: st) h) ∧
  (∀ (d : Nat) (L : List Value) (x : Int32) (h : fk_H), fk_ev d qX1_digits 61 L [.int x] h = some (some (.int x), h)) := ⟨fun d L st h => fk_w_iconst dX1_digits_0 (by decide),
  fun d a0 a1 a2 a3 x st h => fk_w_istoren 2 4 [] [a0, a1, a2, a3] [a0, a1, .int x, a3] dX1_digits_1 rfl rfl (by decide) rfl,
  fun d L st h => fk_w_iconst dX1_digits_2 (by decide),
  fun d a0 a1 a2 a3 x st h => fk_w_istoren 3 4 [] [a0, a1, a2, a3] [a0, a1, a2, .int x] dX1_digits_3 rfl rfl (by decide) rfl,
  fun d a0 a2 a3 x st h => fk_w_iloadn 1 [a0, .int x, a2, a3] dX1_digits_5 rfl,
  fun d L x y st h => fk_r_icmp_ge dX1_digits_6 (by decide),
  fun d a1 a2 a3 x st h => fk_w_aloadn 0 [.ref x, a1, a2, a3] dX1_digits_9 rfl,
  fun d L  N y l  => fk_g_call [] [] rfl lm_1_36 dX1_digits_10 rfl ⟨rfl, by decide⟩ (by simp) fk_at_30,
  fun d L st h => fk_w_bipush dX1_digits_13 (by decide),
  fun d L x y st h => fk_r_icmp_lt dX1_digits_15 (by decide),
  fun d a1 a2 a3 x st h => fk_w_aloadn 0 [.ref x, a1, a2, a3] dX1_digits_18 rfl,
  fun d L  N y l  => fk_g_call [] [] rfl lm_1_36 dX1_digits_19 rfl ⟨rfl, by decide⟩ (by simp) fk_at_30,
  fun d L st h => fk_w_bipush dX1_digits_22 (by decide),
  fun d L x y st h => fk_r_icmp_gt dX1_digits_24 (by decide),
  fun d L st h => fk_w_bipush dX1_digits_27 (by decide),
  fun d a0 a1 a3 x st h => fk_w_iloadn 2 [a0, a1, .int x, a3] dX1_digits_29 rfl,
  fun d L st h => fk_w_iconst dX1_digits_30 (by decide),
  fun d L x y w0 h => fk_p_max dX1_digits_31 ln_1_52 lp_1_52 (by simp),
  fun d L x y st h => fk_r_imul dX1_digits_34,
  fun d a1 a2 a3 x st h => fk_w_aloadn 0 [.ref x, a1, a2, a3] dX1_digits_35 rfl,
  fun d L w0 N y l  => fk_g_call [] [w0] rfl lm_1_36 dX1_digits_36 rfl ⟨rfl, by decide⟩ (by simp) fk_at_30,
  fun d L x y st h => fk_r_iadd dX1_digits_39,
  fun d L st h => fk_w_bipush dX1_digits_40 (by decide),
  fun d L x y st h => fk_r_isub dX1_digits_42,
  fun d a0 a1 a2 a3 x st h => fk_w_istoren 2 4 [] [a0, a1, a2, a3] [a0, a1, .int x, a3] dX1_digits_43 rfl rfl (by decide) rfl,
  fun d a1 a2 a3 x st h => fk_w_aloadn 0 [.ref x, a1, a2, a3] dX1_digits_44 rfl,
  fun d L x st h => fk_r_dup_ref dX1_digits_45,
  fun d L st N y l => fk_g_getI rfl lf_1_25 (by decide) dX1_digits_46 fk_at_30,
  fun d L st h => fk_w_iconst dX1_digits_49 (by decide),
  fun d L x y st h => fk_r_iadd dX1_digits_50,
  fun d L st N y l v => fk_g_putI rfl lf_1_25 (by decide) dX1_digits_51 rfl fk_at_30,
  fun d a0 a1 a2 x st h => fk_w_iinc 3 4 (1) [] [a0, a1, a2, .int x] [a0, a1, a2, .int (x + nI 1)] dX1_digits_54 rfl rfl rfl (by decide) rfl,
  fun d L st h => fk_r_goto dX1_digits_57 (by decide),
  fun d a0 a1 a3 x st h => fk_w_iloadn 2 [a0, a1, .int x, a3] dX1_digits_60 rfl,
  fun d L x h => fk_r_ret dX1_digits_61 (Or.inl rfl)⟩
theorem hX1_digits_4 : ∀ (d : Nat) (a0 a1 a2 : Value) (x : Int32) (st : List Value) (h : fk_H), fk_ev d qX1_digits 4 [a0, a1, a2, .int x] st h = fk_ev d qX1_digits 5 [a0, a1, a2, .int x] (.int x :: st) h := fun d a0 a1 a2 x st h => fk_w_iloadn 3 [a0, a1, a2, .int x] dX1_digits_4 rfl
theorem dX2_take_0 : decode cX2_take 0 = .ok (.aload_n 0, 1) := by decide +kernel
theorem dX2_take_1 : decode cX2_take 1 = .ok (.iconst 0, 1) := by decide +kernel
theorem dX2_take_2 : decode cX2_take 2 = .ok (.putfield 18, 3) := by decide +kernel
theorem dX2_take_5 : decode cX2_take 5 = .ok (.aload_n 1, 1) := by decide +kernel
theorem dX2_take_6 : decode cX2_take 6 = .ok (.iconst 0, 1) := by decide +kernel
theorem dX2_take_7 : decode cX2_take 7 = .ok (.invokevirtual 25, 3) := by decide +kernel
theorem dX2_take_10 : decode cX2_take 10 = .ok (.istore 4, 2) := by decide +kernel
theorem dX2_take_12 : decode cX2_take 12 = .ok (.iconst 0, 1) := by decide +kernel
theorem dX2_take_13 : decode cX2_take 13 = .ok (.istore 5, 2) := by decide +kernel
theorem dX2_take_15 : decode cX2_take 15 = .ok (.iload 5, 2) := by decide +kernel
theorem dX2_take_17 : decode cX2_take 17 = .ok (.iload_n 2, 1) := by decide +kernel
theorem dX2_take_18 : decode cX2_take 18 = .ok (.if_icmp .ge 162, 3) := by decide +kernel
theorem dX2_take_21 : decode cX2_take 21 = .ok (.iload 5, 2) := by decide +kernel
theorem dX2_take_23 : decode cX2_take 23 = .ok (.aload_n 0, 1) := by decide +kernel
theorem dX2_take_24 : decode cX2_take 24 = .ok (.getfield 9, 3) := by decide +kernel
theorem dX2_take_27 : decode cX2_take 27 = .ok (.arraylength, 1) := by decide +kernel
theorem dX2_take_28 : decode cX2_take 28 = .ok (.if_icmp .ge 152, 3) := by decide +kernel
theorem dX2_take_31 : decode cX2_take 31 = .ok (.aload_n 1, 1) := by decide +kernel
theorem dX2_take_32 : decode cX2_take 32 = .ok (.iload 5, 2) := by decide +kernel
theorem dX2_take_34 : decode cX2_take 34 = .ok (.invokevirtual 25, 3) := by decide +kernel
theorem dX2_take_37 : decode cX2_take 37 = .ok (.istore 6, 2) := by decide +kernel
theorem dX2_take_39 : decode cX2_take 39 = .ok (.aload_n 3, 1) := by decide +kernel
theorem dX2_take_40 : decode cX2_take 40 = .ok (.iload 4, 2) := by decide +kernel
theorem dX2_take_42 : decode cX2_take 42 = .ok (.invokevirtual 31, 3) := by decide +kernel
theorem dX2_take_45 : decode cX2_take 45 = .ok (.ifCond .eq 12, 3) := by decide +kernel
theorem dX2_take_48 : decode cX2_take 48 = .ok (.aload_n 3, 1) := by decide +kernel
theorem dX2_take_49 : decode cX2_take 49 = .ok (.iload 6, 2) := by decide +kernel
theorem dX2_take_51 : decode cX2_take 51 = .ok (.invokevirtual 31, 3) := by decide +kernel
theorem dX2_take_54 : decode cX2_take 54 = .ok (.ifCond .ne 5, 3) := by decide +kernel
theorem dX2_take_57 : decode cX2_take 57 = .ok (.iconst 0, 1) := by decide +kernel
theorem dX2_take_58 : decode cX2_take 58 = .ok (.ireturn, 1) := by decide +kernel
theorem dX2_take_59 : decode cX2_take 59 = .ok (.aload_n 3, 1) := by decide +kernel
theorem dX2_take_60 : decode cX2_take 60 = .ok (.getfield 37, 3) := by decide +kernel
theorem dX2_take_63 : decode cX2_take 63 = .ok (.iload 6, 2) := by decide +kernel
theorem dX2_take_65 : decode cX2_take 65 = .ok (.aaload, 1) := by decide +kernel
theorem dX2_take_66 : decode cX2_take 66 = .ok (.getfield 41, 3) := by decide +kernel
theorem dX2_take_69 : decode cX2_take 69 = .ok (.aload_n 3, 1) := by decide +kernel
theorem dX2_take_70 : decode cX2_take 70 = .ok (.getfield 37, 3) := by decide +kernel
theorem dX2_take_73 : decode cX2_take 73 = .ok (.iload 4, 2) := by decide +kernel
theorem dX2_take_75 : decode cX2_take 75 = .ok (.aaload, 1) := by decide +kernel
theorem dX2_take_76 : decode cX2_take 76 = .ok (.getfield 41, 3) := by decide +kernel
theorem dX2_take_79 : decode cX2_take 79 = .ok (.if_icmp .eq 5, 3) := by decide +kernel
theorem dX2_take_82 : decode cX2_take 82 = .ok (.iconst 0, 1) := by decide +kernel
theorem dX2_take_83 : decode cX2_take 83 = .ok (.ireturn, 1) := by decide +kernel
theorem dX2_take_84 : decode cX2_take 84 = .ok (.aload_n 0, 1) := by decide +kernel
theorem dX2_take_85 : decode cX2_take 85 = .ok (.getfield 18, 3) := by decide +kernel
theorem dX2_take_88 : decode cX2_take 88 = .ok (.istore 7, 2) := by decide +kernel
theorem dX2_take_90 : decode cX2_take 90 = .ok (.aload_n 0, 1) := by decide +kernel
theorem dX2_take_91 : decode cX2_take 91 = .ok (.getfield 18, 3) := by decide +kernel
theorem dX2_take_94 : decode cX2_take 94 = .ok (.iconst 1, 1) := by decide +kernel
theorem dX2_take_95 : decode cX2_take 95 = .ok (.isub, 1) := by decide +kernel
theorem dX2_take_96 : decode cX2_take 96 = .ok (.istore 8, 2) := by decide +kernel
theorem dX2_take_98 : decode cX2_take 98 = .ok (.iload 8, 2) := by decide +kernel
theorem dX2_take_100 : decode cX2_take 100 = .ok (.ifCond .lt 55, 3) := by decide +kernel
theorem dX2_take_103 : decode cX2_take 103 = .ok (.aload_n 0, 1) := by decide +kernel
theorem dX2_take_104 : decode cX2_take 104 = .ok (.getfield 9, 3) := by decide +kernel
theorem dX2_take_107 : decode cX2_take 107 = .ok (.iload 8, 2) := by decide +kernel
theorem dX2_take_109 : decode cX2_take 109 = .ok (.iaload, 1) := by decide +kernel
theorem dX2_take_110 : decode cX2_take 110 = .ok (.iload 6, 2) := by decide +kernel
theorem dX2_take_112 : decode cX2_take 112 = .ok (.if_icmp .lt 43, 3) := by decide +kernel
theorem dX2_take_115 : decode cX2_take 115 = .ok (.aload_n 0, 1) := by decide +kernel
theorem dX2_take_116 : decode cX2_take 116 = .ok (.getfield 9, 3) := by decide +kernel
theorem dX2_take_119 : decode cX2_take 119 = .ok (.iload 8, 2) := by decide +kernel
theorem dX2_take_121 : decode cX2_take 121 = .ok (.iaload, 1) := by decide +kernel
theorem dX2_take_122 : decode cX2_take 122 = .ok (.iload 6, 2) := by decide +kernel
theorem dX2_take_124 : decode cX2_take 124 = .ok (.if_icmp .ne 5, 3) := by decide +kernel
theorem dX2_take_127 : decode cX2_take 127 = .ok (.iconst 0, 1) := by decide +kernel
theorem dX2_take_128 : decode cX2_take 128 = .ok (.ireturn, 1) := by decide +kernel
theorem dX2_take_129 : decode cX2_take 129 = .ok (.aload_n 0, 1) := by decide +kernel
theorem dX2_take_130 : decode cX2_take 130 = .ok (.getfield 9, 3) := by decide +kernel
theorem dX2_take_133 : decode cX2_take 133 = .ok (.iload 8, 2) := by decide +kernel
theorem dX2_take_135 : decode cX2_take 135 = .ok (.iconst 1, 1) := by decide +kernel
theorem dX2_take_136 : decode cX2_take 136 = .ok (.iadd, 1) := by decide +kernel
theorem dX2_take_137 : decode cX2_take 137 = .ok (.aload_n 0, 1) := by decide +kernel
theorem dX2_take_138 : decode cX2_take 138 = .ok (.getfield 9, 3) := by decide +kernel
theorem dX2_take_141 : decode cX2_take 141 = .ok (.iload 8, 2) := by decide +kernel
theorem dX2_take_143 : decode cX2_take 143 = .ok (.iaload, 1) := by decide +kernel
theorem dX2_take_144 : decode cX2_take 144 = .ok (.iastore, 1) := by decide +kernel
theorem dX2_take_145 : decode cX2_take 145 = .ok (.iload 8, 2) := by decide +kernel
theorem dX2_take_147 : decode cX2_take 147 = .ok (.istore 7, 2) := by decide +kernel
theorem dX2_take_149 : decode cX2_take 149 = .ok (.iinc 8 (-1), 3) := by decide +kernel
theorem dX2_take_152 : decode cX2_take 152 = .ok (.goto (-54), 3) := by decide +kernel
theorem dX2_take_155 : decode cX2_take 155 = .ok (.aload_n 0, 1) := by decide +kernel
theorem dX2_take_156 : decode cX2_take 156 = .ok (.getfield 9, 3) := by decide +kernel
theorem dX2_take_159 : decode cX2_take 159 = .ok (.iload 7, 2) := by decide +kernel
theorem dX2_take_161 : decode cX2_take 161 = .ok (.iload 6, 2) := by decide +kernel
theorem dX2_take_163 : decode cX2_take 163 = .ok (.iastore, 1) := by decide +kernel
theorem dX2_take_164 : decode cX2_take 164 = .ok (.aload_n 0, 1) := by decide +kernel
theorem dX2_take_165 : decode cX2_take 165 = .ok (.dup, 1) := by decide +kernel
theorem dX2_take_166 : decode cX2_take 166 = .ok (.getfield 18, 3) := by decide +kernel
theorem dX2_take_169 : decode cX2_take 169 = .ok (.iconst 1, 1) := by decide +kernel
theorem dX2_take_170 : decode cX2_take 170 = .ok (.iadd, 1) := by decide +kernel
theorem dX2_take_171 : decode cX2_take 171 = .ok (.putfield 18, 3) := by decide +kernel
theorem dX2_take_174 : decode cX2_take 174 = .ok (.iinc 5 1, 3) := by decide +kernel
theorem dX2_take_177 : decode cX2_take 177 = .ok (.goto (-162), 3) := by decide +kernel
theorem dX2_take_180 : decode cX2_take 180 = .ok (.aload_n 0, 1) := by decide +kernel
theorem dX2_take_181 : decode cX2_take 181 = .ok (.getfield 18, 3) := by decide +kernel
theorem dX2_take_184 : decode cX2_take 184 = .ok (.iconst 2, 1) := by decide +kernel
theorem dX2_take_185 : decode cX2_take 185 = .ok (.if_icmp .lt 7, 3) := by decide +kernel
theorem dX2_take_188 : decode cX2_take 188 = .ok (.iconst 1, 1) := by decide +kernel
theorem dX2_take_189 : decode cX2_take 189 = .ok (.goto 4, 3) := by decide +kernel
theorem dX2_take_192 : decode cX2_take 192 = .ok (.iconst 0, 1) := by decide +kernel
theorem dX2_take_193 : decode cX2_take 193 = .ok (.ireturn, 1) := by decide +kernel
theorem rX2_take : (∀ (d : Nat) (a1 a2 a3 a4 a5 a6 a7 a8 : Value) (x : Nat) (st : List Value) (h : fk_H), fk_ev d qX2_take 0 [.ref x, a1, a2, a3, a4, a5, a6, a7, a8] st h = fk_ev d qX2_take 1 [.ref x, a1, a2, a3, a4, a5, a6, a7, a8] (.ref x :: st) h) ∧
  (∀ (d : Nat) (L st : List Value) (h : fk_H), fk_ev d qX2_take 1 L st h = fk_ev d qX2_take 2 L (.int (nI 0) :: st) h) ∧
  (∀ (d : Nat) (L st : List Value) (N : Nat) (y : Nat → Nat → Int32) (l : Nat → Nat → Int64) (v : Int32), fk_ev d qX2_take 2 L (.int v :: .ref 241 :: st) (fk_E N y l) = fk_ev d qX2_take 5 L st (fk_E N (fk_u y 241 2 v) l)) ∧
  (∀ (d : Nat) (a0 a2 a3 a4 a5 a6 a7 a8 : Value) (x : Nat) (st : List Value) (h : fk_H), fk_ev d qX2_take 5 [a0, .ref x, a2, a3, a4, a5, a6, a7, a8] st h = fk_ev d qX2_take 6 [a0, .ref x, a2, a3, a4, a5, a6, a7, a8] (.ref x :: st) h) ∧
  (∀ (d : Nat) (L st : List Value) (h : fk_H), fk_ev d qX2_take 6 L st h = fk_ev d qX2_take 7 L (.int (nI 0) :: st) h) ∧
  (∀ (d : Nat) (L : List Value) (x0 : Int32)  (N : Nat) (y : Nat → Nat → Int32) (l : Nat → Nat → Int64), fk_ev (d + 1) qX2_take 7 L (.int x0 :: .ref 26 :: []) (fk_E N y l) = (fk_ev d qX10_byteAt 0 [.ref 26, .int x0] [] (fk_E N y l)).bind fun o => fk_ev (d + 1) qX2_take 10 L (o.1.toList ++ []) o.2) ∧
  (∀ (d : Nat) (a0 a1 a2 a3 a4 a5 a6 a7 a8 : Value) (x : Int32) (st : List Value) (h : fk_H), fk_ev d qX2_take 10 [a0, a1, a2, a3, a4, a5, a6, a7, a8] (.int x :: st) h = fk_ev d qX2_take 12 [a0, a1, a2, a3, .int x, a5, a6, a7, a8] st h) ∧
  (∀ (d : Nat) (L st : List Value) (h : fk_H), fk_ev d qX2_take 12 L st h = fk_ev d qX2_take 13 L (.int (nI 0) :: st) h) ∧
  (∀ (d : Nat) (a0 a1 a2 a3 a4 a5 a6 a7 a8 : Value) (x : Int32) (st : List Value) (h : fk_H), fk_ev d qX2_take 13 [a0, a1, a2, a3, a4, a5, a6, a7, a8] (.int x :: st) h = fk_ev d qX2_take 15 [a0, a1, a2, a3, a4, .int x, a6, a7, a8] st h) ∧
  (∀ (d : Nat) (a0 a1 a3 a4 a5 a6 a7 a8 : Value) (x : Int32) (st : List Value) (h : fk_H), fk_ev d qX2_take 17 [a0, a1, .int x, a3, a4, a5, a6, a7, a8] st h = fk_ev d qX2_take 18 [a0, a1, .int x, a3, a4, a5, a6, a7, a8] (.int x :: st) h) ∧
  (∀ (d : Nat) (L : List Value) (x y : Int32) (st : List Value) (h : fk_H), fk_ev d qX2_take 18 L (.int y :: .int x :: st) h = if y ≤ x then fk_ev d qX2_take 180 L st h else fk_ev d qX2_take 21 L st h) ∧
  (∀ (d : Nat) (a0 a1 a2 a3 a4 a6 a7 a8 : Value) (x : Int32) (st : List Value) (h : fk_H), fk_ev d qX2_take 21 [a0, a1, a2, a3, a4, .int x, a6, a7, a8] st h = fk_ev d qX2_take 23 [a0, a1, a2, a3, a4, .int x, a6, a7, a8] (.int x :: st) h) ∧
  (∀ (d : Nat) (a1 a2 a3 a4 a5 a6 a7 a8 : Value) (x : Nat) (st : List Value) (h : fk_H), fk_ev d qX2_take 23 [.ref x, a1, a2, a3, a4, a5, a6, a7, a8] st h = fk_ev d qX2_take 24 [.ref x, a1, a2, a3, a4, a5, a6, a7, a8] (.ref x :: st) h) ∧
  (∀ (d : Nat) (L st : List Value) (N : Nat) (y : Nat → Nat → Int32) (l : Nat → Nat → Int64), fk_ev d qX2_take 24 L (.ref 241 :: st) (fk_E N y l) = fk_ev d qX2_take 27 L (.ref 242 :: st) (fk_E N y l)) ∧
  (∀ (d : Nat) (L st : List Value) (N : Nat) (y : Nat → Nat → Int32) (l : Nat → Nat → Int64), fk_ev d qX2_take 27 L (.ref 242 :: st) (fk_E N y l) = fk_ev d qX2_take 28 L (.int (nI 5) :: st) (fk_E N y l)) ∧
  (∀ (d : Nat) (L : List Value) (x y : Int32) (st : List Value) (h : fk_H), fk_ev d qX2_take 28 L (.int y :: .int x :: st) h = if y ≤ x then fk_ev d qX2_take 180 L st h else fk_ev d qX2_take 31 L st h) ∧
  (∀ (d : Nat) (a0 a2 a3 a4 a5 a6 a7 a8 : Value) (x : Nat) (st : List Value) (h : fk_H), fk_ev d qX2_take 31 [a0, .ref x, a2, a3, a4, a5, a6, a7, a8] st h = fk_ev d qX2_take 32 [a0, .ref x, a2, a3, a4, a5, a6, a7, a8] (.ref x :: st) h) ∧
  (∀ (d : Nat) (a0 a1 a2 a3 a4 a6 a7 a8 : Value) (x : Int32) (st : List Value) (h : fk_H), fk_ev d qX2_take 32 [a0, a1, a2, a3, a4, .int x, a6, a7, a8] st h = fk_ev d qX2_take 34 [a0, a1, a2, a3, a4, .int x, a6, a7, a8] (.int x :: st) h) ∧
  (∀ (d : Nat) (L : List Value) (x0 : Int32)  (N : Nat) (y : Nat → Nat → Int32) (l : Nat → Nat → Int64), fk_ev (d + 1) qX2_take 34 L (.int x0 :: .ref 26 :: []) (fk_E N y l) = (fk_ev d qX10_byteAt 0 [.ref 26, .int x0] [] (fk_E N y l)).bind fun o => fk_ev (d + 1) qX2_take 37 L (o.1.toList ++ []) o.2) ∧
  (∀ (d : Nat) (a0 a1 a2 a3 a4 a5 a6 a7 a8 : Value) (x : Int32) (st : List Value) (h : fk_H), fk_ev d qX2_take 37 [a0, a1, a2, a3, a4, a5, a6, a7, a8] (.int x :: st) h = fk_ev d qX2_take 39 [a0, a1, a2, a3, a4, a5, .int x, a7, a8] st h) ∧
  (∀ (d : Nat) (a0 a1 a2 a4 a5 a6 a7 a8 : Value) (x : Nat) (st : List Value) (h : fk_H), fk_ev d qX2_take 39 [a0, a1, a2, .ref x, a4, a5, a6, a7, a8] st h = fk_ev d qX2_take 40 [a0, a1, a2, .ref x, a4, a5, a6, a7, a8] (.ref x :: st) h) ∧
  (∀ (d : Nat) (a0 a1 a2 a3 a5 a6 a7 a8 : Value) (x : Int32) (st : List Value) (h : fk_H), fk_ev d qX2_take 40 [a0, a1, a2, a3, .int x, a5, a6, a7, a8] st h = fk_ev d qX2_take 42 [a0, a1, a2, a3, .int x, a5, a6, a7, a8] (.int x :: st) h) ∧
  (∀ (d : Nat) (L : List Value) (x0 : Int32)  (N : Nat) (y : Nat → Nat → Int32) (l : Nat → Nat → Int64) (c : Nat), fk_at c 8 → fk_ev (d + 1) qX2_take 42 L (.int x0 :: .ref c :: []) (fk_E N y l) = (fk_ev d qX8_isLiving 0 [.ref c, .int x0] [] (fk_E N y l)).bind fun o => fk_ev (d + 1) qX2_take 45 L (o.1.toList ++ []) o.2) ∧
  (∀ (d : Nat) (L : List Value) (x : Int32) (st : List Value) (h : fk_H), fk_ev d qX2_take 45 L (.int x :: st) h = if x = nI 0 then fk_ev d qX2_take 57 L st h else fk_ev d qX2_take 48 L st h) ∧
  (∀ (d : Nat) (a0 a1 a2 a4 a5 a6 a7 a8 : Value) (x : Nat) (st : List Value) (h : fk_H), fk_ev d qX2_take 48 [a0, a1, a2, .ref x, a4, a5, a6, a7, a8] st h = fk_ev d qX2_take 49 [a0, a1, a2, .ref x, a4, a5, a6, a7, a8] (.ref x :: st) h) ∧
  (∀ (d : Nat) (a0 a1 a2 a3 a4 a5 a7 a8 : Value) (x : Int32) (st : List Value) (h : fk_H), fk_ev d qX2_take 49 [a0, a1, a2, a3, a4, a5, .int x, a7, a8] st h = fk_ev d qX2_take 51 [a0, a1, a2, a3, a4, a5, .int x, a7, a8] (.int x :: st) h) ∧
  (∀ (d : Nat) (L : List Value) (x0 : Int32)  (N : Nat) (y : Nat → Nat → Int32) (l : Nat → Nat → Int64) (c : Nat), fk_at c 8 → fk_ev (d + 1) qX2_take 51 L (.int x0 :: .ref c :: []) (fk_E N y l) = (fk_ev d qX8_isLiving 0 [.ref c, .int x0] [] (fk_E N y l)).bind fun o => fk_ev (d + 1) qX2_take 54 L (o.1.toList ++ []) o.2) ∧
  (∀ (d : Nat) (L : List Value) (x : Int32) (st : List Value) (h : fk_H), fk_ev d qX2_take 54 L (.int x :: st) h = if ¬ x = nI 0 then fk_ev d qX2_take 59 L st h else fk_ev d qX2_take 57 L st h) ∧
  (∀ (d : Nat) (L st : List Value) (h : fk_H), fk_ev d qX2_take 57 L st h = fk_ev d qX2_take 58 L (.int (nI 0) :: st) h) ∧
  (∀ (d : Nat) (L : List Value) (h : fk_H), fk_ev d qX2_take 58 L [.int (nI 0)] h = some (some (.int (nI 0)), h)) ∧
  (∀ (d : Nat) (L : List Value) (h : fk_H), fk_ev d qX2_take 58 L [.int (nI 1)] h = some (some (.int (nI 1)), h)) ∧
  (∀ (d : Nat) (L : List Value) (p : Prop) [Decidable p] (h : fk_H), fk_ev d qX2_take 58 L [.int (fk_b p)] h = some (some (.int (fk_b p)), h)) ∧
  (∀ (d : Nat) (L : List Value) (x : Int32) (h : fk_H), (x = nI 0 ∨ x = nI 1) → fk_ev d qX2_take 58 L [.int x] h = some (some (.int x), h)) ∧
  (∀ (d : Nat) (a0 a1 a2 a4 a5 a6 a7 a8 : Value) (x : Nat) (st : List Value) (h : fk_H), fk_ev d qX2_take 59 [a0, a1, a2, .ref x, a4, a5, a6, a7, a8] st h = fk_ev d qX2_take 60 [a0, a1, a2, .ref x, a4, a5, a6, a7, a8] (.ref x :: st) h) ∧
  (∀ (d : Nat) (L st : List Value) (N : Nat) (y : Nat → Nat → Int32) (l : Nat → Nat → Int64) (c : Nat), fk_at c 8 → fk_ev d qX2_take 60 L (.ref c :: st) (fk_E N y l) = fk_ev d qX2_take 63 L (.ref (fk_cr c 0) :: st) (fk_E N y l)) ∧
  (∀ (d : Nat) (a0 a1 a2 a3 a4 a5 a7 a8 : Value) (x : Int32) (st : List Value) (h : fk_H), fk_ev d qX2_take 63 [a0, a1, a2, a3, a4, a5, .int x, a7, a8] st h = fk_ev d qX2_take 65 [a0, a1, a2, a3, a4, a5, .int x, a7, a8] (.int x :: st) h) ∧
  (∀ (d : Nat) (L st : List Value) (N : Nat) (y : Nat → Nat → Int32) (l : Nat → Nat → Int64) (c i : Nat), fk_at c 24 → i < (fk_shp c).2 → (fk_shp c).2 < 2 ^ 31 → fk_ev d qX2_take 65 L (.int (nI i) :: .ref c :: st) (fk_E N y l) = fk_ev d qX2_take 66 L (.ref (c + 2 + i) :: st) (fk_E N y l)) ∧
  (∀ (d : Nat) (L st : List Value) (N : Nat) (y : Nat → Nat → Int32) (l : Nat → Nat → Int64) (c : Nat), fk_at c 0 → fk_ev d qX2_take 66 L (.ref c :: st) (fk_E N y l) = fk_ev d qX2_take 69 L (.int (y c 1) :: st) (fk_E N y l)) ∧
  (∀ (d : Nat) (a0 a1 a2 a4 a5 a6 a7 a8 : Value) (x : Nat) (st : List Value) (h : fk_H), fk_ev d qX2_take 69 [a0, a1, a2, .ref x, a4, a5, a6, a7, a8] st h = fk_ev d qX2_take 70 [a0, a1, a2, .ref x, a4, a5, a6, a7, a8] (.ref x :: st) h) ∧
  (∀ (d : Nat) (L st : List Value) (N : Nat) (y : Nat → Nat → Int32) (l : Nat → Nat → Int64) (c : Nat), fk_at c 8 → fk_ev d qX2_take 70 L (.ref c :: st) (fk_E N y l) = fk_ev d qX2_take 73 L (.ref (fk_cr c 0) :: st) (fk_E N y l)) ∧
  (∀ (d : Nat) (a0 a1 a2 a3 a5 a6 a7 a8 : Value) (x : Int32) (st : List Value) (h : fk_H), fk_ev d qX2_take 73 [a0, a1, a2, a3, .int x, a5, a6, a7, a8] st h = fk_ev d qX2_take 75 [a0, a1, a2, a3, .int x, a5, a6, a7, a8] (.int x :: st) h) ∧
  (∀ (d : Nat) (L st : List Value) (N : Nat) (y : Nat → Nat → Int32) (l : Nat → Nat → Int64) (c i : Nat), fk_at c 24 → i < (fk_shp c).2 → (fk_shp c).2 < 2 ^ 31 → fk_ev d qX2_take 75 L (.int (nI i) :: .ref c :: st) (fk_E N y l) = fk_ev d qX2_take 76 L (.ref (c + 2 + i) :: st) (fk_E N y l)) ∧
  (∀ (d : Nat) (L st : List Value) (N : Nat) (y : Nat → Nat → Int32) (l : Nat → Nat → Int64) (c : Nat), fk_at c 0 → fk_ev d qX2_take 76 L (.ref c :: st) (fk_E N y l) = fk_ev d qX2_take 79 L (.int (y c 1) :: st) (fk_E N y l)) ∧
  (∀ (d : Nat) (L : List Value) (x y : Int32) (st : List Value) (h : fk_H), fk_ev d qX2_take 79 L (.int y :: .int x :: st) h = if x = y then fk_ev d qX2_take 84 L st h else fk_ev d qX2_take 82 L st h) ∧
  (∀ (d : Nat) (L st : List Value) (h : fk_H), fk_ev d qX2_take 82 L st h = fk_ev d qX2_take 83 L (.int (nI 0) :: st) h) ∧
  (∀ (d : Nat) (L : List Value) (h : fk_H), fk_ev d qX2_take 83 L [.int (nI 0)] h = some (some (.int (nI 0)), h)) ∧
  (∀ (d : Nat) (L : List Value) (h : fk_H), fk_ev d qX2_take 83 L [.int (nI 1)] h = some (some (.int (nI 1)), h)) ∧
  (∀ (d : Nat) (L : List Value) (p : Prop) [Decidable p] (h : fk_H), fk_ev d qX2_take 83 L [.int (fk_b p)] h = some (some (.int (fk_b p)), h)) ∧
  (∀ (d : Nat) (L : List Value) (x : Int32) (h : fk_H), (x = nI 0 ∨ x = nI 1) → fk_ev d qX2_take 83 L [.int x] h = some (some (.int x), h)) ∧
  (∀ (d : Nat) (a1 a2 a3 a4 a5 a6 a7 a8 : Value) (x : Nat) (st : List Value) (h : fk_H), fk_ev d qX2_take 84 [.ref x, a1, a2, a3, a4, a5, a6, a7, a8] st h = fk_ev d qX2_take 85 [.ref x, a1, a2, a3, a4, a5, a6, a7, a8] (.ref x :: st) h) ∧
  (∀ (d : Nat) (L st : List Value) (N : Nat) (y : Nat → Nat → Int32) (l : Nat → Nat → Int64), fk_ev d qX2_take 85 L (.ref 241 :: st) (fk_E N y l) = fk_ev d qX2_take 88 L (.int (y 241 2) :: st) (fk_E N y l)) ∧
  (∀ (d : Nat) (a0 a1 a2 a3 a4 a5 a6 a7 a8 : Value) (x : Int32) (st : List Value) (h : fk_H), fk_ev d qX2_take 88 [a0, a1, a2, a3, a4, a5, a6, a7, a8] (.int x :: st) h = fk_ev d qX2_take 90 [a0, a1, a2, a3, a4, a5, a6, .int x, a8] st h) ∧
  (∀ (d : Nat) (a1 a2 a3 a4 a5 a6 a7 a8 : Value) (x : Nat) (st : List Value) (h : fk_H), fk_ev d qX2_take 90 [.ref x, a1, a2, a3, a4, a5, a6, a7, a8] st h = fk_ev d qX2_take 91 [.ref x, a1, a2, a3, a4, a5, a6, a7, a8] (.ref x :: st) h) ∧
  (∀ (d : Nat) (L st : List Value) (N : Nat) (y : Nat → Nat → Int32) (l : Nat → Nat → Int64), fk_ev d qX2_take 91 L (.ref 241 :: st) (fk_E N y l) = fk_ev d qX2_take 94 L (.int (y 241 2) :: st) (fk_E N y l)) ∧
  (∀ (d : Nat) (L st : List Value) (h : fk_H), fk_ev d qX2_take 94 L st h = fk_ev d qX2_take 95 L (.int (nI 1) :: st) h) ∧
  (∀ (d : Nat) (L : List Value) (x y : Int32) (st : List Value) (h : fk_H), fk_ev d qX2_take 95 L (.int y :: .int x :: st) h = fk_ev d qX2_take 96 L (.int (x - y) :: st) h) ∧
  (∀ (d : Nat) (a0 a1 a2 a3 a4 a5 a6 a7 a8 : Value) (x : Int32) (st : List Value) (h : fk_H), fk_ev d qX2_take 96 [a0, a1, a2, a3, a4, a5, a6, a7, a8] (.int x :: st) h = fk_ev d qX2_take 98 [a0, a1, a2, a3, a4, a5, a6, a7, .int x] st h) ∧
  (∀ (d : Nat) (L : List Value) (x : Int32) (st : List Value) (h : fk_H), fk_ev d qX2_take 100 L (.int x :: st) h = if x < nI 0 then fk_ev d qX2_take 155 L st h else fk_ev d qX2_take 103 L st h) ∧
  (∀ (d : Nat) (a1 a2 a3 a4 a5 a6 a7 a8 : Value) (x : Nat) (st : List Value) (h : fk_H), fk_ev d qX2_take 103 [.ref x, a1, a2, a3, a4, a5, a6, a7, a8] st h = fk_ev d qX2_take 104 [.ref x, a1, a2, a3, a4, a5, a6, a7, a8] (.ref x :: st) h) ∧
  (∀ (d : Nat) (L st : List Value) (N : Nat) (y : Nat → Nat → Int32) (l : Nat → Nat → Int64), fk_ev d qX2_take 104 L (.ref 241 :: st) (fk_E N y l) = fk_ev d qX2_take 107 L (.ref 242 :: st) (fk_E N y l)) ∧
  (∀ (d : Nat) (a0 a1 a2 a3 a4 a5 a6 a7 : Value) (x : Int32) (st : List Value) (h : fk_H), fk_ev d qX2_take 107 [a0, a1, a2, a3, a4, a5, a6, a7, .int x] st h = fk_ev d qX2_take 109 [a0, a1, a2, a3, a4, a5, a6, a7, .int x] (.int x :: st) h) ∧
  (∀ (d : Nat) (L st : List Value) (N : Nat) (y : Nat → Nat → Int32) (l : Nat → Nat → Int64) (i : Nat), i < 5 → fk_ev d qX2_take 109 L (.int (nI i) :: .ref 242 :: st) (fk_E N y l) = fk_ev d qX2_take 110 L (.int (y 242 i) :: st) (fk_E N y l)) ∧
  (∀ (d : Nat) (a0 a1 a2 a3 a4 a5 a7 a8 : Value) (x : Int32) (st : List Value) (h : fk_H), fk_ev d qX2_take 110 [a0, a1, a2, a3, a4, a5, .int x, a7, a8] st h = fk_ev d qX2_take 112 [a0, a1, a2, a3, a4, a5, .int x, a7, a8] (.int x :: st) h) ∧
  (∀ (d : Nat) (L : List Value) (x y : Int32) (st : List Value) (h : fk_H), fk_ev d qX2_take 112 L (.int y :: .int x :: st) h = if x < y then fk_ev d qX2_take 155 L st h else fk_ev d qX2_take 115 L st h) ∧
  (∀ (d : Nat) (a1 a2 a3 a4 a5 a6 a7 a8 : Value) (x : Nat) (st : List Value) (h : fk_H), fk_ev d qX2_take 115 [.ref x, a1, a2, a3, a4, a5, a6, a7, a8] st h = fk_ev d qX2_take 116 [.ref x, a1, a2, a3, a4, a5, a6, a7, a8] (.ref x :: st) h) ∧
  (∀ (d : Nat) (L st : List Value) (N : Nat) (y : Nat → Nat → Int32) (l : Nat → Nat → Int64), fk_ev d qX2_take 116 L (.ref 241 :: st) (fk_E N y l) = fk_ev d qX2_take 119 L (.ref 242 :: st) (fk_E N y l)) ∧
  (∀ (d : Nat) (a0 a1 a2 a3 a4 a5 a6 a7 : Value) (x : Int32) (st : List Value) (h : fk_H), fk_ev d qX2_take 119 [a0, a1, a2, a3, a4, a5, a6, a7, .int x] st h = fk_ev d qX2_take 121 [a0, a1, a2, a3, a4, a5, a6, a7, .int x] (.int x :: st) h) ∧
  (∀ (d : Nat) (L st : List Value) (N : Nat) (y : Nat → Nat → Int32) (l : Nat → Nat → Int64) (i : Nat), i < 5 → fk_ev d qX2_take 121 L (.int (nI i) :: .ref 242 :: st) (fk_E N y l) = fk_ev d qX2_take 122 L (.int (y 242 i) :: st) (fk_E N y l)) ∧
  (∀ (d : Nat) (a0 a1 a2 a3 a4 a5 a7 a8 : Value) (x : Int32) (st : List Value) (h : fk_H), fk_ev d qX2_take 122 [a0, a1, a2, a3, a4, a5, .int x, a7, a8] st h = fk_ev d qX2_take 124 [a0, a1, a2, a3, a4, a5, .int x, a7, a8] (.int x :: st) h) ∧
  (∀ (d : Nat) (L : List Value) (x y : Int32) (st : List Value) (h : fk_H), fk_ev d qX2_take 124 L (.int y :: .int x :: st) h = if ¬ x = y then fk_ev d qX2_take 129 L st h else fk_ev d qX2_take 127 L st h) ∧
  (∀ (d : Nat) (L st : List Value) (h : fk_H), fk_ev d qX2_take 127 L st h = fk_ev d qX2_take 128 L (.int (nI 0) :: st) h) ∧
  (∀ (d : Nat) (L : List Value) (h : fk_H), fk_ev d qX2_take 128 L [.int (nI 0)] h = some (some (.int (nI 0)), h)) ∧
  (∀ (d : Nat) (L : List Value) (h : fk_H), fk_ev d qX2_take 128 L [.int (nI 1)] h = some (some (.int (nI 1)), h)) ∧
  (∀ (d : Nat) (L : List Value) (p : Prop) [Decidable p] (h : fk_H), fk_ev d qX2_take 128 L [.int (fk_b p)] h = some (some (.int (fk_b p)), h)) ∧
  (∀ (d : Nat) (L : List Value) (x : Int32) (h : fk_H), (x = nI 0 ∨ x = nI 1) → fk_ev d qX2_take 128 L [.int x] h = some (some (.int x), h)) ∧
  (∀ (d : Nat) (a1 a2 a3 a4 a5 a6 a7 a8 : Value) (x : Nat) (st : List Value) (h : fk_H), fk_ev d qX2_take 129 [.ref x, a1, a2, a3, a4, a5, a6, a7, a8] st h = fk_ev d qX2_take 130 [.ref x, a1, a2, a3, a4, a5, a6, a7, a8] (.ref x :: st) h) ∧
  (∀ (d : Nat) (L st : List Value) (N : Nat) (y : Nat → Nat → Int32) (l : Nat → Nat → Int64), fk_ev d qX2_take 130 L (.ref 241 :: st) (fk_E N y l) = fk_ev d qX2_take 133 L (.ref 242 :: st) (fk_E N y l)) ∧
  (∀ (d : Nat) (a0 a1 a2 a3 a4 a5 a6 a7 : Value) (x : Int32) (st : List Value) (h : fk_H), fk_ev d qX2_take 133 [a0, a1, a2, a3, a4, a5, a6, a7, .int x] st h = fk_ev d qX2_take 135 [a0, a1, a2, a3, a4, a5, a6, a7, .int x] (.int x :: st) h) ∧
  (∀ (d : Nat) (L st : List Value) (h : fk_H), fk_ev d qX2_take 135 L st h = fk_ev d qX2_take 136 L (.int (nI 1) :: st) h) ∧
  (∀ (d : Nat) (L : List Value) (x y : Int32) (st : List Value) (h : fk_H), fk_ev d qX2_take 136 L (.int y :: .int x :: st) h = fk_ev d qX2_take 137 L (.int (x + y) :: st) h) ∧
  (∀ (d : Nat) (a1 a2 a3 a4 a5 a6 a7 a8 : Value) (x : Nat) (st : List Value) (h : fk_H), fk_ev d qX2_take 137 [.ref x, a1, a2, a3, a4, a5, a6, a7, a8] st h = fk_ev d qX2_take 138 [.ref x, a1, a2, a3, a4, a5, a6, a7, a8] (.ref x :: st) h) ∧
  (∀ (d : Nat) (L st : List Value) (N : Nat) (y : Nat → Nat → Int32) (l : Nat → Nat → Int64), fk_ev d qX2_take 138 L (.ref 241 :: st) (fk_E N y l) = fk_ev d qX2_take 141 L (.ref 242 :: st) (fk_E N y l)) ∧
  (∀ (d : Nat) (a0 a1 a2 a3 a4 a5 a6 a7 : Value) (x : Int32) (st : List Value) (h : fk_H), fk_ev d qX2_take 141 [a0, a1, a2, a3, a4, a5, a6, a7, .int x] st h = fk_ev d qX2_take 143 [a0, a1, a2, a3, a4, a5, a6, a7, .int x] (.int x :: st) h) ∧
  (∀ (d : Nat) (L st : List Value) (N : Nat) (y : Nat → Nat → Int32) (l : Nat → Nat → Int64) (i : Nat), i < 5 → fk_ev d qX2_take 143 L (.int (nI i) :: .ref 242 :: st) (fk_E N y l) = fk_ev d qX2_take 144 L (.int (y 242 i) :: st) (fk_E N y l)) ∧
  (∀ (d : Nat) (L st : List Value) (N : Nat) (y : Nat → Nat → Int32) (l : Nat → Nat → Int64) (i : Nat) (v : Int32), i < 5 → fk_ev d qX2_take 144 L (.int v :: .int (nI i) :: .ref 242 :: st) (fk_E N y l) = fk_ev d qX2_take 145 L st (fk_E N (fk_u y 242 i v) l)) ∧
  (∀ (d : Nat) (a0 a1 a2 a3 a4 a5 a6 a7 : Value) (x : Int32) (st : List Value) (h : fk_H), fk_ev d qX2_take 145 [a0, a1, a2, a3, a4, a5, a6, a7, .int x] st h = fk_ev d qX2_take 147 [a0, a1, a2, a3, a4, a5, a6, a7, .int x] (.int x :: st) h) ∧
  (∀ (d : Nat) (a0 a1 a2 a3 a4 a5 a6 a7 a8 : Value) (x : Int32) (st : List Value) (h : fk_H), fk_ev d qX2_take 147 [a0, a1, a2, a3, a4, a5, a6, a7, a8] (.int x :: st) h = fk_ev d qX2_take 149 [a0, a1, a2, a3, a4, a5, a6, .int x, a8] st h) ∧
  (∀ (d : Nat) (a0 a1 a2 a3 a4 a5 a6 a7 : Value) (x : Int32) (st : List Value) (h : fk_H), fk_ev d qX2_take 149 [a0, a1, a2, a3, a4, a5, a6, a7, .int x] st h = fk_ev d qX2_take 152 [a0, a1, a2, a3, a4, a5, a6, a7, .int (x + (-1 : Int32))] st h) ∧
  (∀ (d : Nat) (L st : List Value) (h : fk_H), fk_ev d qX2_take 152 L st h = fk_ev d qX2_take 98 L st h) ∧
  (∀ (d : Nat) (a1 a2 a3 a4 a5 a6 a7 a8 : Value) (x : Nat) (st : List Value) (h : fk_H), fk_ev d qX2_take 155 [.ref x, a1, a2, a3, a4, a5, a6, a7, a8] st h = fk_ev d qX2_take 156 [.ref x, a1, a2, a3, a4, a5, a6, a7, a8] (.ref x :: st) h) ∧
  (∀ (d : Nat) (L st : List Value) (N : Nat) (y : Nat → Nat → Int32) (l : Nat → Nat → Int64), fk_ev d qX2_take 156 L (.ref 241 :: st) (fk_E N y l) = fk_ev d qX2_take 159 L (.ref 242 :: st) (fk_E N y l)) ∧
  (∀ (d : Nat) (a0 a1 a2 a3 a4 a5 a6 a8 : Value) (x : Int32) (st : List Value) (h : fk_H), fk_ev d qX2_take 159 [a0, a1, a2, a3, a4, a5, a6, .int x, a8] st h = fk_ev d qX2_take 161 [a0, a1, a2, a3, a4, a5, a6, .int x, a8] (.int x :: st) h) ∧
  (∀ (d : Nat) (a0 a1 a2 a3 a4 a5 a7 a8 : Value) (x : Int32) (st : List Value) (h : fk_H), fk_ev d qX2_take 161 [a0, a1, a2, a3, a4, a5, .int x, a7, a8] st h = fk_ev d qX2_take 163 [a0, a1, a2, a3, a4, a5, .int x, a7, a8] (.int x :: st) h) ∧
  (∀ (d : Nat) (L st : List Value) (N : Nat) (y : Nat → Nat → Int32) (l : Nat → Nat → Int64) (i : Nat) (v : Int32), i < 5 → fk_ev d qX2_take 163 L (.int v :: .int (nI i) :: .ref 242 :: st) (fk_E N y l) = fk_ev d qX2_take 164 L st (fk_E N (fk_u y 242 i v) l)) ∧
  (∀ (d : Nat) (a1 a2 a3 a4 a5 a6 a7 a8 : Value) (x : Nat) (st : List Value) (h : fk_H), fk_ev d qX2_take 164 [.ref x, a1, a2, a3, a4, a5, a6, a7, a8] st h = fk_ev d qX2_take 165 [.ref x, a1, a2, a3, a4, a5, a6, a7, a8] (.ref x :: st) h) ∧
  (∀ (d : Nat) (L : List Value) (x : Nat) (st : List Value) (h : fk_H), fk_ev d qX2_take 165 L (.ref x :: st) h = fk_ev d qX2_take 166 L (.ref x :: .ref x :: st) h) ∧
  (∀ (d : Nat) (L st : List Value) (N : Nat) (y : Nat → Nat → Int32) (l : Nat → Nat → Int64), fk_ev d qX2_take 166 L (.ref 241 :: st) (fk_E N y l) = fk_ev d qX2_take 169 L (.int (y 241 2) :: st) (fk_E N y l)) ∧
  (∀ (d : Nat) (L st : List Value) (h : fk_H), fk_ev d qX2_take 169 L st h = fk_ev d qX2_take 170 L (.int (nI 1) :: st) h) ∧
  (∀ (d : Nat) (L : List Value) (x y : Int32) (st : List Value) (h : fk_H), fk_ev d qX2_take 170 L (.int y :: .int x :: st) h = fk_ev d qX2_take 171 L (.int (x + y) :: st) h) ∧
  (∀ (d : Nat) (L st : List Value) (N : Nat) (y : Nat → Nat → Int32) (l : Nat → Nat → Int64) (v : Int32), fk_ev d qX2_take 171 L (.int v :: .ref 241 :: st) (fk_E N y l) = fk_ev d qX2_take 174 L st (fk_E N (fk_u y 241 2 v) l)) ∧
  (∀ (d : Nat) (a0 a1 a2 a3 a4 a6 a7 a8 : Value) (x : Int32) (st : List Value) (h : fk_H), fk_ev d qX2_take 174 [a0, a1, a2, a3, a4, .int x, a6, a7, a8] st h = fk_ev d qX2_take 177 [a0, a1, a2, a3, a4, .int (x + nI 1), a6, a7, a8] st h) ∧
  (∀ (d : Nat) (L st : List Value) (h : fk_H), fk_ev d qX2_take 177 L st h = fk_ev d qX2_take 15 L st h) ∧
  (∀ (d : Nat) (a1 a2 a3 a4 a5 a6 a7 a8 : Value) (x : Nat) (st : List Value) (h : fk_H), fk_ev d qX2_take 180 [.ref x, a1, a2, a3, a4, a5, a6, a7, a8] st h = fk_ev d qX2_take 181 [.ref x, a1, a2, a3, a4, a5, a6, a7, a8] (.ref x :: st) h) ∧
  (∀ (d : Nat) (L st : List Value) (N : Nat) (y : Nat → Nat → Int32) (l : Nat → Nat → Int64), fk_ev d qX2_take 181 L (.ref 241 :: st) (fk_E N y l) = fk_ev d qX2_take 184 L (.int (y 241 2) :: st) (fk_E N y l)) ∧
  (∀ (d : Nat) (L st : List Value) (h : fk_H), fk_ev d qX2_take 184 L st h = fk_ev d qX2_take 185 L (.int (nI 2) :: st) h) ∧
  (∀ (d : Nat) (L : List Value) (x y : Int32) (st : List Value) (h : fk_H), fk_ev d qX2_take 185 L (.int y :: .int x :: st) h = if x < y then fk_ev d qX2_take 192 L st h else fk_ev d qX2_take 188 L st h) ∧
  (∀ (d : Nat) (L st : List Value) (h : fk_H), fk_ev d qX2_take 188 L st h = fk_ev d qX2_take 189 L (.int (nI 1) :: st) h) ∧
  (∀ (d : Nat) (L st : List Value) (h : fk_H), fk_ev d qX2_take 189 L st h = fk_ev d qX2_take 193 L st h) ∧
  (∀ (d : Nat) (L st : List Value) (h : fk_H), fk_ev d qX2_take 192 L st h = fk_ev d qX2_take 193 L (.int (nI 0) :: st) h) ∧
  (∀ (d : Nat) (L : List Value) (h : fk_H), fk_ev d qX2_take 193 L [.int (nI 0)] h = some (some (.int (nI 0)), h)) ∧
  (∀ (d : Nat) (L : List Value) (h : fk_H), fk_ev d qX2_take 193 L [.int (nI 1)] h = some (some (.int (nI 1)), h)) ∧
  (∀ (d : Nat) (L : List Value) (p : Prop) [Decidable p] (h : fk_H), fk_ev d qX2_take 193 L [.int (fk_b p)] h = some (some (.int (fk_b p)), h)) ∧
  (∀ (d : Nat) (L : List Value) (x : Int32) (h : fk_H), (x = nI 0 ∨ x = nI 1) → fk_ev d qX2_take 193 L [.int x] h = some (some (.int x), h)) := ⟨fun d a1 a2 a3 a4 a5 a6 a7 a8 x st h => fk_w_aloadn 0 [.ref x, a1, a2, a3, a4, a5, a6, a7, a8] dX2_take_0 rfl,
  fun d L st h => fk_w_iconst dX2_take_1 (by decide),
  fun d L st N y l v => fk_g_putI rfl lf_2_18 (by decide) dX2_take_2 rfl fk_at_241,
  fun d a0 a2 a3 a4 a5 a6 a7 a8 x st h => fk_w_aloadn 1 [a0, .ref x, a2, a3, a4, a5, a6, a7, a8] dX2_take_5 rfl,
  fun d L st h => fk_w_iconst dX2_take_6 (by decide),
  fun d L x0 N y l  => fk_g_call [.int x0] [] rfl lm_2_25 dX2_take_7 rfl ⟨rfl, by decide⟩ (by simp) fk_at_26,
  fun d a0 a1 a2 a3 a4 a5 a6 a7 a8 x st h => fk_w_istore 4 9 [] [a0, a1, a2, a3, a4, a5, a6, a7, a8] [a0, a1, a2, a3, .int x, a5, a6, a7, a8] dX2_take_10 rfl rfl (by decide) rfl,
  fun d L st h => fk_w_iconst dX2_take_12 (by decide),
  fun d a0 a1 a2 a3 a4 a5 a6 a7 a8 x st h => fk_w_istore 5 9 [] [a0, a1, a2, a3, a4, a5, a6, a7, a8] [a0, a1, a2, a3, a4, .int x, a6, a7, a8] dX2_take_13 rfl rfl (by decide) rfl,
  fun d a0 a1 a3 a4 a5 a6 a7 a8 x st h => fk_w_iloadn 2 [a0, a1, .int x, a3, a4, a5, a6, a7, a8] dX2_take_17 rfl,
  fun d L x y st h => fk_r_icmp_ge dX2_take_18 (by decide),
  fun d a0 a1 a2 a3 a4 a6 a7 a8 x st h => fk_w_iload 5 [a0, a1, a2, a3, a4, .int x, a6, a7, a8] dX2_take_21 rfl,
  fun d a1 a2 a3 a4 a5 a6 a7 a8 x st h => fk_w_aloadn 0 [.ref x, a1, a2, a3, a4, a5, a6, a7, a8] dX2_take_23 rfl,
  fun d L st N y l => fk_g_getC rfl lf_2_9 (by decide) rfl dX2_take_24 fk_at_241,
  fun d L st N y l => fk_g_alen fk_at_242 fk_ln_242 dX2_take_27,
  fun d L x y st h => fk_r_icmp_ge dX2_take_28 (by decide),
  fun d a0 a2 a3 a4 a5 a6 a7 a8 x st h => fk_w_aloadn 1 [a0, .ref x, a2, a3, a4, a5, a6, a7, a8] dX2_take_31 rfl,
  fun d a0 a1 a2 a3 a4 a6 a7 a8 x st h => fk_w_iload 5 [a0, a1, a2, a3, a4, .int x, a6, a7, a8] dX2_take_32 rfl,
  fun d L x0 N y l  => fk_g_call [.int x0] [] rfl lm_2_25 dX2_take_34 rfl ⟨rfl, by decide⟩ (by simp) fk_at_26,
  fun d a0 a1 a2 a3 a4 a5 a6 a7 a8 x st h => fk_w_istore 6 9 [] [a0, a1, a2, a3, a4, a5, a6, a7, a8] [a0, a1, a2, a3, a4, a5, .int x, a7, a8] dX2_take_37 rfl rfl (by decide) rfl,
  fun d a0 a1 a2 a4 a5 a6 a7 a8 x st h => fk_w_aloadn 3 [a0, a1, a2, .ref x, a4, a5, a6, a7, a8] dX2_take_39 rfl,
  fun d a0 a1 a2 a3 a5 a6 a7 a8 x st h => fk_w_iload 4 [a0, a1, a2, a3, .int x, a5, a6, a7, a8] dX2_take_40 rfl,
  fun d L x0 N y l c hc => fk_g_call [.int x0] [] rfl lm_2_31 dX2_take_42 rfl ⟨rfl, by decide⟩ (by simp) hc,
  fun d L x st h => fk_r_if_eq dX2_take_45 (by decide),
  fun d a0 a1 a2 a4 a5 a6 a7 a8 x st h => fk_w_aloadn 3 [a0, a1, a2, .ref x, a4, a5, a6, a7, a8] dX2_take_48 rfl,
  fun d a0 a1 a2 a3 a4 a5 a7 a8 x st h => fk_w_iload 6 [a0, a1, a2, a3, a4, a5, .int x, a7, a8] dX2_take_49 rfl,
  fun d L x0 N y l c hc => fk_g_call [.int x0] [] rfl lm_2_31 dX2_take_51 rfl ⟨rfl, by decide⟩ (by simp) hc,
  fun d L x st h => fk_r_if_ne dX2_take_54 (by decide),
  fun d L st h => fk_w_iconst dX2_take_57 (by decide),
  fun d L h => fk_r_ret dX2_take_58 (Or.inr (Or.inl ⟨rfl, by decide⟩)),
  fun d L h => fk_r_ret dX2_take_58 (Or.inr (Or.inl ⟨rfl, by decide⟩)),
  fun d L p _ h => fk_r_ret dX2_take_58 (Or.inr (Or.inl ⟨rfl, fk_b_01⟩)),
  fun d L x h hx => fk_r_ret dX2_take_58 (Or.inr (Or.inl ⟨rfl, hx⟩)),
  fun d a0 a1 a2 a4 a5 a6 a7 a8 x st h => fk_w_aloadn 3 [a0, a1, a2, .ref x, a4, a5, a6, a7, a8] dX2_take_59 rfl,
  fun d L st N y l c hc => fk_g_getC rfl lf_2_37 (by decide) rfl dX2_take_60 hc,
  fun d a0 a1 a2 a3 a4 a5 a7 a8 x st h => fk_w_iload 6 [a0, a1, a2, a3, a4, a5, .int x, a7, a8] dX2_take_63 rfl,
  fun d L st N y l c i hc hi hl => fk_h_aald dX2_take_65 hc hi hl,
  fun d L st N y l c hc => fk_g_getI rfl lf_2_41 (by decide) dX2_take_66 hc,
  fun d a0 a1 a2 a4 a5 a6 a7 a8 x st h => fk_w_aloadn 3 [a0, a1, a2, .ref x, a4, a5, a6, a7, a8] dX2_take_69 rfl,
  fun d L st N y l c hc => fk_g_getC rfl lf_2_37 (by decide) rfl dX2_take_70 hc,
  fun d a0 a1 a2 a3 a5 a6 a7 a8 x st h => fk_w_iload 4 [a0, a1, a2, a3, .int x, a5, a6, a7, a8] dX2_take_73 rfl,
  fun d L st N y l c i hc hi hl => fk_h_aald dX2_take_75 hc hi hl,
  fun d L st N y l c hc => fk_g_getI rfl lf_2_41 (by decide) dX2_take_76 hc,
  fun d L x y st h => fk_r_icmp_eq dX2_take_79 (by decide),
  fun d L st h => fk_w_iconst dX2_take_82 (by decide),
  fun d L h => fk_r_ret dX2_take_83 (Or.inr (Or.inl ⟨rfl, by decide⟩)),
  fun d L h => fk_r_ret dX2_take_83 (Or.inr (Or.inl ⟨rfl, by decide⟩)),
  fun d L p _ h => fk_r_ret dX2_take_83 (Or.inr (Or.inl ⟨rfl, fk_b_01⟩)),
  fun d L x h hx => fk_r_ret dX2_take_83 (Or.inr (Or.inl ⟨rfl, hx⟩)),
  fun d a1 a2 a3 a4 a5 a6 a7 a8 x st h => fk_w_aloadn 0 [.ref x, a1, a2, a3, a4, a5, a6, a7, a8] dX2_take_84 rfl,
  fun d L st N y l => fk_g_getI rfl lf_2_18 (by decide) dX2_take_85 fk_at_241,
  fun d a0 a1 a2 a3 a4 a5 a6 a7 a8 x st h => fk_w_istore 7 9 [] [a0, a1, a2, a3, a4, a5, a6, a7, a8] [a0, a1, a2, a3, a4, a5, a6, .int x, a8] dX2_take_88 rfl rfl (by decide) rfl,
  fun d a1 a2 a3 a4 a5 a6 a7 a8 x st h => fk_w_aloadn 0 [.ref x, a1, a2, a3, a4, a5, a6, a7, a8] dX2_take_90 rfl,
  fun d L st N y l => fk_g_getI rfl lf_2_18 (by decide) dX2_take_91 fk_at_241,
  fun d L st h => fk_w_iconst dX2_take_94 (by decide),
  fun d L x y st h => fk_r_isub dX2_take_95,
  fun d a0 a1 a2 a3 a4 a5 a6 a7 a8 x st h => fk_w_istore 8 9 [] [a0, a1, a2, a3, a4, a5, a6, a7, a8] [a0, a1, a2, a3, a4, a5, a6, a7, .int x] dX2_take_96 rfl rfl (by decide) rfl,
  fun d L x st h => fk_r_if_lt dX2_take_100 (by decide),
  fun d a1 a2 a3 a4 a5 a6 a7 a8 x st h => fk_w_aloadn 0 [.ref x, a1, a2, a3, a4, a5, a6, a7, a8] dX2_take_103 rfl,
  fun d L st N y l => fk_g_getC rfl lf_2_9 (by decide) rfl dX2_take_104 fk_at_241,
  fun d a0 a1 a2 a3 a4 a5 a6 a7 x st h => fk_w_iload 8 [a0, a1, a2, a3, a4, a5, a6, a7, .int x] dX2_take_107 rfl,
  fun d L st N y l i hi => fk_g_iald fk_at_242 fk_ln_242 (by decide) dX2_take_109 hi,
  fun d a0 a1 a2 a3 a4 a5 a7 a8 x st h => fk_w_iload 6 [a0, a1, a2, a3, a4, a5, .int x, a7, a8] dX2_take_110 rfl,
  fun d L x y st h => fk_r_icmp_lt dX2_take_112 (by decide),
  fun d a1 a2 a3 a4 a5 a6 a7 a8 x st h => fk_w_aloadn 0 [.ref x, a1, a2, a3, a4, a5, a6, a7, a8] dX2_take_115 rfl,
  fun d L st N y l => fk_g_getC rfl lf_2_9 (by decide) rfl dX2_take_116 fk_at_241,
  fun d a0 a1 a2 a3 a4 a5 a6 a7 x st h => fk_w_iload 8 [a0, a1, a2, a3, a4, a5, a6, a7, .int x] dX2_take_119 rfl,
  fun d L st N y l i hi => fk_g_iald fk_at_242 fk_ln_242 (by decide) dX2_take_121 hi,
  fun d a0 a1 a2 a3 a4 a5 a7 a8 x st h => fk_w_iload 6 [a0, a1, a2, a3, a4, a5, .int x, a7, a8] dX2_take_122 rfl,
  fun d L x y st h => fk_r_icmp_ne dX2_take_124 (by decide),
  fun d L st h => fk_w_iconst dX2_take_127 (by decide),
  fun d L h => fk_r_ret dX2_take_128 (Or.inr (Or.inl ⟨rfl, by decide⟩)),
  fun d L h => fk_r_ret dX2_take_128 (Or.inr (Or.inl ⟨rfl, by decide⟩)),
  fun d L p _ h => fk_r_ret dX2_take_128 (Or.inr (Or.inl ⟨rfl, fk_b_01⟩)),
  fun d L x h hx => fk_r_ret dX2_take_128 (Or.inr (Or.inl ⟨rfl, hx⟩)),
  fun d a1 a2 a3 a4 a5 a6 a7 a8 x st h => fk_w_aloadn 0 [.ref x, a1, a2, a3, a4, a5, a6, a7, a8] dX2_take_129 rfl,
  fun d L st N y l => fk_g_getC rfl lf_2_9 (by decide) rfl dX2_take_130 fk_at_241,
  fun d a0 a1 a2 a3 a4 a5 a6 a7 x st h => fk_w_iload 8 [a0, a1, a2, a3, a4, a5, a6, a7, .int x] dX2_take_133 rfl,
  fun d L st h => fk_w_iconst dX2_take_135 (by decide),
  fun d L x y st h => fk_r_iadd dX2_take_136,
  fun d a1 a2 a3 a4 a5 a6 a7 a8 x st h => fk_w_aloadn 0 [.ref x, a1, a2, a3, a4, a5, a6, a7, a8] dX2_take_137 rfl,
  fun d L st N y l => fk_g_getC rfl lf_2_9 (by decide) rfl dX2_take_138 fk_at_241,
  fun d a0 a1 a2 a3 a4 a5 a6 a7 x st h => fk_w_iload 8 [a0, a1, a2, a3, a4, a5, a6, a7, .int x] dX2_take_141 rfl,
  fun d L st N y l i hi => fk_g_iald fk_at_242 fk_ln_242 (by decide) dX2_take_143 hi,
  fun d L st N y l i v hi => fk_g_iast fk_at_242 fk_ln_242 (by decide) dX2_take_144 hi,
  fun d a0 a1 a2 a3 a4 a5 a6 a7 x st h => fk_w_iload 8 [a0, a1, a2, a3, a4, a5, a6, a7, .int x] dX2_take_145 rfl,
  fun d a0 a1 a2 a3 a4 a5 a6 a7 a8 x st h => fk_w_istore 7 9 [] [a0, a1, a2, a3, a4, a5, a6, a7, a8] [a0, a1, a2, a3, a4, a5, a6, .int x, a8] dX2_take_147 rfl rfl (by decide) rfl,
  fun d a0 a1 a2 a3 a4 a5 a6 a7 x st h => fk_w_iinc 8 9 (-1) [] [a0, a1, a2, a3, a4, a5, a6, a7, .int x] [a0, a1, a2, a3, a4, a5, a6, a7, .int (x + (-1 : Int32))] dX2_take_149 rfl rfl rfl (by decide) rfl,
  fun d L st h => fk_r_goto dX2_take_152 (by decide),
  fun d a1 a2 a3 a4 a5 a6 a7 a8 x st h => fk_w_aloadn 0 [.ref x, a1, a2, a3, a4, a5, a6, a7, a8] dX2_take_155 rfl,
  fun d L st N y l => fk_g_getC rfl lf_2_9 (by decide) rfl dX2_take_156 fk_at_241,
  fun d a0 a1 a2 a3 a4 a5 a6 a8 x st h => fk_w_iload 7 [a0, a1, a2, a3, a4, a5, a6, .int x, a8] dX2_take_159 rfl,
  fun d a0 a1 a2 a3 a4 a5 a7 a8 x st h => fk_w_iload 6 [a0, a1, a2, a3, a4, a5, .int x, a7, a8] dX2_take_161 rfl,
  fun d L st N y l i v hi => fk_g_iast fk_at_242 fk_ln_242 (by decide) dX2_take_163 hi,
  fun d a1 a2 a3 a4 a5 a6 a7 a8 x st h => fk_w_aloadn 0 [.ref x, a1, a2, a3, a4, a5, a6, a7, a8] dX2_take_164 rfl,
  fun d L x st h => fk_r_dup_ref dX2_take_165,
  fun d L st N y l => fk_g_getI rfl lf_2_18 (by decide) dX2_take_166 fk_at_241,
  fun d L st h => fk_w_iconst dX2_take_169 (by decide),
  fun d L x y st h => fk_r_iadd dX2_take_170,
  fun d L st N y l v => fk_g_putI rfl lf_2_18 (by decide) dX2_take_171 rfl fk_at_241,
  fun d a0 a1 a2 a3 a4 a6 a7 a8 x st h => fk_w_iinc 5 9 (1) [] [a0, a1, a2, a3, a4, .int x, a6, a7, a8] [a0, a1, a2, a3, a4, .int (x + nI 1), a6, a7, a8] dX2_take_174 rfl rfl rfl (by decide) rfl,
  fun d L st h => fk_r_goto dX2_take_177 (by decide),
  fun d a1 a2 a3 a4 a5 a6 a7 a8 x st h => fk_w_aloadn 0 [.ref x, a1, a2, a3, a4, a5, a6, a7, a8] dX2_take_180 rfl,
  fun d L st N y l => fk_g_getI rfl lf_2_18 (by decide) dX2_take_181 fk_at_241,
  fun d L st h => fk_w_iconst dX2_take_184 (by decide),
  fun d L x y st h => fk_r_icmp_lt dX2_take_185 (by decide),
  fun d L st h => fk_w_iconst dX2_take_188 (by decide),
  fun d L st h => fk_r_goto dX2_take_189 (by decide),
  fun d L st h => fk_w_iconst dX2_take_192 (by decide),
  fun d L h => fk_r_ret dX2_take_193 (Or.inr (Or.inl ⟨rfl, by decide⟩)),
  fun d L h => fk_r_ret dX2_take_193 (Or.inr (Or.inl ⟨rfl, by decide⟩)),
  fun d L p _ h => fk_r_ret dX2_take_193 (Or.inr (Or.inl ⟨rfl, fk_b_01⟩)),
  fun d L x h hx => fk_r_ret dX2_take_193 (Or.inr (Or.inl ⟨rfl, hx⟩))⟩
theorem hX2_take_15 : ∀ (d : Nat) (a0 a1 a2 a3 a4 a6 a7 a8 : Value) (x : Int32) (st : List Value) (h : fk_H), fk_ev d qX2_take 15 [a0, a1, a2, a3, a4, .int x, a6, a7, a8] st h = fk_ev d qX2_take 17 [a0, a1, a2, a3, a4, .int x, a6, a7, a8] (.int x :: st) h := fun d a0 a1 a2 a3 a4 a6 a7 a8 x st h => fk_w_iload 5 [a0, a1, a2, a3, a4, .int x, a6, a7, a8] dX2_take_15 rfl
theorem hX2_take_98 : ∀ (d : Nat) (a0 a1 a2 a3 a4 a5 a6 a7 : Value) (x : Int32) (st : List Value) (h : fk_H), fk_ev d qX2_take 98 [a0, a1, a2, a3, a4, a5, a6, a7, .int x] st h = fk_ev d qX2_take 100 [a0, a1, a2, a3, a4, a5, a6, a7, .int x] (.int x :: st) h := fun d a0 a1 a2 a3 a4 a5 a6 a7 x st h => fk_w_iload 8 [a0, a1, a2, a3, a4, a5, a6, a7, .int x] dX2_take_98 rfl
theorem dX2_seek_0 : decode cX2_seek 0 = .ok (.aload_n 0, 1) := by decide +kernel
theorem dX2_seek_1 : decode cX2_seek 1 = .ok (.iconst (-1), 1) := by decide +kernel
theorem dX2_seek_2 : decode cX2_seek 2 = .ok (.putfield 22, 3) := by decide +kernel
theorem dX2_seek_5 : decode cX2_seek 5 = .ok (.iconst 0, 1) := by decide +kernel
theorem dX2_seek_6 : decode cX2_seek 6 = .ok (.istore_n 3, 1) := by decide +kernel
theorem dX2_seek_7 : decode cX2_seek 7 = .ok (.iload_n 3, 1) := by decide +kernel
theorem dX2_seek_8 : decode cX2_seek 8 = .ok (.bipush 120, 2) := by decide +kernel
theorem dX2_seek_10 : decode cX2_seek 10 = .ok (.if_icmp .ge 57, 3) := by decide +kernel
theorem dX2_seek_13 : decode cX2_seek 13 = .ok (.aload_n 0, 1) := by decide +kernel
theorem dX2_seek_14 : decode cX2_seek 14 = .ok (.aload_n 1, 1) := by decide +kernel
theorem dX2_seek_15 : decode cX2_seek 15 = .ok (.aload_n 2, 1) := by decide +kernel
theorem dX2_seek_16 : decode cX2_seek 16 = .ok (.invokevirtual 46, 3) := by decide +kernel
theorem dX2_seek_19 : decode cX2_seek 19 = .ok (.istore 4, 2) := by decide +kernel
theorem dX2_seek_21 : decode cX2_seek 21 = .ok (.iload 4, 2) := by decide +kernel
theorem dX2_seek_23 : decode cX2_seek 23 = .ok (.aload_n 0, 1) := by decide +kernel
theorem dX2_seek_24 : decode cX2_seek 24 = .ok (.getfield 22, 3) := by decide +kernel
theorem dX2_seek_27 : decode cX2_seek 27 = .ok (.if_icmp .le 26, 3) := by decide +kernel
theorem dX2_seek_30 : decode cX2_seek 30 = .ok (.aload_n 0, 1) := by decide +kernel
theorem dX2_seek_31 : decode cX2_seek 31 = .ok (.iload 4, 2) := by decide +kernel
theorem dX2_seek_33 : decode cX2_seek 33 = .ok (.putfield 22, 3) := by decide +kernel
theorem dX2_seek_36 : decode cX2_seek 36 = .ok (.aload_n 0, 1) := by decide +kernel
theorem dX2_seek_37 : decode cX2_seek 37 = .ok (.getfield 9, 3) := by decide +kernel
theorem dX2_seek_40 : decode cX2_seek 40 = .ok (.iconst 0, 1) := by decide +kernel
theorem dX2_seek_41 : decode cX2_seek 41 = .ok (.aload_n 0, 1) := by decide +kernel
theorem dX2_seek_42 : decode cX2_seek 42 = .ok (.getfield 15, 3) := by decide +kernel
theorem dX2_seek_45 : decode cX2_seek 45 = .ok (.iconst 0, 1) := by decide +kernel
theorem dX2_seek_46 : decode cX2_seek 46 = .ok (.aload_n 0, 1) := by decide +kernel
theorem dX2_seek_47 : decode cX2_seek 47 = .ok (.getfield 18, 3) := by decide +kernel
theorem dX2_seek_50 : decode cX2_seek 50 = .ok (.invokestatic 50, 3) := by decide +kernel
theorem dX2_seek_53 : decode cX2_seek 53 = .ok (.aload_n 0, 1) := by decide +kernel
theorem dX2_seek_54 : decode cX2_seek 54 = .ok (.invokevirtual 56, 3) := by decide +kernel
theorem dX2_seek_57 : decode cX2_seek 57 = .ok (.ifCond .ne 4, 3) := by decide +kernel
theorem dX2_seek_60 : decode cX2_seek 60 = .ok (.return_, 1) := by decide +kernel
theorem dX2_seek_61 : decode cX2_seek 61 = .ok (.iinc 3 1, 3) := by decide +kernel
theorem dX2_seek_64 : decode cX2_seek 64 = .ok (.goto (-57), 3) := by decide +kernel
theorem dX2_seek_67 : decode cX2_seek 67 = .ok (.return_, 1) := by decide +kernel
theorem rX2_seek : (∀ (d : Nat) (a1 a2 a3 a4 : Value) (x : Nat) (st : List Value) (h : fk_H), fk_ev d qX2_seek 0 [.ref x, a1, a2, a3, a4] st h = fk_ev d qX2_seek 1 [.ref x, a1, a2, a3, a4] (.ref x :: st) h) ∧
  (∀ (d : Nat) (L st : List Value) (h : fk_H), fk_ev d qX2_seek 1 L st h = fk_ev d qX2_seek 2 L (.int ((-1 : Int32)) :: st) h) ∧
  (∀ (d : Nat) (L st : List Value) (N : Nat) (y : Nat → Nat → Int32) (l : Nat → Nat → Int64) (v : Int32), fk_ev d qX2_seek 2 L (.int v :: .ref 241 :: st) (fk_E N y l) = fk_ev d qX2_seek 5 L st (fk_E N (fk_u y 241 3 v) l)) ∧
  (∀ (d : Nat) (L st : List Value) (h : fk_H), fk_ev d qX2_seek 5 L st h = fk_ev d qX2_seek 6 L (.int (nI 0) :: st) h) ∧
  (∀ (d : Nat) (a0 a1 a2 a3 a4 : Value) (x : Int32) (st : List Value) (h : fk_H), fk_ev d qX2_seek 6 [a0, a1, a2, a3, a4] (.int x :: st) h = fk_ev d qX2_seek 7 [a0, a1, a2, .int x, a4] st h) ∧
  (∀ (d : Nat) (L st : List Value) (h : fk_H), fk_ev d qX2_seek 8 L st h = fk_ev d qX2_seek 10 L (.int (nI 120) :: st) h) ∧
  (∀ (d : Nat) (L : List Value) (x y : Int32) (st : List Value) (h : fk_H), fk_ev d qX2_seek 10 L (.int y :: .int x :: st) h = if y ≤ x then fk_ev d qX2_seek 67 L st h else fk_ev d qX2_seek 13 L st h) ∧
  (∀ (d : Nat) (a1 a2 a3 a4 : Value) (x : Nat) (st : List Value) (h : fk_H), fk_ev d qX2_seek 13 [.ref x, a1, a2, a3, a4] st h = fk_ev d qX2_seek 14 [.ref x, a1, a2, a3, a4] (.ref x :: st) h) ∧
  (∀ (d : Nat) (a0 a2 a3 a4 : Value) (x : Nat) (st : List Value) (h : fk_H), fk_ev d qX2_seek 14 [a0, .ref x, a2, a3, a4] st h = fk_ev d qX2_seek 15 [a0, .ref x, a2, a3, a4] (.ref x :: st) h) ∧
  (∀ (d : Nat) (a0 a1 a3 a4 : Value) (x : Nat) (st : List Value) (h : fk_H), fk_ev d qX2_seek 15 [a0, a1, .ref x, a3, a4] st h = fk_ev d qX2_seek 16 [a0, a1, .ref x, a3, a4] (.ref x :: st) h) ∧
  (∀ (d : Nat) (L : List Value) (x0 : Nat) (x1 : Nat)  (N : Nat) (y : Nat → Nat → Int32) (l : Nat → Nat → Int64), fk_ev (d + 1) qX2_seek 16 L (.ref x1 :: .ref x0 :: .ref 241 :: []) (fk_E N y l) = (fk_ev d qX2_factsOf 0 [.ref 241, .ref x0, .ref x1, .null, .null, .null, .null, .null, .null, .null, .null, .null] [] (fk_E N y l)).bind fun o => fk_ev (d + 1) qX2_seek 19 L (o.1.toList ++ []) o.2) ∧
  (∀ (d : Nat) (a0 a1 a2 a3 a4 : Value) (x : Int32) (st : List Value) (h : fk_H), fk_ev d qX2_seek 19 [a0, a1, a2, a3, a4] (.int x :: st) h = fk_ev d qX2_seek 21 [a0, a1, a2, a3, .int x] st h) ∧
  (∀ (d : Nat) (a0 a1 a2 a3 : Value) (x : Int32) (st : List Value) (h : fk_H), fk_ev d qX2_seek 21 [a0, a1, a2, a3, .int x] st h = fk_ev d qX2_seek 23 [a0, a1, a2, a3, .int x] (.int x :: st) h) ∧
  (∀ (d : Nat) (a1 a2 a3 a4 : Value) (x : Nat) (st : List Value) (h : fk_H), fk_ev d qX2_seek 23 [.ref x, a1, a2, a3, a4] st h = fk_ev d qX2_seek 24 [.ref x, a1, a2, a3, a4] (.ref x :: st) h) ∧
  (∀ (d : Nat) (L st : List Value) (N : Nat) (y : Nat → Nat → Int32) (l : Nat → Nat → Int64), fk_ev d qX2_seek 24 L (.ref 241 :: st) (fk_E N y l) = fk_ev d qX2_seek 27 L (.int (y 241 3) :: st) (fk_E N y l)) ∧
  (∀ (d : Nat) (L : List Value) (x y : Int32) (st : List Value) (h : fk_H), fk_ev d qX2_seek 27 L (.int y :: .int x :: st) h = if x ≤ y then fk_ev d qX2_seek 53 L st h else fk_ev d qX2_seek 30 L st h) ∧
  (∀ (d : Nat) (a1 a2 a3 a4 : Value) (x : Nat) (st : List Value) (h : fk_H), fk_ev d qX2_seek 30 [.ref x, a1, a2, a3, a4] st h = fk_ev d qX2_seek 31 [.ref x, a1, a2, a3, a4] (.ref x :: st) h) ∧
  (∀ (d : Nat) (a0 a1 a2 a3 : Value) (x : Int32) (st : List Value) (h : fk_H), fk_ev d qX2_seek 31 [a0, a1, a2, a3, .int x] st h = fk_ev d qX2_seek 33 [a0, a1, a2, a3, .int x] (.int x :: st) h) ∧
  (∀ (d : Nat) (L st : List Value) (N : Nat) (y : Nat → Nat → Int32) (l : Nat → Nat → Int64) (v : Int32), fk_ev d qX2_seek 33 L (.int v :: .ref 241 :: st) (fk_E N y l) = fk_ev d qX2_seek 36 L st (fk_E N (fk_u y 241 3 v) l)) ∧
  (∀ (d : Nat) (a1 a2 a3 a4 : Value) (x : Nat) (st : List Value) (h : fk_H), fk_ev d qX2_seek 36 [.ref x, a1, a2, a3, a4] st h = fk_ev d qX2_seek 37 [.ref x, a1, a2, a3, a4] (.ref x :: st) h) ∧
  (∀ (d : Nat) (L st : List Value) (N : Nat) (y : Nat → Nat → Int32) (l : Nat → Nat → Int64), fk_ev d qX2_seek 37 L (.ref 241 :: st) (fk_E N y l) = fk_ev d qX2_seek 40 L (.ref 242 :: st) (fk_E N y l)) ∧
  (∀ (d : Nat) (L st : List Value) (h : fk_H), fk_ev d qX2_seek 40 L st h = fk_ev d qX2_seek 41 L (.int (nI 0) :: st) h) ∧
  (∀ (d : Nat) (a1 a2 a3 a4 : Value) (x : Nat) (st : List Value) (h : fk_H), fk_ev d qX2_seek 41 [.ref x, a1, a2, a3, a4] st h = fk_ev d qX2_seek 42 [.ref x, a1, a2, a3, a4] (.ref x :: st) h) ∧
  (∀ (d : Nat) (L st : List Value) (N : Nat) (y : Nat → Nat → Int32) (l : Nat → Nat → Int64), fk_ev d qX2_seek 42 L (.ref 241 :: st) (fk_E N y l) = fk_ev d qX2_seek 45 L (.ref 243 :: st) (fk_E N y l)) ∧
  (∀ (d : Nat) (L st : List Value) (h : fk_H), fk_ev d qX2_seek 45 L st h = fk_ev d qX2_seek 46 L (.int (nI 0) :: st) h) ∧
  (∀ (d : Nat) (a1 a2 a3 a4 : Value) (x : Nat) (st : List Value) (h : fk_H), fk_ev d qX2_seek 46 [.ref x, a1, a2, a3, a4] st h = fk_ev d qX2_seek 47 [.ref x, a1, a2, a3, a4] (.ref x :: st) h) ∧
  (∀ (d : Nat) (L st : List Value) (N : Nat) (y : Nat → Nat → Int32) (l : Nat → Nat → Int64), fk_ev d qX2_seek 47 L (.ref 241 :: st) (fk_E N y l) = fk_ev d qX2_seek 50 L (.int (y 241 2) :: st) (fk_E N y l)) ∧
  (∀ (d : Nat) (L : List Value) (n dp a sp a0 : Nat) (N : Nat) (y : Nat → Nat → Int32) (l : Nat → Nat → Int64), fk_at a 20 → fk_at a0 20 → sp + n ≤ (fk_shp a0).2 → dp + n ≤ (fk_shp a).2 → ((fk_shp a0).2 < 2 ^ 31 ∧ (fk_shp a).2 < 2 ^ 31) → fk_ev d qX2_seek 50 L (.int (nI n) :: .int (nI dp) :: .ref a :: .int (nI sp) :: .ref a0 :: []) (fk_E N y l) = fk_ev d qX2_seek 53 L [] (fk_E N (fk_uc y a0 sp a dp n) l)) ∧
  (∀ (d : Nat) (a1 a2 a3 a4 : Value) (x : Nat) (st : List Value) (h : fk_H), fk_ev d qX2_seek 53 [.ref x, a1, a2, a3, a4] st h = fk_ev d qX2_seek 54 [.ref x, a1, a2, a3, a4] (.ref x :: st) h) ∧
  (∀ (d : Nat) (L : List Value)   (N : Nat) (y : Nat → Nat → Int32) (l : Nat → Nat → Int64), fk_ev (d + 1) qX2_seek 54 L (.ref 241 :: []) (fk_E N y l) = (fk_ev d qX2_goOn 0 [.ref 241, .null, .null, .null, .null] [] (fk_E N y l)).bind fun o => fk_ev (d + 1) qX2_seek 57 L (o.1.toList ++ []) o.2) ∧
  (∀ (d : Nat) (L : List Value) (x : Int32) (st : List Value) (h : fk_H), fk_ev d qX2_seek 57 L (.int x :: st) h = if ¬ x = nI 0 then fk_ev d qX2_seek 61 L st h else fk_ev d qX2_seek 60 L st h) ∧
  (∀ (d : Nat) (L : List Value) (h : fk_H), fk_ev d qX2_seek 60 L [] h = some (none, h)) ∧
  (∀ (d : Nat) (a0 a1 a2 a4 : Value) (x : Int32) (st : List Value) (h : fk_H), fk_ev d qX2_seek 61 [a0, a1, a2, .int x, a4] st h = fk_ev d qX2_seek 64 [a0, a1, a2, .int (x + nI 1), a4] st h) ∧
  (∀ (d : Nat) (L st : List Value) (h : fk_H), fk_ev d qX2_seek 64 L st h = fk_ev d qX2_seek 7 L st h) ∧
  (∀ (d : Nat) (L : List Value) (h : fk_H), fk_ev d qX2_seek 67 L [] h = some (none, h)) := ⟨fun d a1 a2 a3 a4 x st h => fk_w_aloadn 0 [.ref x, a1, a2, a3, a4] dX2_seek_0 rfl,
  fun d L st h => fk_w_iconst dX2_seek_1 (by decide),
  fun d L st N y l v => fk_g_putI rfl lf_2_22 (by decide) dX2_seek_2 rfl fk_at_241,
  fun d L st h => fk_w_iconst dX2_seek_5 (by decide),
  fun d a0 a1 a2 a3 a4 x st h => fk_w_istoren 3 5 [] [a0, a1, a2, a3, a4] [a0, a1, a2, .int x, a4] dX2_seek_6 rfl rfl (by decide) rfl,
  fun d L st h => fk_w_bipush dX2_seek_8 (by decide),
  fun d L x y st h => fk_r_icmp_ge dX2_seek_10 (by decide),
  fun d a1 a2 a3 a4 x st h => fk_w_aloadn 0 [.ref x, a1, a2, a3, a4] dX2_seek_13 rfl,
  fun d a0 a2 a3 a4 x st h => fk_w_aloadn 1 [a0, .ref x, a2, a3, a4] dX2_seek_14 rfl,
  fun d a0 a1 a3 a4 x st h => fk_w_aloadn 2 [a0, a1, .ref x, a3, a4] dX2_seek_15 rfl,
  fun d L x0 x1 N y l  => fk_g_call [.ref x0, .ref x1] [] rfl lm_2_46 dX2_seek_16 rfl ⟨rfl, by decide⟩ (by simp) fk_at_241,
  fun d a0 a1 a2 a3 a4 x st h => fk_w_istore 4 5 [] [a0, a1, a2, a3, a4] [a0, a1, a2, a3, .int x] dX2_seek_19 rfl rfl (by decide) rfl,
  fun d a0 a1 a2 a3 x st h => fk_w_iload 4 [a0, a1, a2, a3, .int x] dX2_seek_21 rfl,
  fun d a1 a2 a3 a4 x st h => fk_w_aloadn 0 [.ref x, a1, a2, a3, a4] dX2_seek_23 rfl,
  fun d L st N y l => fk_g_getI rfl lf_2_22 (by decide) dX2_seek_24 fk_at_241,
  fun d L x y st h => fk_r_icmp_le dX2_seek_27 (by decide),
  fun d a1 a2 a3 a4 x st h => fk_w_aloadn 0 [.ref x, a1, a2, a3, a4] dX2_seek_30 rfl,
  fun d a0 a1 a2 a3 x st h => fk_w_iload 4 [a0, a1, a2, a3, .int x] dX2_seek_31 rfl,
  fun d L st N y l v => fk_g_putI rfl lf_2_22 (by decide) dX2_seek_33 rfl fk_at_241,
  fun d a1 a2 a3 a4 x st h => fk_w_aloadn 0 [.ref x, a1, a2, a3, a4] dX2_seek_36 rfl,
  fun d L st N y l => fk_g_getC rfl lf_2_9 (by decide) rfl dX2_seek_37 fk_at_241,
  fun d L st h => fk_w_iconst dX2_seek_40 (by decide),
  fun d a1 a2 a3 a4 x st h => fk_w_aloadn 0 [.ref x, a1, a2, a3, a4] dX2_seek_41 rfl,
  fun d L st N y l => fk_g_getC rfl lf_2_15 (by decide) rfl dX2_seek_42 fk_at_241,
  fun d L st h => fk_w_iconst dX2_seek_45 (by decide),
  fun d a1 a2 a3 a4 x st h => fk_w_aloadn 0 [.ref x, a1, a2, a3, a4] dX2_seek_46 rfl,
  fun d L st N y l => fk_g_getI rfl lf_2_18 (by decide) dX2_seek_47 fk_at_241,
  fun d L n dp a sp a0  N y l ha ha0 h1 h2 hb => fk_p_copy dX2_seek_50 ln_2_50 lp_2_50 (by simp) ha ha0 h1 h2 hb,
  fun d a1 a2 a3 a4 x st h => fk_w_aloadn 0 [.ref x, a1, a2, a3, a4] dX2_seek_53 rfl,
  fun d L  N y l  => fk_g_call [] [] rfl lm_2_56 dX2_seek_54 rfl ⟨rfl, by decide⟩ (by simp) fk_at_241,
  fun d L x st h => fk_r_if_ne dX2_seek_57 (by decide),
  fun d L h => fk_r_vret dX2_seek_60 rfl,
  fun d a0 a1 a2 a4 x st h => fk_w_iinc 3 5 (1) [] [a0, a1, a2, .int x, a4] [a0, a1, a2, .int (x + nI 1), a4] dX2_seek_61 rfl rfl rfl (by decide) rfl,
  fun d L st h => fk_r_goto dX2_seek_64 (by decide),
  fun d L h => fk_r_vret dX2_seek_67 rfl⟩
theorem hX2_seek_7 : ∀ (d : Nat) (a0 a1 a2 a4 : Value) (x : Int32) (st : List Value) (h : fk_H), fk_ev d qX2_seek 7 [a0, a1, a2, .int x, a4] st h = fk_ev d qX2_seek 8 [a0, a1, a2, .int x, a4] (.int x :: st) h := fun d a0 a1 a2 a4 x st h => fk_w_iloadn 3 [a0, a1, a2, .int x, a4] dX2_seek_7 rfl
theorem dX2_factsOf_0 : decode cX2_factsOf 0 = .ok (.aload_n 0, 1) := by decide +kernel
theorem dX2_factsOf_1 : decode cX2_factsOf 1 = .ok (.getfield 9, 3) := by decide +kernel
theorem dX2_factsOf_4 : decode cX2_factsOf 4 = .ok (.iconst 0, 1) := by decide +kernel
theorem dX2_factsOf_5 : decode cX2_factsOf 5 = .ok (.iaload, 1) := by decide +kernel
theorem dX2_factsOf_6 : decode cX2_factsOf 6 = .ok (.istore_n 3, 1) := by decide +kernel
theorem dX2_factsOf_7 : decode cX2_factsOf 7 = .ok (.aload_n 2, 1) := by decide +kernel
theorem dX2_factsOf_8 : decode cX2_factsOf 8 = .ok (.getfield 37, 3) := by decide +kernel
theorem dX2_factsOf_11 : decode cX2_factsOf 11 = .ok (.iload_n 3, 1) := by decide +kernel
theorem dX2_factsOf_12 : decode cX2_factsOf 12 = .ok (.aaload, 1) := by decide +kernel
theorem dX2_factsOf_13 : decode cX2_factsOf 13 = .ok (.getfield 60, 3) := by decide +kernel
theorem dX2_factsOf_16 : decode cX2_factsOf 16 = .ok (.istore 4, 2) := by decide +kernel
theorem dX2_factsOf_18 : decode cX2_factsOf 18 = .ok (.aload_n 2, 1) := by decide +kernel
theorem dX2_factsOf_19 : decode cX2_factsOf 19 = .ok (.getfield 37, 3) := by decide +kernel
theorem dX2_factsOf_22 : decode cX2_factsOf 22 = .ok (.iload_n 3, 1) := by decide +kernel
theorem dX2_factsOf_23 : decode cX2_factsOf 23 = .ok (.aaload, 1) := by decide +kernel
theorem dX2_factsOf_24 : decode cX2_factsOf 24 = .ok (.getfield 63, 3) := by decide +kernel
theorem dX2_factsOf_27 : decode cX2_factsOf 27 = .ok (.istore 5, 2) := by decide +kernel
theorem dX2_factsOf_29 : decode cX2_factsOf 29 = .ok (.iconst 1, 1) := by decide +kernel
theorem dX2_factsOf_30 : decode cX2_factsOf 30 = .ok (.istore 6, 2) := by decide +kernel
theorem dX2_factsOf_32 : decode cX2_factsOf 32 = .ok (.iload 6, 2) := by decide +kernel
theorem dX2_factsOf_34 : decode cX2_factsOf 34 = .ok (.aload_n 0, 1) := by decide +kernel
theorem dX2_factsOf_35 : decode cX2_factsOf 35 = .ok (.getfield 18, 3) := by decide +kernel
theorem dX2_factsOf_38 : decode cX2_factsOf 38 = .ok (.if_icmp .ge 173, 3) := by decide +kernel
theorem dX2_factsOf_41 : decode cX2_factsOf 41 = .ok (.aload_n 2, 1) := by decide +kernel
theorem dX2_factsOf_42 : decode cX2_factsOf 42 = .ok (.getfield 37, 3) := by decide +kernel
theorem dX2_factsOf_45 : decode cX2_factsOf 45 = .ok (.aload_n 0, 1) := by decide +kernel
theorem dX2_factsOf_46 : decode cX2_factsOf 46 = .ok (.getfield 9, 3) := by decide +kernel
theorem dX2_factsOf_49 : decode cX2_factsOf 49 = .ok (.iload 6, 2) := by decide +kernel
theorem dX2_factsOf_51 : decode cX2_factsOf 51 = .ok (.iaload, 1) := by decide +kernel
theorem dX2_factsOf_52 : decode cX2_factsOf 52 = .ok (.aaload, 1) := by decide +kernel
theorem dX2_factsOf_53 : decode cX2_factsOf 53 = .ok (.astore 7, 2) := by decide +kernel
theorem dX2_factsOf_55 : decode cX2_factsOf 55 = .ok (.iload 4, 2) := by decide +kernel
theorem dX2_factsOf_57 : decode cX2_factsOf 57 = .ok (.aload 7, 2) := by decide +kernel
theorem dX2_factsOf_59 : decode cX2_factsOf 59 = .ok (.getfield 60, 3) := by decide +kernel
theorem dX2_factsOf_62 : decode cX2_factsOf 62 = .ok (.iand, 1) := by decide +kernel
theorem dX2_factsOf_63 : decode cX2_factsOf 63 = .ok (.iload 5, 2) := by decide +kernel
theorem dX2_factsOf_65 : decode cX2_factsOf 65 = .ok (.aload 7, 2) := by decide +kernel
theorem dX2_factsOf_67 : decode cX2_factsOf 67 = .ok (.getfield 63, 3) := by decide +kernel
theorem dX2_factsOf_70 : decode cX2_factsOf 70 = .ok (.ixor, 1) := by decide +kernel
theorem dX2_factsOf_71 : decode cX2_factsOf 71 = .ok (.iand, 1) := by decide +kernel
theorem dX2_factsOf_72 : decode cX2_factsOf 72 = .ok (.istore 8, 2) := by decide +kernel
theorem dX2_factsOf_74 : decode cX2_factsOf 74 = .ok (.aload_n 2, 1) := by decide +kernel
theorem dX2_factsOf_75 : decode cX2_factsOf 75 = .ok (.getfield 37, 3) := by decide +kernel
theorem dX2_factsOf_78 : decode cX2_factsOf 78 = .ok (.iload_n 3, 1) := by decide +kernel
theorem dX2_factsOf_79 : decode cX2_factsOf 79 = .ok (.aload 7, 2) := by decide +kernel
theorem dX2_factsOf_81 : decode cX2_factsOf 81 = .ok (.getfield 66, 3) := by decide +kernel
theorem dX2_factsOf_84 : decode cX2_factsOf 84 = .ok (.invokestatic 69, 3) := by decide +kernel
theorem dX2_factsOf_87 : decode cX2_factsOf 87 = .ok (.aaload, 1) := by decide +kernel
theorem dX2_factsOf_88 : decode cX2_factsOf 88 = .ok (.astore 9, 2) := by decide +kernel
theorem dX2_factsOf_90 : decode cX2_factsOf 90 = .ok (.aload_n 2, 1) := by decide +kernel
theorem dX2_factsOf_91 : decode cX2_factsOf 91 = .ok (.getfield 37, 3) := by decide +kernel
theorem dX2_factsOf_94 : decode cX2_factsOf 94 = .ok (.iload_n 3, 1) := by decide +kernel
theorem dX2_factsOf_95 : decode cX2_factsOf 95 = .ok (.aload 7, 2) := by decide +kernel
theorem dX2_factsOf_97 : decode cX2_factsOf 97 = .ok (.getfield 66, 3) := by decide +kernel
theorem dX2_factsOf_100 : decode cX2_factsOf 100 = .ok (.invokestatic 75, 3) := by decide +kernel
theorem dX2_factsOf_103 : decode cX2_factsOf 103 = .ok (.aaload, 1) := by decide +kernel
theorem dX2_factsOf_104 : decode cX2_factsOf 104 = .ok (.astore 10, 2) := by decide +kernel
theorem dX2_factsOf_106 : decode cX2_factsOf 106 = .ok (.iload 8, 2) := by decide +kernel
theorem dX2_factsOf_108 : decode cX2_factsOf 108 = .ok (.ifCond .ne 7, 3) := by decide +kernel
theorem dX2_factsOf_111 : decode cX2_factsOf 111 = .ok (.iconst 0, 1) := by decide +kernel
theorem dX2_factsOf_112 : decode cX2_factsOf 112 = .ok (.goto 18, 3) := by decide +kernel
theorem dX2_factsOf_115 : decode cX2_factsOf 115 = .ok (.iload 8, 2) := by decide +kernel
theorem dX2_factsOf_117 : decode cX2_factsOf 117 = .ok (.aload_n 1, 1) := by decide +kernel
theorem dX2_factsOf_118 : decode cX2_factsOf 118 = .ok (.aload 9, 2) := by decide +kernel
theorem dX2_factsOf_120 : decode cX2_factsOf 120 = .ok (.aload 10, 2) := by decide +kernel
theorem dX2_factsOf_122 : decode cX2_factsOf 122 = .ok (.iload 8, 2) := by decide +kernel
theorem dX2_factsOf_124 : decode cX2_factsOf 124 = .ok (.invokevirtual 78, 3) := by decide +kernel
theorem dX2_factsOf_127 : decode cX2_factsOf 127 = .ok (.iconst (-1), 1) := by decide +kernel
theorem dX2_factsOf_128 : decode cX2_factsOf 128 = .ok (.ixor, 1) := by decide +kernel
theorem dX2_factsOf_129 : decode cX2_factsOf 129 = .ok (.iand, 1) := by decide +kernel
theorem dX2_factsOf_130 : decode cX2_factsOf 130 = .ok (.istore 11, 2) := by decide +kernel
theorem dX2_factsOf_132 : decode cX2_factsOf 132 = .ok (.iload_n 3, 1) := by decide +kernel
theorem dX2_factsOf_133 : decode cX2_factsOf 133 = .ok (.aload 7, 2) := by decide +kernel
theorem dX2_factsOf_135 : decode cX2_factsOf 135 = .ok (.getfield 66, 3) := by decide +kernel
theorem dX2_factsOf_138 : decode cX2_factsOf 138 = .ok (.if_icmp .ge 21, 3) := by decide +kernel
theorem dX2_factsOf_141 : decode cX2_factsOf 141 = .ok (.iload 5, 2) := by decide +kernel
theorem dX2_factsOf_143 : decode cX2_factsOf 143 = .ok (.aload 7, 2) := by decide +kernel
theorem dX2_factsOf_145 : decode cX2_factsOf 145 = .ok (.getfield 63, 3) := by decide +kernel
theorem dX2_factsOf_148 : decode cX2_factsOf 148 = .ok (.iload 4, 2) := by decide +kernel
theorem dX2_factsOf_150 : decode cX2_factsOf 150 = .ok (.iconst (-1), 1) := by decide +kernel
theorem dX2_factsOf_151 : decode cX2_factsOf 151 = .ok (.ixor, 1) := by decide +kernel
theorem dX2_factsOf_152 : decode cX2_factsOf 152 = .ok (.iand, 1) := by decide +kernel
theorem dX2_factsOf_153 : decode cX2_factsOf 153 = .ok (.ior, 1) := by decide +kernel
theorem dX2_factsOf_154 : decode cX2_factsOf 154 = .ok (.istore 5, 2) := by decide +kernel
theorem dX2_factsOf_156 : decode cX2_factsOf 156 = .ok (.goto 21, 3) := by decide +kernel
theorem dX2_factsOf_159 : decode cX2_factsOf 159 = .ok (.aload 7, 2) := by decide +kernel
theorem dX2_factsOf_161 : decode cX2_factsOf 161 = .ok (.getfield 63, 3) := by decide +kernel
theorem dX2_factsOf_164 : decode cX2_factsOf 164 = .ok (.iload 5, 2) := by decide +kernel
theorem dX2_factsOf_166 : decode cX2_factsOf 166 = .ok (.aload 7, 2) := by decide +kernel
theorem dX2_factsOf_168 : decode cX2_factsOf 168 = .ok (.getfield 60, 3) := by decide +kernel
theorem dX2_factsOf_171 : decode cX2_factsOf 171 = .ok (.iconst (-1), 1) := by decide +kernel
theorem dX2_factsOf_172 : decode cX2_factsOf 172 = .ok (.ixor, 1) := by decide +kernel
theorem dX2_factsOf_173 : decode cX2_factsOf 173 = .ok (.iand, 1) := by decide +kernel
theorem dX2_factsOf_174 : decode cX2_factsOf 174 = .ok (.ior, 1) := by decide +kernel
theorem dX2_factsOf_175 : decode cX2_factsOf 175 = .ok (.istore 5, 2) := by decide +kernel
theorem dX2_factsOf_177 : decode cX2_factsOf 177 = .ok (.iload 4, 2) := by decide +kernel
theorem dX2_factsOf_179 : decode cX2_factsOf 179 = .ok (.aload 7, 2) := by decide +kernel
theorem dX2_factsOf_181 : decode cX2_factsOf 181 = .ok (.getfield 60, 3) := by decide +kernel
theorem dX2_factsOf_184 : decode cX2_factsOf 184 = .ok (.ior, 1) := by decide +kernel
theorem dX2_factsOf_185 : decode cX2_factsOf 185 = .ok (.iload 11, 2) := by decide +kernel
theorem dX2_factsOf_187 : decode cX2_factsOf 187 = .ok (.iconst (-1), 1) := by decide +kernel
theorem dX2_factsOf_188 : decode cX2_factsOf 188 = .ok (.ixor, 1) := by decide +kernel
theorem dX2_factsOf_189 : decode cX2_factsOf 189 = .ok (.iand, 1) := by decide +kernel
theorem dX2_factsOf_190 : decode cX2_factsOf 190 = .ok (.istore 4, 2) := by decide +kernel
theorem dX2_factsOf_192 : decode cX2_factsOf 192 = .ok (.iload 5, 2) := by decide +kernel
theorem dX2_factsOf_194 : decode cX2_factsOf 194 = .ok (.iload 4, 2) := by decide +kernel
theorem dX2_factsOf_196 : decode cX2_factsOf 196 = .ok (.iand, 1) := by decide +kernel
theorem dX2_factsOf_197 : decode cX2_factsOf 197 = .ok (.istore 5, 2) := by decide +kernel
theorem dX2_factsOf_199 : decode cX2_factsOf 199 = .ok (.aload 9, 2) := by decide +kernel
theorem dX2_factsOf_201 : decode cX2_factsOf 201 = .ok (.getfield 66, 3) := by decide +kernel
theorem dX2_factsOf_204 : decode cX2_factsOf 204 = .ok (.istore_n 3, 1) := by decide +kernel
theorem dX2_factsOf_205 : decode cX2_factsOf 205 = .ok (.iinc 6 1, 3) := by decide +kernel
theorem dX2_factsOf_208 : decode cX2_factsOf 208 = .ok (.goto (-176), 3) := by decide +kernel
theorem dX2_factsOf_211 : decode cX2_factsOf 211 = .ok (.iload 4, 2) := by decide +kernel
theorem dX2_factsOf_213 : decode cX2_factsOf 213 = .ok (.invokestatic 84, 3) := by decide +kernel
theorem dX2_factsOf_216 : decode cX2_factsOf 216 = .ok (.ireturn, 1) := by decide +kernel
theorem rX2_factsOf : (∀ (d : Nat) (a1 a2 a3 a4 a5 a6 a7 a8 a9 a10 a11 : Value) (x : Nat) (st : List Value) (h : fk_H), fk_ev d qX2_factsOf 0 [.ref x, a1, a2, a3, a4, a5, a6, a7, a8, a9, a10, a11] st h = fk_ev d qX2_factsOf 1 [.ref x, a1, a2, a3, a4, a5, a6, a7, a8, a9, a10, a11] (.ref x :: st) h) ∧
  (∀ (d : Nat) (L st : List Value) (N : Nat) (y : Nat → Nat → Int32) (l : Nat → Nat → Int64), fk_ev d qX2_factsOf 1 L (.ref 241 :: st) (fk_E N y l) = fk_ev d qX2_factsOf 4 L (.ref 242 :: st) (fk_E N y l)) ∧
  (∀ (d : Nat) (L st : List Value) (h : fk_H), fk_ev d qX2_factsOf 4 L st h = fk_ev d qX2_factsOf 5 L (.int (nI 0) :: st) h) ∧
  (∀ (d : Nat) (L st : List Value) (N : Nat) (y : Nat → Nat → Int32) (l : Nat → Nat → Int64) (i : Nat), i < 5 → fk_ev d qX2_factsOf 5 L (.int (nI i) :: .ref 242 :: st) (fk_E N y l) = fk_ev d qX2_factsOf 6 L (.int (y 242 i) :: st) (fk_E N y l)) ∧
  (∀ (d : Nat) (a0 a1 a2 a3 a4 a5 a6 a7 a8 a9 a10 a11 : Value) (x : Int32) (st : List Value) (h : fk_H), fk_ev d qX2_factsOf 6 [a0, a1, a2, a3, a4, a5, a6, a7, a8, a9, a10, a11] (.int x :: st) h = fk_ev d qX2_factsOf 7 [a0, a1, a2, .int x, a4, a5, a6, a7, a8, a9, a10, a11] st h) ∧
  (∀ (d : Nat) (a0 a1 a3 a4 a5 a6 a7 a8 a9 a10 a11 : Value) (x : Nat) (st : List Value) (h : fk_H), fk_ev d qX2_factsOf 7 [a0, a1, .ref x, a3, a4, a5, a6, a7, a8, a9, a10, a11] st h = fk_ev d qX2_factsOf 8 [a0, a1, .ref x, a3, a4, a5, a6, a7, a8, a9, a10, a11] (.ref x :: st) h) ∧
  (∀ (d : Nat) (L st : List Value) (N : Nat) (y : Nat → Nat → Int32) (l : Nat → Nat → Int64) (c : Nat), fk_at c 8 → fk_ev d qX2_factsOf 8 L (.ref c :: st) (fk_E N y l) = fk_ev d qX2_factsOf 11 L (.ref (fk_cr c 0) :: st) (fk_E N y l)) ∧
  (∀ (d : Nat) (a0 a1 a2 a4 a5 a6 a7 a8 a9 a10 a11 : Value) (x : Int32) (st : List Value) (h : fk_H), fk_ev d qX2_factsOf 11 [a0, a1, a2, .int x, a4, a5, a6, a7, a8, a9, a10, a11] st h = fk_ev d qX2_factsOf 12 [a0, a1, a2, .int x, a4, a5, a6, a7, a8, a9, a10, a11] (.int x :: st) h) ∧
  (∀ (d : Nat) (L st : List Value) (N : Nat) (y : Nat → Nat → Int32) (l : Nat → Nat → Int64) (c i : Nat), fk_at c 24 → i < (fk_shp c).2 → (fk_shp c).2 < 2 ^ 31 → fk_ev d qX2_factsOf 12 L (.int (nI i) :: .ref c :: st) (fk_E N y l) = fk_ev d qX2_factsOf 13 L (.ref (c + 2 + i) :: st) (fk_E N y l)) ∧
  (∀ (d : Nat) (L st : List Value) (N : Nat) (y : Nat → Nat → Int32) (l : Nat → Nat → Int64) (c : Nat), fk_at c 0 → fk_ev d qX2_factsOf 13 L (.ref c :: st) (fk_E N y l) = fk_ev d qX2_factsOf 16 L (.int (y c 11) :: st) (fk_E N y l)) ∧
  (∀ (d : Nat) (a0 a1 a2 a3 a4 a5 a6 a7 a8 a9 a10 a11 : Value) (x : Int32) (st : List Value) (h : fk_H), fk_ev d qX2_factsOf 16 [a0, a1, a2, a3, a4, a5, a6, a7, a8, a9, a10, a11] (.int x :: st) h = fk_ev d qX2_factsOf 18 [a0, a1, a2, a3, .int x, a5, a6, a7, a8, a9, a10, a11] st h) ∧
  (∀ (d : Nat) (a0 a1 a3 a4 a5 a6 a7 a8 a9 a10 a11 : Value) (x : Nat) (st : List Value) (h : fk_H), fk_ev d qX2_factsOf 18 [a0, a1, .ref x, a3, a4, a5, a6, a7, a8, a9, a10, a11] st h = fk_ev d qX2_factsOf 19 [a0, a1, .ref x, a3, a4, a5, a6, a7, a8, a9, a10, a11] (.ref x :: st) h) ∧
  (∀ (d : Nat) (L st : List Value) (N : Nat) (y : Nat → Nat → Int32) (l : Nat → Nat → Int64) (c : Nat), fk_at c 8 → fk_ev d qX2_factsOf 19 L (.ref c :: st) (fk_E N y l) = fk_ev d qX2_factsOf 22 L (.ref (fk_cr c 0) :: st) (fk_E N y l)) ∧
  (∀ (d : Nat) (a0 a1 a2 a4 a5 a6 a7 a8 a9 a10 a11 : Value) (x : Int32) (st : List Value) (h : fk_H), fk_ev d qX2_factsOf 22 [a0, a1, a2, .int x, a4, a5, a6, a7, a8, a9, a10, a11] st h = fk_ev d qX2_factsOf 23 [a0, a1, a2, .int x, a4, a5, a6, a7, a8, a9, a10, a11] (.int x :: st) h) ∧
  (∀ (d : Nat) (L st : List Value) (N : Nat) (y : Nat → Nat → Int32) (l : Nat → Nat → Int64) (c i : Nat), fk_at c 24 → i < (fk_shp c).2 → (fk_shp c).2 < 2 ^ 31 → fk_ev d qX2_factsOf 23 L (.int (nI i) :: .ref c :: st) (fk_E N y l) = fk_ev d qX2_factsOf 24 L (.ref (c + 2 + i) :: st) (fk_E N y l)) ∧
  (∀ (d : Nat) (L st : List Value) (N : Nat) (y : Nat → Nat → Int32) (l : Nat → Nat → Int64) (c : Nat), fk_at c 0 → fk_ev d qX2_factsOf 24 L (.ref c :: st) (fk_E N y l) = fk_ev d qX2_factsOf 27 L (.int (y c 12) :: st) (fk_E N y l)) ∧
  (∀ (d : Nat) (a0 a1 a2 a3 a4 a5 a6 a7 a8 a9 a10 a11 : Value) (x : Int32) (st : List Value) (h : fk_H), fk_ev d qX2_factsOf 27 [a0, a1, a2, a3, a4, a5, a6, a7, a8, a9, a10, a11] (.int x :: st) h = fk_ev d qX2_factsOf 29 [a0, a1, a2, a3, a4, .int x, a6, a7, a8, a9, a10, a11] st h) ∧
  (∀ (d : Nat) (L st : List Value) (h : fk_H), fk_ev d qX2_factsOf 29 L st h = fk_ev d qX2_factsOf 30 L (.int (nI 1) :: st) h) ∧
  (∀ (d : Nat) (a0 a1 a2 a3 a4 a5 a6 a7 a8 a9 a10 a11 : Value) (x : Int32) (st : List Value) (h : fk_H), fk_ev d qX2_factsOf 30 [a0, a1, a2, a3, a4, a5, a6, a7, a8, a9, a10, a11] (.int x :: st) h = fk_ev d qX2_factsOf 32 [a0, a1, a2, a3, a4, a5, .int x, a7, a8, a9, a10, a11] st h) ∧
  (∀ (d : Nat) (a1 a2 a3 a4 a5 a6 a7 a8 a9 a10 a11 : Value) (x : Nat) (st : List Value) (h : fk_H), fk_ev d qX2_factsOf 34 [.ref x, a1, a2, a3, a4, a5, a6, a7, a8, a9, a10, a11] st h = fk_ev d qX2_factsOf 35 [.ref x, a1, a2, a3, a4, a5, a6, a7, a8, a9, a10, a11] (.ref x :: st) h) ∧
  (∀ (d : Nat) (L st : List Value) (N : Nat) (y : Nat → Nat → Int32) (l : Nat → Nat → Int64), fk_ev d qX2_factsOf 35 L (.ref 241 :: st) (fk_E N y l) = fk_ev d qX2_factsOf 38 L (.int (y 241 2) :: st) (fk_E N y l)) ∧
  (∀ (d : Nat) (L : List Value) (x y : Int32) (st : List Value) (h : fk_H), fk_ev d qX2_factsOf 38 L (.int y :: .int x :: st) h = if y ≤ x then fk_ev d qX2_factsOf 211 L st h else fk_ev d qX2_factsOf 41 L st h) ∧
  (∀ (d : Nat) (a0 a1 a3 a4 a5 a6 a7 a8 a9 a10 a11 : Value) (x : Nat) (st : List Value) (h : fk_H), fk_ev d qX2_factsOf 41 [a0, a1, .ref x, a3, a4, a5, a6, a7, a8, a9, a10, a11] st h = fk_ev d qX2_factsOf 42 [a0, a1, .ref x, a3, a4, a5, a6, a7, a8, a9, a10, a11] (.ref x :: st) h) ∧
  (∀ (d : Nat) (L st : List Value) (N : Nat) (y : Nat → Nat → Int32) (l : Nat → Nat → Int64) (c : Nat), fk_at c 8 → fk_ev d qX2_factsOf 42 L (.ref c :: st) (fk_E N y l) = fk_ev d qX2_factsOf 45 L (.ref (fk_cr c 0) :: st) (fk_E N y l)) ∧
  (∀ (d : Nat) (a1 a2 a3 a4 a5 a6 a7 a8 a9 a10 a11 : Value) (x : Nat) (st : List Value) (h : fk_H), fk_ev d qX2_factsOf 45 [.ref x, a1, a2, a3, a4, a5, a6, a7, a8, a9, a10, a11] st h = fk_ev d qX2_factsOf 46 [.ref x, a1, a2, a3, a4, a5, a6, a7, a8, a9, a10, a11] (.ref x :: st) h) ∧
  (∀ (d : Nat) (L st : List Value) (N : Nat) (y : Nat → Nat → Int32) (l : Nat → Nat → Int64), fk_ev d qX2_factsOf 46 L (.ref 241 :: st) (fk_E N y l) = fk_ev d qX2_factsOf 49 L (.ref 242 :: st) (fk_E N y l)) ∧
  (∀ (d : Nat) (a0 a1 a2 a3 a4 a5 a7 a8 a9 a10 a11 : Value) (x : Int32) (st : List Value) (h : fk_H), fk_ev d qX2_factsOf 49 [a0, a1, a2, a3, a4, a5, .int x, a7, a8, a9, a10, a11] st h = fk_ev d qX2_factsOf 51 [a0, a1, a2, a3, a4, a5, .int x, a7, a8, a9, a10, a11] (.int x :: st) h) ∧
  (∀ (d : Nat) (L st : List Value) (N : Nat) (y : Nat → Nat → Int32) (l : Nat → Nat → Int64) (i : Nat), i < 5 → fk_ev d qX2_factsOf 51 L (.int (nI i) :: .ref 242 :: st) (fk_E N y l) = fk_ev d qX2_factsOf 52 L (.int (y 242 i) :: st) (fk_E N y l)) ∧
  (∀ (d : Nat) (L st : List Value) (N : Nat) (y : Nat → Nat → Int32) (l : Nat → Nat → Int64) (c i : Nat), fk_at c 24 → i < (fk_shp c).2 → (fk_shp c).2 < 2 ^ 31 → fk_ev d qX2_factsOf 52 L (.int (nI i) :: .ref c :: st) (fk_E N y l) = fk_ev d qX2_factsOf 53 L (.ref (c + 2 + i) :: st) (fk_E N y l)) ∧
  (∀ (d : Nat) (a0 a1 a2 a3 a4 a5 a6 a7 a8 a9 a10 a11 : Value) (x : Nat) (st : List Value) (h : fk_H), fk_ev d qX2_factsOf 53 [a0, a1, a2, a3, a4, a5, a6, a7, a8, a9, a10, a11] (.ref x :: st) h = fk_ev d qX2_factsOf 55 [a0, a1, a2, a3, a4, a5, a6, .ref x, a8, a9, a10, a11] st h) ∧
  (∀ (d : Nat) (a0 a1 a2 a3 a5 a6 a7 a8 a9 a10 a11 : Value) (x : Int32) (st : List Value) (h : fk_H), fk_ev d qX2_factsOf 55 [a0, a1, a2, a3, .int x, a5, a6, a7, a8, a9, a10, a11] st h = fk_ev d qX2_factsOf 57 [a0, a1, a2, a3, .int x, a5, a6, a7, a8, a9, a10, a11] (.int x :: st) h) ∧
  (∀ (d : Nat) (a0 a1 a2 a3 a4 a5 a6 a8 a9 a10 a11 : Value) (x : Nat) (st : List Value) (h : fk_H), fk_ev d qX2_factsOf 57 [a0, a1, a2, a3, a4, a5, a6, .ref x, a8, a9, a10, a11] st h = fk_ev d qX2_factsOf 59 [a0, a1, a2, a3, a4, a5, a6, .ref x, a8, a9, a10, a11] (.ref x :: st) h) ∧
  (∀ (d : Nat) (L st : List Value) (N : Nat) (y : Nat → Nat → Int32) (l : Nat → Nat → Int64) (c : Nat), fk_at c 0 → fk_ev d qX2_factsOf 59 L (.ref c :: st) (fk_E N y l) = fk_ev d qX2_factsOf 62 L (.int (y c 11) :: st) (fk_E N y l)) ∧
  (∀ (d : Nat) (L : List Value) (x y : Int32) (st : List Value) (h : fk_H), fk_ev d qX2_factsOf 62 L (.int y :: .int x :: st) h = fk_ev d qX2_factsOf 63 L (.int (x &&& y) :: st) h) ∧
  (∀ (d : Nat) (a0 a1 a2 a3 a4 a6 a7 a8 a9 a10 a11 : Value) (x : Int32) (st : List Value) (h : fk_H), fk_ev d qX2_factsOf 63 [a0, a1, a2, a3, a4, .int x, a6, a7, a8, a9, a10, a11] st h = fk_ev d qX2_factsOf 65 [a0, a1, a2, a3, a4, .int x, a6, a7, a8, a9, a10, a11] (.int x :: st) h) ∧
  (∀ (d : Nat) (a0 a1 a2 a3 a4 a5 a6 a8 a9 a10 a11 : Value) (x : Nat) (st : List Value) (h : fk_H), fk_ev d qX2_factsOf 65 [a0, a1, a2, a3, a4, a5, a6, .ref x, a8, a9, a10, a11] st h = fk_ev d qX2_factsOf 67 [a0, a1, a2, a3, a4, a5, a6, .ref x, a8, a9, a10, a11] (.ref x :: st) h) ∧
  (∀ (d : Nat) (L st : List Value) (N : Nat) (y : Nat → Nat → Int32) (l : Nat → Nat → Int64) (c : Nat), fk_at c 0 → fk_ev d qX2_factsOf 67 L (.ref c :: st) (fk_E N y l) = fk_ev d qX2_factsOf 70 L (.int (y c 12) :: st) (fk_E N y l)) ∧
  (∀ (d : Nat) (L : List Value) (x y : Int32) (st : List Value) (h : fk_H), fk_ev d qX2_factsOf 70 L (.int y :: .int x :: st) h = fk_ev d qX2_factsOf 71 L (.int (x ^^^ y) :: st) h) ∧
  (∀ (d : Nat) (L : List Value) (x y : Int32) (st : List Value) (h : fk_H), fk_ev d qX2_factsOf 71 L (.int y :: .int x :: st) h = fk_ev d qX2_factsOf 72 L (.int (x &&& y) :: st) h) ∧
  (∀ (d : Nat) (a0 a1 a2 a3 a4 a5 a6 a7 a8 a9 a10 a11 : Value) (x : Int32) (st : List Value) (h : fk_H), fk_ev d qX2_factsOf 72 [a0, a1, a2, a3, a4, a5, a6, a7, a8, a9, a10, a11] (.int x :: st) h = fk_ev d qX2_factsOf 74 [a0, a1, a2, a3, a4, a5, a6, a7, .int x, a9, a10, a11] st h) ∧
  (∀ (d : Nat) (a0 a1 a3 a4 a5 a6 a7 a8 a9 a10 a11 : Value) (x : Nat) (st : List Value) (h : fk_H), fk_ev d qX2_factsOf 74 [a0, a1, .ref x, a3, a4, a5, a6, a7, a8, a9, a10, a11] st h = fk_ev d qX2_factsOf 75 [a0, a1, .ref x, a3, a4, a5, a6, a7, a8, a9, a10, a11] (.ref x :: st) h) ∧
  (∀ (d : Nat) (L st : List Value) (N : Nat) (y : Nat → Nat → Int32) (l : Nat → Nat → Int64) (c : Nat), fk_at c 8 → fk_ev d qX2_factsOf 75 L (.ref c :: st) (fk_E N y l) = fk_ev d qX2_factsOf 78 L (.ref (fk_cr c 0) :: st) (fk_E N y l)) ∧
  (∀ (d : Nat) (a0 a1 a2 a4 a5 a6 a7 a8 a9 a10 a11 : Value) (x : Int32) (st : List Value) (h : fk_H), fk_ev d qX2_factsOf 78 [a0, a1, a2, .int x, a4, a5, a6, a7, a8, a9, a10, a11] st h = fk_ev d qX2_factsOf 79 [a0, a1, a2, .int x, a4, a5, a6, a7, a8, a9, a10, a11] (.int x :: st) h) ∧
  (∀ (d : Nat) (a0 a1 a2 a3 a4 a5 a6 a8 a9 a10 a11 : Value) (x : Nat) (st : List Value) (h : fk_H), fk_ev d qX2_factsOf 79 [a0, a1, a2, a3, a4, a5, a6, .ref x, a8, a9, a10, a11] st h = fk_ev d qX2_factsOf 81 [a0, a1, a2, a3, a4, a5, a6, .ref x, a8, a9, a10, a11] (.ref x :: st) h) ∧
  (∀ (d : Nat) (L st : List Value) (N : Nat) (y : Nat → Nat → Int32) (l : Nat → Nat → Int64) (c : Nat), fk_at c 0 → fk_ev d qX2_factsOf 81 L (.ref c :: st) (fk_E N y l) = fk_ev d qX2_factsOf 84 L (.int (y c 0) :: st) (fk_E N y l)) ∧
  (∀ (d : Nat) (L : List Value) (x y : Int32) (w0 : Value) (h : fk_H), fk_ev d qX2_factsOf 84 L (.int y :: .int x :: [w0]) h = fk_ev d qX2_factsOf 87 L (.int (if y < x then y else x) :: [w0]) h) ∧
  (∀ (d : Nat) (L st : List Value) (N : Nat) (y : Nat → Nat → Int32) (l : Nat → Nat → Int64) (c i : Nat), fk_at c 24 → i < (fk_shp c).2 → (fk_shp c).2 < 2 ^ 31 → fk_ev d qX2_factsOf 87 L (.int (nI i) :: .ref c :: st) (fk_E N y l) = fk_ev d qX2_factsOf 88 L (.ref (c + 2 + i) :: st) (fk_E N y l)) ∧
  (∀ (d : Nat) (a0 a1 a2 a3 a4 a5 a6 a7 a8 a9 a10 a11 : Value) (x : Nat) (st : List Value) (h : fk_H), fk_ev d qX2_factsOf 88 [a0, a1, a2, a3, a4, a5, a6, a7, a8, a9, a10, a11] (.ref x :: st) h = fk_ev d qX2_factsOf 90 [a0, a1, a2, a3, a4, a5, a6, a7, a8, .ref x, a10, a11] st h) ∧
  (∀ (d : Nat) (a0 a1 a3 a4 a5 a6 a7 a8 a9 a10 a11 : Value) (x : Nat) (st : List Value) (h : fk_H), fk_ev d qX2_factsOf 90 [a0, a1, .ref x, a3, a4, a5, a6, a7, a8, a9, a10, a11] st h = fk_ev d qX2_factsOf 91 [a0, a1, .ref x, a3, a4, a5, a6, a7, a8, a9, a10, a11] (.ref x :: st) h) ∧
  (∀ (d : Nat) (L st : List Value) (N : Nat) (y : Nat → Nat → Int32) (l : Nat → Nat → Int64) (c : Nat), fk_at c 8 → fk_ev d qX2_factsOf 91 L (.ref c :: st) (fk_E N y l) = fk_ev d qX2_factsOf 94 L (.ref (fk_cr c 0) :: st) (fk_E N y l)) ∧
  (∀ (d : Nat) (a0 a1 a2 a4 a5 a6 a7 a8 a9 a10 a11 : Value) (x : Int32) (st : List Value) (h : fk_H), fk_ev d qX2_factsOf 94 [a0, a1, a2, .int x, a4, a5, a6, a7, a8, a9, a10, a11] st h = fk_ev d qX2_factsOf 95 [a0, a1, a2, .int x, a4, a5, a6, a7, a8, a9, a10, a11] (.int x :: st) h) ∧
  (∀ (d : Nat) (a0 a1 a2 a3 a4 a5 a6 a8 a9 a10 a11 : Value) (x : Nat) (st : List Value) (h : fk_H), fk_ev d qX2_factsOf 95 [a0, a1, a2, a3, a4, a5, a6, .ref x, a8, a9, a10, a11] st h = fk_ev d qX2_factsOf 97 [a0, a1, a2, a3, a4, a5, a6, .ref x, a8, a9, a10, a11] (.ref x :: st) h) ∧
  (∀ (d : Nat) (L st : List Value) (N : Nat) (y : Nat → Nat → Int32) (l : Nat → Nat → Int64) (c : Nat), fk_at c 0 → fk_ev d qX2_factsOf 97 L (.ref c :: st) (fk_E N y l) = fk_ev d qX2_factsOf 100 L (.int (y c 0) :: st) (fk_E N y l)) ∧
  (∀ (d : Nat) (L : List Value) (x y : Int32) (w0 : Value) (h : fk_H), fk_ev d qX2_factsOf 100 L (.int y :: .int x :: [w0]) h = fk_ev d qX2_factsOf 103 L (.int (if x < y then y else x) :: [w0]) h) ∧
  (∀ (d : Nat) (L st : List Value) (N : Nat) (y : Nat → Nat → Int32) (l : Nat → Nat → Int64) (c i : Nat), fk_at c 24 → i < (fk_shp c).2 → (fk_shp c).2 < 2 ^ 31 → fk_ev d qX2_factsOf 103 L (.int (nI i) :: .ref c :: st) (fk_E N y l) = fk_ev d qX2_factsOf 104 L (.ref (c + 2 + i) :: st) (fk_E N y l)) ∧
  (∀ (d : Nat) (a0 a1 a2 a3 a4 a5 a6 a7 a8 a9 a10 a11 : Value) (x : Nat) (st : List Value) (h : fk_H), fk_ev d qX2_factsOf 104 [a0, a1, a2, a3, a4, a5, a6, a7, a8, a9, a10, a11] (.ref x :: st) h = fk_ev d qX2_factsOf 106 [a0, a1, a2, a3, a4, a5, a6, a7, a8, a9, .ref x, a11] st h) ∧
  (∀ (d : Nat) (a0 a1 a2 a3 a4 a5 a6 a7 a9 a10 a11 : Value) (x : Int32) (st : List Value) (h : fk_H), fk_ev d qX2_factsOf 106 [a0, a1, a2, a3, a4, a5, a6, a7, .int x, a9, a10, a11] st h = fk_ev d qX2_factsOf 108 [a0, a1, a2, a3, a4, a5, a6, a7, .int x, a9, a10, a11] (.int x :: st) h) ∧
  (∀ (d : Nat) (L : List Value) (x : Int32) (st : List Value) (h : fk_H), fk_ev d qX2_factsOf 108 L (.int x :: st) h = if ¬ x = nI 0 then fk_ev d qX2_factsOf 115 L st h else fk_ev d qX2_factsOf 111 L st h) ∧
  (∀ (d : Nat) (L st : List Value) (h : fk_H), fk_ev d qX2_factsOf 111 L st h = fk_ev d qX2_factsOf 112 L (.int (nI 0) :: st) h) ∧
  (∀ (d : Nat) (L st : List Value) (h : fk_H), fk_ev d qX2_factsOf 112 L st h = fk_ev d qX2_factsOf 130 L st h) ∧
  (∀ (d : Nat) (a0 a1 a2 a3 a4 a5 a6 a7 a9 a10 a11 : Value) (x : Int32) (st : List Value) (h : fk_H), fk_ev d qX2_factsOf 115 [a0, a1, a2, a3, a4, a5, a6, a7, .int x, a9, a10, a11] st h = fk_ev d qX2_factsOf 117 [a0, a1, a2, a3, a4, a5, a6, a7, .int x, a9, a10, a11] (.int x :: st) h) ∧
  (∀ (d : Nat) (a0 a2 a3 a4 a5 a6 a7 a8 a9 a10 a11 : Value) (x : Nat) (st : List Value) (h : fk_H), fk_ev d qX2_factsOf 117 [a0, .ref x, a2, a3, a4, a5, a6, a7, a8, a9, a10, a11] st h = fk_ev d qX2_factsOf 118 [a0, .ref x, a2, a3, a4, a5, a6, a7, a8, a9, a10, a11] (.ref x :: st) h) ∧
  (∀ (d : Nat) (a0 a1 a2 a3 a4 a5 a6 a7 a8 a10 a11 : Value) (x : Nat) (st : List Value) (h : fk_H), fk_ev d qX2_factsOf 118 [a0, a1, a2, a3, a4, a5, a6, a7, a8, .ref x, a10, a11] st h = fk_ev d qX2_factsOf 120 [a0, a1, a2, a3, a4, a5, a6, a7, a8, .ref x, a10, a11] (.ref x :: st) h) ∧
  (∀ (d : Nat) (a0 a1 a2 a3 a4 a5 a6 a7 a8 a9 a11 : Value) (x : Nat) (st : List Value) (h : fk_H), fk_ev d qX2_factsOf 120 [a0, a1, a2, a3, a4, a5, a6, a7, a8, a9, .ref x, a11] st h = fk_ev d qX2_factsOf 122 [a0, a1, a2, a3, a4, a5, a6, a7, a8, a9, .ref x, a11] (.ref x :: st) h) ∧
  (∀ (d : Nat) (a0 a1 a2 a3 a4 a5 a6 a7 a9 a10 a11 : Value) (x : Int32) (st : List Value) (h : fk_H), fk_ev d qX2_factsOf 122 [a0, a1, a2, a3, a4, a5, a6, a7, .int x, a9, a10, a11] st h = fk_ev d qX2_factsOf 124 [a0, a1, a2, a3, a4, a5, a6, a7, .int x, a9, a10, a11] (.int x :: st) h) ∧
  (∀ (d : Nat) (L : List Value) (x0 : Nat) (x1 : Nat) (x2 : Int32) (w0 : Value) (N : Nat) (y : Nat → Nat → Int32) (l : Nat → Nat → Int64), fk_ev (d + 1) qX2_factsOf 124 L (.int x2 :: .ref x1 :: .ref x0 :: .ref 238 :: [w0]) (fk_E N y l) = (fk_ev d qX6_believed 0 [.ref 238, .ref x0, .ref x1, .int x2, .null, .null] [] (fk_E N y l)).bind fun o => fk_ev (d + 1) qX2_factsOf 127 L (o.1.toList ++ [w0]) o.2) ∧
  (∀ (d : Nat) (L st : List Value) (h : fk_H), fk_ev d qX2_factsOf 127 L st h = fk_ev d qX2_factsOf 128 L (.int ((-1 : Int32)) :: st) h) ∧
  (∀ (d : Nat) (L : List Value) (x y : Int32) (st : List Value) (h : fk_H), fk_ev d qX2_factsOf 128 L (.int y :: .int x :: st) h = fk_ev d qX2_factsOf 129 L (.int (x ^^^ y) :: st) h) ∧
  (∀ (d : Nat) (L : List Value) (x y : Int32) (st : List Value) (h : fk_H), fk_ev d qX2_factsOf 129 L (.int y :: .int x :: st) h = fk_ev d qX2_factsOf 130 L (.int (x &&& y) :: st) h) ∧
  (∀ (d : Nat) (a0 a1 a2 a3 a4 a5 a6 a7 a8 a9 a10 a11 : Value) (x : Int32) (st : List Value) (h : fk_H), fk_ev d qX2_factsOf 130 [a0, a1, a2, a3, a4, a5, a6, a7, a8, a9, a10, a11] (.int x :: st) h = fk_ev d qX2_factsOf 132 [a0, a1, a2, a3, a4, a5, a6, a7, a8, a9, a10, .int x] st h) ∧
  (∀ (d : Nat) (a0 a1 a2 a4 a5 a6 a7 a8 a9 a10 a11 : Value) (x : Int32) (st : List Value) (h : fk_H), fk_ev d qX2_factsOf 132 [a0, a1, a2, .int x, a4, a5, a6, a7, a8, a9, a10, a11] st h = fk_ev d qX2_factsOf 133 [a0, a1, a2, .int x, a4, a5, a6, a7, a8, a9, a10, a11] (.int x :: st) h) ∧
  (∀ (d : Nat) (a0 a1 a2 a3 a4 a5 a6 a8 a9 a10 a11 : Value) (x : Nat) (st : List Value) (h : fk_H), fk_ev d qX2_factsOf 133 [a0, a1, a2, a3, a4, a5, a6, .ref x, a8, a9, a10, a11] st h = fk_ev d qX2_factsOf 135 [a0, a1, a2, a3, a4, a5, a6, .ref x, a8, a9, a10, a11] (.ref x :: st) h) ∧
  (∀ (d : Nat) (L st : List Value) (N : Nat) (y : Nat → Nat → Int32) (l : Nat → Nat → Int64) (c : Nat), fk_at c 0 → fk_ev d qX2_factsOf 135 L (.ref c :: st) (fk_E N y l) = fk_ev d qX2_factsOf 138 L (.int (y c 0) :: st) (fk_E N y l)) ∧
  (∀ (d : Nat) (L : List Value) (x y : Int32) (st : List Value) (h : fk_H), fk_ev d qX2_factsOf 138 L (.int y :: .int x :: st) h = if y ≤ x then fk_ev d qX2_factsOf 159 L st h else fk_ev d qX2_factsOf 141 L st h) ∧
  (∀ (d : Nat) (a0 a1 a2 a3 a4 a6 a7 a8 a9 a10 a11 : Value) (x : Int32) (st : List Value) (h : fk_H), fk_ev d qX2_factsOf 141 [a0, a1, a2, a3, a4, .int x, a6, a7, a8, a9, a10, a11] st h = fk_ev d qX2_factsOf 143 [a0, a1, a2, a3, a4, .int x, a6, a7, a8, a9, a10, a11] (.int x :: st) h) ∧
  (∀ (d : Nat) (a0 a1 a2 a3 a4 a5 a6 a8 a9 a10 a11 : Value) (x : Nat) (st : List Value) (h : fk_H), fk_ev d qX2_factsOf 143 [a0, a1, a2, a3, a4, a5, a6, .ref x, a8, a9, a10, a11] st h = fk_ev d qX2_factsOf 145 [a0, a1, a2, a3, a4, a5, a6, .ref x, a8, a9, a10, a11] (.ref x :: st) h) ∧
  (∀ (d : Nat) (L st : List Value) (N : Nat) (y : Nat → Nat → Int32) (l : Nat → Nat → Int64) (c : Nat), fk_at c 0 → fk_ev d qX2_factsOf 145 L (.ref c :: st) (fk_E N y l) = fk_ev d qX2_factsOf 148 L (.int (y c 12) :: st) (fk_E N y l)) ∧
  (∀ (d : Nat) (a0 a1 a2 a3 a5 a6 a7 a8 a9 a10 a11 : Value) (x : Int32) (st : List Value) (h : fk_H), fk_ev d qX2_factsOf 148 [a0, a1, a2, a3, .int x, a5, a6, a7, a8, a9, a10, a11] st h = fk_ev d qX2_factsOf 150 [a0, a1, a2, a3, .int x, a5, a6, a7, a8, a9, a10, a11] (.int x :: st) h) ∧
  (∀ (d : Nat) (L st : List Value) (h : fk_H), fk_ev d qX2_factsOf 150 L st h = fk_ev d qX2_factsOf 151 L (.int ((-1 : Int32)) :: st) h) ∧
  (∀ (d : Nat) (L : List Value) (x y : Int32) (st : List Value) (h : fk_H), fk_ev d qX2_factsOf 151 L (.int y :: .int x :: st) h = fk_ev d qX2_factsOf 152 L (.int (x ^^^ y) :: st) h) ∧
  (∀ (d : Nat) (L : List Value) (x y : Int32) (st : List Value) (h : fk_H), fk_ev d qX2_factsOf 152 L (.int y :: .int x :: st) h = fk_ev d qX2_factsOf 153 L (.int (x &&& y) :: st) h) ∧
  (∀ (d : Nat) (L : List Value) (x y : Int32) (st : List Value) (h : fk_H), fk_ev d qX2_factsOf 153 L (.int y :: .int x :: st) h = fk_ev d qX2_factsOf 154 L (.int (x ||| y) :: st) h) ∧
  (∀ (d : Nat) (a0 a1 a2 a3 a4 a5 a6 a7 a8 a9 a10 a11 : Value) (x : Int32) (st : List Value) (h : fk_H), fk_ev d qX2_factsOf 154 [a0, a1, a2, a3, a4, a5, a6, a7, a8, a9, a10, a11] (.int x :: st) h = fk_ev d qX2_factsOf 156 [a0, a1, a2, a3, a4, .int x, a6, a7, a8, a9, a10, a11] st h) ∧
  (∀ (d : Nat) (L st : List Value) (h : fk_H), fk_ev d qX2_factsOf 156 L st h = fk_ev d qX2_factsOf 177 L st h) ∧
  (∀ (d : Nat) (a0 a1 a2 a3 a4 a5 a6 a8 a9 a10 a11 : Value) (x : Nat) (st : List Value) (h : fk_H), fk_ev d qX2_factsOf 159 [a0, a1, a2, a3, a4, a5, a6, .ref x, a8, a9, a10, a11] st h = fk_ev d qX2_factsOf 161 [a0, a1, a2, a3, a4, a5, a6, .ref x, a8, a9, a10, a11] (.ref x :: st) h) ∧
  (∀ (d : Nat) (L st : List Value) (N : Nat) (y : Nat → Nat → Int32) (l : Nat → Nat → Int64) (c : Nat), fk_at c 0 → fk_ev d qX2_factsOf 161 L (.ref c :: st) (fk_E N y l) = fk_ev d qX2_factsOf 164 L (.int (y c 12) :: st) (fk_E N y l)) ∧
  (∀ (d : Nat) (a0 a1 a2 a3 a4 a6 a7 a8 a9 a10 a11 : Value) (x : Int32) (st : List Value) (h : fk_H), fk_ev d qX2_factsOf 164 [a0, a1, a2, a3, a4, .int x, a6, a7, a8, a9, a10, a11] st h = fk_ev d qX2_factsOf 166 [a0, a1, a2, a3, a4, .int x, a6, a7, a8, a9, a10, a11] (.int x :: st) h) ∧
  (∀ (d : Nat) (a0 a1 a2 a3 a4 a5 a6 a8 a9 a10 a11 : Value) (x : Nat) (st : List Value) (h : fk_H), fk_ev d qX2_factsOf 166 [a0, a1, a2, a3, a4, a5, a6, .ref x, a8, a9, a10, a11] st h = fk_ev d qX2_factsOf 168 [a0, a1, a2, a3, a4, a5, a6, .ref x, a8, a9, a10, a11] (.ref x :: st) h) ∧
  (∀ (d : Nat) (L st : List Value) (N : Nat) (y : Nat → Nat → Int32) (l : Nat → Nat → Int64) (c : Nat), fk_at c 0 → fk_ev d qX2_factsOf 168 L (.ref c :: st) (fk_E N y l) = fk_ev d qX2_factsOf 171 L (.int (y c 11) :: st) (fk_E N y l)) ∧
  (∀ (d : Nat) (L st : List Value) (h : fk_H), fk_ev d qX2_factsOf 171 L st h = fk_ev d qX2_factsOf 172 L (.int ((-1 : Int32)) :: st) h) ∧
  (∀ (d : Nat) (L : List Value) (x y : Int32) (st : List Value) (h : fk_H), fk_ev d qX2_factsOf 172 L (.int y :: .int x :: st) h = fk_ev d qX2_factsOf 173 L (.int (x ^^^ y) :: st) h) ∧
  (∀ (d : Nat) (L : List Value) (x y : Int32) (st : List Value) (h : fk_H), fk_ev d qX2_factsOf 173 L (.int y :: .int x :: st) h = fk_ev d qX2_factsOf 174 L (.int (x &&& y) :: st) h) ∧
  (∀ (d : Nat) (L : List Value) (x y : Int32) (st : List Value) (h : fk_H), fk_ev d qX2_factsOf 174 L (.int y :: .int x :: st) h = fk_ev d qX2_factsOf 175 L (.int (x ||| y) :: st) h) ∧
  (∀ (d : Nat) (a0 a1 a2 a3 a4 a5 a6 a7 a8 a9 a10 a11 : Value) (x : Int32) (st : List Value) (h : fk_H), fk_ev d qX2_factsOf 175 [a0, a1, a2, a3, a4, a5, a6, a7, a8, a9, a10, a11] (.int x :: st) h = fk_ev d qX2_factsOf 177 [a0, a1, a2, a3, a4, .int x, a6, a7, a8, a9, a10, a11] st h) ∧
  (∀ (d : Nat) (a0 a1 a2 a3 a5 a6 a7 a8 a9 a10 a11 : Value) (x : Int32) (st : List Value) (h : fk_H), fk_ev d qX2_factsOf 177 [a0, a1, a2, a3, .int x, a5, a6, a7, a8, a9, a10, a11] st h = fk_ev d qX2_factsOf 179 [a0, a1, a2, a3, .int x, a5, a6, a7, a8, a9, a10, a11] (.int x :: st) h) ∧
  (∀ (d : Nat) (a0 a1 a2 a3 a4 a5 a6 a8 a9 a10 a11 : Value) (x : Nat) (st : List Value) (h : fk_H), fk_ev d qX2_factsOf 179 [a0, a1, a2, a3, a4, a5, a6, .ref x, a8, a9, a10, a11] st h = fk_ev d qX2_factsOf 181 [a0, a1, a2, a3, a4, a5, a6, .ref x, a8, a9, a10, a11] (.ref x :: st) h) ∧
  (∀ (d : Nat) (L st : List Value) (N : Nat) (y : Nat → Nat → Int32) (l : Nat → Nat → Int64) (c : Nat), fk_at c 0 → fk_ev d qX2_factsOf 181 L (.ref c :: st) (fk_E N y l) = fk_ev d qX2_factsOf 184 L (.int (y c 11) :: st) (fk_E N y l)) ∧
  (∀ (d : Nat) (L : List Value) (x y : Int32) (st : List Value) (h : fk_H), fk_ev d qX2_factsOf 184 L (.int y :: .int x :: st) h = fk_ev d qX2_factsOf 185 L (.int (x ||| y) :: st) h) ∧
  (∀ (d : Nat) (a0 a1 a2 a3 a4 a5 a6 a7 a8 a9 a10 : Value) (x : Int32) (st : List Value) (h : fk_H), fk_ev d qX2_factsOf 185 [a0, a1, a2, a3, a4, a5, a6, a7, a8, a9, a10, .int x] st h = fk_ev d qX2_factsOf 187 [a0, a1, a2, a3, a4, a5, a6, a7, a8, a9, a10, .int x] (.int x :: st) h) ∧
  (∀ (d : Nat) (L st : List Value) (h : fk_H), fk_ev d qX2_factsOf 187 L st h = fk_ev d qX2_factsOf 188 L (.int ((-1 : Int32)) :: st) h) ∧
  (∀ (d : Nat) (L : List Value) (x y : Int32) (st : List Value) (h : fk_H), fk_ev d qX2_factsOf 188 L (.int y :: .int x :: st) h = fk_ev d qX2_factsOf 189 L (.int (x ^^^ y) :: st) h) ∧
  (∀ (d : Nat) (L : List Value) (x y : Int32) (st : List Value) (h : fk_H), fk_ev d qX2_factsOf 189 L (.int y :: .int x :: st) h = fk_ev d qX2_factsOf 190 L (.int (x &&& y) :: st) h) ∧
  (∀ (d : Nat) (a0 a1 a2 a3 a4 a5 a6 a7 a8 a9 a10 a11 : Value) (x : Int32) (st : List Value) (h : fk_H), fk_ev d qX2_factsOf 190 [a0, a1, a2, a3, a4, a5, a6, a7, a8, a9, a10, a11] (.int x :: st) h = fk_ev d qX2_factsOf 192 [a0, a1, a2, a3, .int x, a5, a6, a7, a8, a9, a10, a11] st h) ∧
  (∀ (d : Nat) (a0 a1 a2 a3 a4 a6 a7 a8 a9 a10 a11 : Value) (x : Int32) (st : List Value) (h : fk_H), fk_ev d qX2_factsOf 192 [a0, a1, a2, a3, a4, .int x, a6, a7, a8, a9, a10, a11] st h = fk_ev d qX2_factsOf 194 [a0, a1, a2, a3, a4, .int x, a6, a7, a8, a9, a10, a11] (.int x :: st) h) ∧
  (∀ (d : Nat) (a0 a1 a2 a3 a5 a6 a7 a8 a9 a10 a11 : Value) (x : Int32) (st : List Value) (h : fk_H), fk_ev d qX2_factsOf 194 [a0, a1, a2, a3, .int x, a5, a6, a7, a8, a9, a10, a11] st h = fk_ev d qX2_factsOf 196 [a0, a1, a2, a3, .int x, a5, a6, a7, a8, a9, a10, a11] (.int x :: st) h) ∧
  (∀ (d : Nat) (L : List Value) (x y : Int32) (st : List Value) (h : fk_H), fk_ev d qX2_factsOf 196 L (.int y :: .int x :: st) h = fk_ev d qX2_factsOf 197 L (.int (x &&& y) :: st) h) ∧
  (∀ (d : Nat) (a0 a1 a2 a3 a4 a5 a6 a7 a8 a9 a10 a11 : Value) (x : Int32) (st : List Value) (h : fk_H), fk_ev d qX2_factsOf 197 [a0, a1, a2, a3, a4, a5, a6, a7, a8, a9, a10, a11] (.int x :: st) h = fk_ev d qX2_factsOf 199 [a0, a1, a2, a3, a4, .int x, a6, a7, a8, a9, a10, a11] st h) ∧
  (∀ (d : Nat) (a0 a1 a2 a3 a4 a5 a6 a7 a8 a10 a11 : Value) (x : Nat) (st : List Value) (h : fk_H), fk_ev d qX2_factsOf 199 [a0, a1, a2, a3, a4, a5, a6, a7, a8, .ref x, a10, a11] st h = fk_ev d qX2_factsOf 201 [a0, a1, a2, a3, a4, a5, a6, a7, a8, .ref x, a10, a11] (.ref x :: st) h) ∧
  (∀ (d : Nat) (L st : List Value) (N : Nat) (y : Nat → Nat → Int32) (l : Nat → Nat → Int64) (c : Nat), fk_at c 0 → fk_ev d qX2_factsOf 201 L (.ref c :: st) (fk_E N y l) = fk_ev d qX2_factsOf 204 L (.int (y c 0) :: st) (fk_E N y l)) ∧
  (∀ (d : Nat) (a0 a1 a2 a3 a4 a5 a6 a7 a8 a9 a10 a11 : Value) (x : Int32) (st : List Value) (h : fk_H), fk_ev d qX2_factsOf 204 [a0, a1, a2, a3, a4, a5, a6, a7, a8, a9, a10, a11] (.int x :: st) h = fk_ev d qX2_factsOf 205 [a0, a1, a2, .int x, a4, a5, a6, a7, a8, a9, a10, a11] st h) ∧
  (∀ (d : Nat) (a0 a1 a2 a3 a4 a5 a7 a8 a9 a10 a11 : Value) (x : Int32) (st : List Value) (h : fk_H), fk_ev d qX2_factsOf 205 [a0, a1, a2, a3, a4, a5, .int x, a7, a8, a9, a10, a11] st h = fk_ev d qX2_factsOf 208 [a0, a1, a2, a3, a4, a5, .int (x + nI 1), a7, a8, a9, a10, a11] st h) ∧
  (∀ (d : Nat) (L st : List Value) (h : fk_H), fk_ev d qX2_factsOf 208 L st h = fk_ev d qX2_factsOf 32 L st h) ∧
  (∀ (d : Nat) (a0 a1 a2 a3 a5 a6 a7 a8 a9 a10 a11 : Value) (x : Int32) (st : List Value) (h : fk_H), fk_ev d qX2_factsOf 211 [a0, a1, a2, a3, .int x, a5, a6, a7, a8, a9, a10, a11] st h = fk_ev d qX2_factsOf 213 [a0, a1, a2, a3, .int x, a5, a6, a7, a8, a9, a10, a11] (.int x :: st) h) ∧
  (∀ (d : Nat) (L : List Value) (x0 : Int32)  (h : fk_H), fk_ev (d + 1) qX2_factsOf 213 L (.int x0 :: []) h = (fk_ev d qJ6_bitCount_0f7a4 0 [.int x0] [] h).bind fun o => fk_ev (d + 1) qX2_factsOf 216 L (o.1.toList ++ []) o.2) ∧
  (∀ (d : Nat) (L : List Value) (x : Int32) (h : fk_H), fk_ev d qX2_factsOf 216 L [.int x] h = some (some (.int x), h)) := ⟨fun d a1 a2 a3 a4 a5 a6 a7 a8 a9 a10 a11 x st h => fk_w_aloadn 0 [.ref x, a1, a2, a3, a4, a5, a6, a7, a8, a9, a10, a11] dX2_factsOf_0 rfl,
  fun d L st N y l => fk_g_getC rfl lf_2_9 (by decide) rfl dX2_factsOf_1 fk_at_241,
  fun d L st h => fk_w_iconst dX2_factsOf_4 (by decide),
  fun d L st N y l i hi => fk_g_iald fk_at_242 fk_ln_242 (by decide) dX2_factsOf_5 hi,
  fun d a0 a1 a2 a3 a4 a5 a6 a7 a8 a9 a10 a11 x st h => fk_w_istoren 3 12 [] [a0, a1, a2, a3, a4, a5, a6, a7, a8, a9, a10, a11] [a0, a1, a2, .int x, a4, a5, a6, a7, a8, a9, a10, a11] dX2_factsOf_6 rfl rfl (by decide) rfl,
  fun d a0 a1 a3 a4 a5 a6 a7 a8 a9 a10 a11 x st h => fk_w_aloadn 2 [a0, a1, .ref x, a3, a4, a5, a6, a7, a8, a9, a10, a11] dX2_factsOf_7 rfl,
  fun d L st N y l c hc => fk_g_getC rfl lf_2_37 (by decide) rfl dX2_factsOf_8 hc,
  fun d a0 a1 a2 a4 a5 a6 a7 a8 a9 a10 a11 x st h => fk_w_iloadn 3 [a0, a1, a2, .int x, a4, a5, a6, a7, a8, a9, a10, a11] dX2_factsOf_11 rfl,
  fun d L st N y l c i hc hi hl => fk_h_aald dX2_factsOf_12 hc hi hl,
  fun d L st N y l c hc => fk_g_getI rfl lf_2_60 (by decide) dX2_factsOf_13 hc,
  fun d a0 a1 a2 a3 a4 a5 a6 a7 a8 a9 a10 a11 x st h => fk_w_istore 4 12 [] [a0, a1, a2, a3, a4, a5, a6, a7, a8, a9, a10, a11] [a0, a1, a2, a3, .int x, a5, a6, a7, a8, a9, a10, a11] dX2_factsOf_16 rfl rfl (by decide) rfl,
  fun d a0 a1 a3 a4 a5 a6 a7 a8 a9 a10 a11 x st h => fk_w_aloadn 2 [a0, a1, .ref x, a3, a4, a5, a6, a7, a8, a9, a10, a11] dX2_factsOf_18 rfl,
  fun d L st N y l c hc => fk_g_getC rfl lf_2_37 (by decide) rfl dX2_factsOf_19 hc,
  fun d a0 a1 a2 a4 a5 a6 a7 a8 a9 a10 a11 x st h => fk_w_iloadn 3 [a0, a1, a2, .int x, a4, a5, a6, a7, a8, a9, a10, a11] dX2_factsOf_22 rfl,
  fun d L st N y l c i hc hi hl => fk_h_aald dX2_factsOf_23 hc hi hl,
  fun d L st N y l c hc => fk_g_getI rfl lf_2_63 (by decide) dX2_factsOf_24 hc,
  fun d a0 a1 a2 a3 a4 a5 a6 a7 a8 a9 a10 a11 x st h => fk_w_istore 5 12 [] [a0, a1, a2, a3, a4, a5, a6, a7, a8, a9, a10, a11] [a0, a1, a2, a3, a4, .int x, a6, a7, a8, a9, a10, a11] dX2_factsOf_27 rfl rfl (by decide) rfl,
  fun d L st h => fk_w_iconst dX2_factsOf_29 (by decide),
  fun d a0 a1 a2 a3 a4 a5 a6 a7 a8 a9 a10 a11 x st h => fk_w_istore 6 12 [] [a0, a1, a2, a3, a4, a5, a6, a7, a8, a9, a10, a11] [a0, a1, a2, a3, a4, a5, .int x, a7, a8, a9, a10, a11] dX2_factsOf_30 rfl rfl (by decide) rfl,
  fun d a1 a2 a3 a4 a5 a6 a7 a8 a9 a10 a11 x st h => fk_w_aloadn 0 [.ref x, a1, a2, a3, a4, a5, a6, a7, a8, a9, a10, a11] dX2_factsOf_34 rfl,
  fun d L st N y l => fk_g_getI rfl lf_2_18 (by decide) dX2_factsOf_35 fk_at_241,
  fun d L x y st h => fk_r_icmp_ge dX2_factsOf_38 (by decide),
  fun d a0 a1 a3 a4 a5 a6 a7 a8 a9 a10 a11 x st h => fk_w_aloadn 2 [a0, a1, .ref x, a3, a4, a5, a6, a7, a8, a9, a10, a11] dX2_factsOf_41 rfl,
  fun d L st N y l c hc => fk_g_getC rfl lf_2_37 (by decide) rfl dX2_factsOf_42 hc,
  fun d a1 a2 a3 a4 a5 a6 a7 a8 a9 a10 a11 x st h => fk_w_aloadn 0 [.ref x, a1, a2, a3, a4, a5, a6, a7, a8, a9, a10, a11] dX2_factsOf_45 rfl,
  fun d L st N y l => fk_g_getC rfl lf_2_9 (by decide) rfl dX2_factsOf_46 fk_at_241,
  fun d a0 a1 a2 a3 a4 a5 a7 a8 a9 a10 a11 x st h => fk_w_iload 6 [a0, a1, a2, a3, a4, a5, .int x, a7, a8, a9, a10, a11] dX2_factsOf_49 rfl,
  fun d L st N y l i hi => fk_g_iald fk_at_242 fk_ln_242 (by decide) dX2_factsOf_51 hi,
  fun d L st N y l c i hc hi hl => fk_h_aald dX2_factsOf_52 hc hi hl,
  fun d a0 a1 a2 a3 a4 a5 a6 a7 a8 a9 a10 a11 x st h => fk_w_astore 7 12 [] [a0, a1, a2, a3, a4, a5, a6, a7, a8, a9, a10, a11] [a0, a1, a2, a3, a4, a5, a6, .ref x, a8, a9, a10, a11] dX2_factsOf_53 rfl rfl (by decide) rfl,
  fun d a0 a1 a2 a3 a5 a6 a7 a8 a9 a10 a11 x st h => fk_w_iload 4 [a0, a1, a2, a3, .int x, a5, a6, a7, a8, a9, a10, a11] dX2_factsOf_55 rfl,
  fun d a0 a1 a2 a3 a4 a5 a6 a8 a9 a10 a11 x st h => fk_w_aload 7 [a0, a1, a2, a3, a4, a5, a6, .ref x, a8, a9, a10, a11] dX2_factsOf_57 rfl,
  fun d L st N y l c hc => fk_g_getI rfl lf_2_60 (by decide) dX2_factsOf_59 hc,
  fun d L x y st h => fk_r_iand dX2_factsOf_62,
  fun d a0 a1 a2 a3 a4 a6 a7 a8 a9 a10 a11 x st h => fk_w_iload 5 [a0, a1, a2, a3, a4, .int x, a6, a7, a8, a9, a10, a11] dX2_factsOf_63 rfl,
  fun d a0 a1 a2 a3 a4 a5 a6 a8 a9 a10 a11 x st h => fk_w_aload 7 [a0, a1, a2, a3, a4, a5, a6, .ref x, a8, a9, a10, a11] dX2_factsOf_65 rfl,
  fun d L st N y l c hc => fk_g_getI rfl lf_2_63 (by decide) dX2_factsOf_67 hc,
  fun d L x y st h => fk_r_ixor dX2_factsOf_70,
  fun d L x y st h => fk_r_iand dX2_factsOf_71,
  fun d a0 a1 a2 a3 a4 a5 a6 a7 a8 a9 a10 a11 x st h => fk_w_istore 8 12 [] [a0, a1, a2, a3, a4, a5, a6, a7, a8, a9, a10, a11] [a0, a1, a2, a3, a4, a5, a6, a7, .int x, a9, a10, a11] dX2_factsOf_72 rfl rfl (by decide) rfl,
  fun d a0 a1 a3 a4 a5 a6 a7 a8 a9 a10 a11 x st h => fk_w_aloadn 2 [a0, a1, .ref x, a3, a4, a5, a6, a7, a8, a9, a10, a11] dX2_factsOf_74 rfl,
  fun d L st N y l c hc => fk_g_getC rfl lf_2_37 (by decide) rfl dX2_factsOf_75 hc,
  fun d a0 a1 a2 a4 a5 a6 a7 a8 a9 a10 a11 x st h => fk_w_iloadn 3 [a0, a1, a2, .int x, a4, a5, a6, a7, a8, a9, a10, a11] dX2_factsOf_78 rfl,
  fun d a0 a1 a2 a3 a4 a5 a6 a8 a9 a10 a11 x st h => fk_w_aload 7 [a0, a1, a2, a3, a4, a5, a6, .ref x, a8, a9, a10, a11] dX2_factsOf_79 rfl,
  fun d L st N y l c hc => fk_g_getI rfl lf_2_66 (by decide) dX2_factsOf_81 hc,
  fun d L x y w0 h => fk_p_min dX2_factsOf_84 ln_2_69 lp_2_69 (by simp),
  fun d L st N y l c i hc hi hl => fk_h_aald dX2_factsOf_87 hc hi hl,
  fun d a0 a1 a2 a3 a4 a5 a6 a7 a8 a9 a10 a11 x st h => fk_w_astore 9 12 [] [a0, a1, a2, a3, a4, a5, a6, a7, a8, a9, a10, a11] [a0, a1, a2, a3, a4, a5, a6, a7, a8, .ref x, a10, a11] dX2_factsOf_88 rfl rfl (by decide) rfl,
  fun d a0 a1 a3 a4 a5 a6 a7 a8 a9 a10 a11 x st h => fk_w_aloadn 2 [a0, a1, .ref x, a3, a4, a5, a6, a7, a8, a9, a10, a11] dX2_factsOf_90 rfl,
  fun d L st N y l c hc => fk_g_getC rfl lf_2_37 (by decide) rfl dX2_factsOf_91 hc,
  fun d a0 a1 a2 a4 a5 a6 a7 a8 a9 a10 a11 x st h => fk_w_iloadn 3 [a0, a1, a2, .int x, a4, a5, a6, a7, a8, a9, a10, a11] dX2_factsOf_94 rfl,
  fun d a0 a1 a2 a3 a4 a5 a6 a8 a9 a10 a11 x st h => fk_w_aload 7 [a0, a1, a2, a3, a4, a5, a6, .ref x, a8, a9, a10, a11] dX2_factsOf_95 rfl,
  fun d L st N y l c hc => fk_g_getI rfl lf_2_66 (by decide) dX2_factsOf_97 hc,
  fun d L x y w0 h => fk_p_max dX2_factsOf_100 ln_2_75 lp_2_75 (by simp),
  fun d L st N y l c i hc hi hl => fk_h_aald dX2_factsOf_103 hc hi hl,
  fun d a0 a1 a2 a3 a4 a5 a6 a7 a8 a9 a10 a11 x st h => fk_w_astore 10 12 [] [a0, a1, a2, a3, a4, a5, a6, a7, a8, a9, a10, a11] [a0, a1, a2, a3, a4, a5, a6, a7, a8, a9, .ref x, a11] dX2_factsOf_104 rfl rfl (by decide) rfl,
  fun d a0 a1 a2 a3 a4 a5 a6 a7 a9 a10 a11 x st h => fk_w_iload 8 [a0, a1, a2, a3, a4, a5, a6, a7, .int x, a9, a10, a11] dX2_factsOf_106 rfl,
  fun d L x st h => fk_r_if_ne dX2_factsOf_108 (by decide),
  fun d L st h => fk_w_iconst dX2_factsOf_111 (by decide),
  fun d L st h => fk_r_goto dX2_factsOf_112 (by decide),
  fun d a0 a1 a2 a3 a4 a5 a6 a7 a9 a10 a11 x st h => fk_w_iload 8 [a0, a1, a2, a3, a4, a5, a6, a7, .int x, a9, a10, a11] dX2_factsOf_115 rfl,
  fun d a0 a2 a3 a4 a5 a6 a7 a8 a9 a10 a11 x st h => fk_w_aloadn 1 [a0, .ref x, a2, a3, a4, a5, a6, a7, a8, a9, a10, a11] dX2_factsOf_117 rfl,
  fun d a0 a1 a2 a3 a4 a5 a6 a7 a8 a10 a11 x st h => fk_w_aload 9 [a0, a1, a2, a3, a4, a5, a6, a7, a8, .ref x, a10, a11] dX2_factsOf_118 rfl,
  fun d a0 a1 a2 a3 a4 a5 a6 a7 a8 a9 a11 x st h => fk_w_aload 10 [a0, a1, a2, a3, a4, a5, a6, a7, a8, a9, .ref x, a11] dX2_factsOf_120 rfl,
  fun d a0 a1 a2 a3 a4 a5 a6 a7 a9 a10 a11 x st h => fk_w_iload 8 [a0, a1, a2, a3, a4, a5, a6, a7, .int x, a9, a10, a11] dX2_factsOf_122 rfl,
  fun d L x0 x1 x2 w0 N y l  => fk_g_call [.ref x0, .ref x1, .int x2] [w0] rfl lm_2_78 dX2_factsOf_124 rfl ⟨rfl, by decide⟩ (by simp) fk_at_238,
  fun d L st h => fk_w_iconst dX2_factsOf_127 (by decide),
  fun d L x y st h => fk_r_ixor dX2_factsOf_128,
  fun d L x y st h => fk_r_iand dX2_factsOf_129,
  fun d a0 a1 a2 a3 a4 a5 a6 a7 a8 a9 a10 a11 x st h => fk_w_istore 11 12 [] [a0, a1, a2, a3, a4, a5, a6, a7, a8, a9, a10, a11] [a0, a1, a2, a3, a4, a5, a6, a7, a8, a9, a10, .int x] dX2_factsOf_130 rfl rfl (by decide) rfl,
  fun d a0 a1 a2 a4 a5 a6 a7 a8 a9 a10 a11 x st h => fk_w_iloadn 3 [a0, a1, a2, .int x, a4, a5, a6, a7, a8, a9, a10, a11] dX2_factsOf_132 rfl,
  fun d a0 a1 a2 a3 a4 a5 a6 a8 a9 a10 a11 x st h => fk_w_aload 7 [a0, a1, a2, a3, a4, a5, a6, .ref x, a8, a9, a10, a11] dX2_factsOf_133 rfl,
  fun d L st N y l c hc => fk_g_getI rfl lf_2_66 (by decide) dX2_factsOf_135 hc,
  fun d L x y st h => fk_r_icmp_ge dX2_factsOf_138 (by decide),
  fun d a0 a1 a2 a3 a4 a6 a7 a8 a9 a10 a11 x st h => fk_w_iload 5 [a0, a1, a2, a3, a4, .int x, a6, a7, a8, a9, a10, a11] dX2_factsOf_141 rfl,
  fun d a0 a1 a2 a3 a4 a5 a6 a8 a9 a10 a11 x st h => fk_w_aload 7 [a0, a1, a2, a3, a4, a5, a6, .ref x, a8, a9, a10, a11] dX2_factsOf_143 rfl,
  fun d L st N y l c hc => fk_g_getI rfl lf_2_63 (by decide) dX2_factsOf_145 hc,
  fun d a0 a1 a2 a3 a5 a6 a7 a8 a9 a10 a11 x st h => fk_w_iload 4 [a0, a1, a2, a3, .int x, a5, a6, a7, a8, a9, a10, a11] dX2_factsOf_148 rfl,
  fun d L st h => fk_w_iconst dX2_factsOf_150 (by decide),
  fun d L x y st h => fk_r_ixor dX2_factsOf_151,
  fun d L x y st h => fk_r_iand dX2_factsOf_152,
  fun d L x y st h => fk_r_ior dX2_factsOf_153,
  fun d a0 a1 a2 a3 a4 a5 a6 a7 a8 a9 a10 a11 x st h => fk_w_istore 5 12 [] [a0, a1, a2, a3, a4, a5, a6, a7, a8, a9, a10, a11] [a0, a1, a2, a3, a4, .int x, a6, a7, a8, a9, a10, a11] dX2_factsOf_154 rfl rfl (by decide) rfl,
  fun d L st h => fk_r_goto dX2_factsOf_156 (by decide),
  fun d a0 a1 a2 a3 a4 a5 a6 a8 a9 a10 a11 x st h => fk_w_aload 7 [a0, a1, a2, a3, a4, a5, a6, .ref x, a8, a9, a10, a11] dX2_factsOf_159 rfl,
  fun d L st N y l c hc => fk_g_getI rfl lf_2_63 (by decide) dX2_factsOf_161 hc,
  fun d a0 a1 a2 a3 a4 a6 a7 a8 a9 a10 a11 x st h => fk_w_iload 5 [a0, a1, a2, a3, a4, .int x, a6, a7, a8, a9, a10, a11] dX2_factsOf_164 rfl,
  fun d a0 a1 a2 a3 a4 a5 a6 a8 a9 a10 a11 x st h => fk_w_aload 7 [a0, a1, a2, a3, a4, a5, a6, .ref x, a8, a9, a10, a11] dX2_factsOf_166 rfl,
  fun d L st N y l c hc => fk_g_getI rfl lf_2_60 (by decide) dX2_factsOf_168 hc,
  fun d L st h => fk_w_iconst dX2_factsOf_171 (by decide),
  fun d L x y st h => fk_r_ixor dX2_factsOf_172,
  fun d L x y st h => fk_r_iand dX2_factsOf_173,
  fun d L x y st h => fk_r_ior dX2_factsOf_174,
  fun d a0 a1 a2 a3 a4 a5 a6 a7 a8 a9 a10 a11 x st h => fk_w_istore 5 12 [] [a0, a1, a2, a3, a4, a5, a6, a7, a8, a9, a10, a11] [a0, a1, a2, a3, a4, .int x, a6, a7, a8, a9, a10, a11] dX2_factsOf_175 rfl rfl (by decide) rfl,
  fun d a0 a1 a2 a3 a5 a6 a7 a8 a9 a10 a11 x st h => fk_w_iload 4 [a0, a1, a2, a3, .int x, a5, a6, a7, a8, a9, a10, a11] dX2_factsOf_177 rfl,
  fun d a0 a1 a2 a3 a4 a5 a6 a8 a9 a10 a11 x st h => fk_w_aload 7 [a0, a1, a2, a3, a4, a5, a6, .ref x, a8, a9, a10, a11] dX2_factsOf_179 rfl,
  fun d L st N y l c hc => fk_g_getI rfl lf_2_60 (by decide) dX2_factsOf_181 hc,
  fun d L x y st h => fk_r_ior dX2_factsOf_184,
  fun d a0 a1 a2 a3 a4 a5 a6 a7 a8 a9 a10 x st h => fk_w_iload 11 [a0, a1, a2, a3, a4, a5, a6, a7, a8, a9, a10, .int x] dX2_factsOf_185 rfl,
  fun d L st h => fk_w_iconst dX2_factsOf_187 (by decide),
  fun d L x y st h => fk_r_ixor dX2_factsOf_188,
  fun d L x y st h => fk_r_iand dX2_factsOf_189,
  fun d a0 a1 a2 a3 a4 a5 a6 a7 a8 a9 a10 a11 x st h => fk_w_istore 4 12 [] [a0, a1, a2, a3, a4, a5, a6, a7, a8, a9, a10, a11] [a0, a1, a2, a3, .int x, a5, a6, a7, a8, a9, a10, a11] dX2_factsOf_190 rfl rfl (by decide) rfl,
  fun d a0 a1 a2 a3 a4 a6 a7 a8 a9 a10 a11 x st h => fk_w_iload 5 [a0, a1, a2, a3, a4, .int x, a6, a7, a8, a9, a10, a11] dX2_factsOf_192 rfl,
  fun d a0 a1 a2 a3 a5 a6 a7 a8 a9 a10 a11 x st h => fk_w_iload 4 [a0, a1, a2, a3, .int x, a5, a6, a7, a8, a9, a10, a11] dX2_factsOf_194 rfl,
  fun d L x y st h => fk_r_iand dX2_factsOf_196,
  fun d a0 a1 a2 a3 a4 a5 a6 a7 a8 a9 a10 a11 x st h => fk_w_istore 5 12 [] [a0, a1, a2, a3, a4, a5, a6, a7, a8, a9, a10, a11] [a0, a1, a2, a3, a4, .int x, a6, a7, a8, a9, a10, a11] dX2_factsOf_197 rfl rfl (by decide) rfl,
  fun d a0 a1 a2 a3 a4 a5 a6 a7 a8 a10 a11 x st h => fk_w_aload 9 [a0, a1, a2, a3, a4, a5, a6, a7, a8, .ref x, a10, a11] dX2_factsOf_199 rfl,
  fun d L st N y l c hc => fk_g_getI rfl lf_2_66 (by decide) dX2_factsOf_201 hc,
  fun d a0 a1 a2 a3 a4 a5 a6 a7 a8 a9 a10 a11 x st h => fk_w_istoren 3 12 [] [a0, a1, a2, a3, a4, a5, a6, a7, a8, a9, a10, a11] [a0, a1, a2, .int x, a4, a5, a6, a7, a8, a9, a10, a11] dX2_factsOf_204 rfl rfl (by decide) rfl,
  fun d a0 a1 a2 a3 a4 a5 a7 a8 a9 a10 a11 x st h => fk_w_iinc 6 12 (1) [] [a0, a1, a2, a3, a4, a5, .int x, a7, a8, a9, a10, a11] [a0, a1, a2, a3, a4, a5, .int (x + nI 1), a7, a8, a9, a10, a11] dX2_factsOf_205 rfl rfl rfl (by decide) rfl,
  fun d L st h => fk_r_goto dX2_factsOf_208 (by decide),
  fun d a0 a1 a2 a3 a5 a6 a7 a8 a9 a10 a11 x st h => fk_w_iload 4 [a0, a1, a2, a3, .int x, a5, a6, a7, a8, a9, a10, a11] dX2_factsOf_211 rfl,
  fun d L x0 h => fk_g_calls [.int x0] [] rfl lm_2_84 dX2_factsOf_213 rfl ⟨rfl, by decide⟩ (by simp),
  fun d L x h => fk_r_ret dX2_factsOf_216 (Or.inl rfl)⟩
theorem hX2_factsOf_32 : ∀ (d : Nat) (a0 a1 a2 a3 a4 a5 a7 a8 a9 a10 a11 : Value) (x : Int32) (st : List Value) (h : fk_H), fk_ev d qX2_factsOf 32 [a0, a1, a2, a3, a4, a5, .int x, a7, a8, a9, a10, a11] st h = fk_ev d qX2_factsOf 34 [a0, a1, a2, a3, a4, a5, .int x, a7, a8, a9, a10, a11] (.int x :: st) h := fun d a0 a1 a2 a3 a4 a5 a7 a8 a9 a10 a11 x st h => fk_w_iload 6 [a0, a1, a2, a3, a4, a5, .int x, a7, a8, a9, a10, a11] dX2_factsOf_32 rfl
theorem dX2_goOn_0 : decode cX2_goOn 0 = .ok (.aload_n 0, 1) := by decide +kernel
theorem dX2_goOn_1 : decode cX2_goOn 1 = .ok (.getfield 18, 3) := by decide +kernel
theorem dX2_goOn_4 : decode cX2_goOn 4 = .ok (.iconst 2, 1) := by decide +kernel
theorem dX2_goOn_5 : decode cX2_goOn 5 = .ok (.isub, 1) := by decide +kernel
theorem dX2_goOn_6 : decode cX2_goOn 6 = .ok (.istore_n 1, 1) := by decide +kernel
theorem dX2_goOn_7 : decode cX2_goOn 7 = .ok (.iload_n 1, 1) := by decide +kernel
theorem dX2_goOn_8 : decode cX2_goOn 8 = .ok (.ifCond .lt 26, 3) := by decide +kernel
theorem dX2_goOn_11 : decode cX2_goOn 11 = .ok (.aload_n 0, 1) := by decide +kernel
theorem dX2_goOn_12 : decode cX2_goOn 12 = .ok (.getfield 9, 3) := by decide +kernel
theorem dX2_goOn_15 : decode cX2_goOn 15 = .ok (.iload_n 1, 1) := by decide +kernel
theorem dX2_goOn_16 : decode cX2_goOn 16 = .ok (.iaload, 1) := by decide +kernel
theorem dX2_goOn_17 : decode cX2_goOn 17 = .ok (.aload_n 0, 1) := by decide +kernel
theorem dX2_goOn_18 : decode cX2_goOn 18 = .ok (.getfield 9, 3) := by decide +kernel
theorem dX2_goOn_21 : decode cX2_goOn 21 = .ok (.iload_n 1, 1) := by decide +kernel
theorem dX2_goOn_22 : decode cX2_goOn 22 = .ok (.iconst 1, 1) := by decide +kernel
theorem dX2_goOn_23 : decode cX2_goOn 23 = .ok (.iadd, 1) := by decide +kernel
theorem dX2_goOn_24 : decode cX2_goOn 24 = .ok (.iaload, 1) := by decide +kernel
theorem dX2_goOn_25 : decode cX2_goOn 25 = .ok (.if_icmp .le 9, 3) := by decide +kernel
theorem dX2_goOn_28 : decode cX2_goOn 28 = .ok (.iinc 1 (-1), 3) := by decide +kernel
theorem dX2_goOn_31 : decode cX2_goOn 31 = .ok (.goto (-24), 3) := by decide +kernel
theorem dX2_goOn_34 : decode cX2_goOn 34 = .ok (.iload_n 1, 1) := by decide +kernel
theorem dX2_goOn_35 : decode cX2_goOn 35 = .ok (.ifCond .ge 5, 3) := by decide +kernel
theorem dX2_goOn_38 : decode cX2_goOn 38 = .ok (.iconst 0, 1) := by decide +kernel
theorem dX2_goOn_39 : decode cX2_goOn 39 = .ok (.ireturn, 1) := by decide +kernel
theorem dX2_goOn_40 : decode cX2_goOn 40 = .ok (.aload_n 0, 1) := by decide +kernel
theorem dX2_goOn_41 : decode cX2_goOn 41 = .ok (.getfield 18, 3) := by decide +kernel
theorem dX2_goOn_44 : decode cX2_goOn 44 = .ok (.iconst 1, 1) := by decide +kernel
theorem dX2_goOn_45 : decode cX2_goOn 45 = .ok (.isub, 1) := by decide +kernel
theorem dX2_goOn_46 : decode cX2_goOn 46 = .ok (.istore_n 2, 1) := by decide +kernel
theorem dX2_goOn_47 : decode cX2_goOn 47 = .ok (.iload_n 2, 1) := by decide +kernel
theorem dX2_goOn_48 : decode cX2_goOn 48 = .ok (.iload_n 1, 1) := by decide +kernel
theorem dX2_goOn_49 : decode cX2_goOn 49 = .ok (.if_icmp .le 24, 3) := by decide +kernel
theorem dX2_goOn_52 : decode cX2_goOn 52 = .ok (.aload_n 0, 1) := by decide +kernel
theorem dX2_goOn_53 : decode cX2_goOn 53 = .ok (.getfield 9, 3) := by decide +kernel
theorem dX2_goOn_56 : decode cX2_goOn 56 = .ok (.iload_n 2, 1) := by decide +kernel
theorem dX2_goOn_57 : decode cX2_goOn 57 = .ok (.iaload, 1) := by decide +kernel
theorem dX2_goOn_58 : decode cX2_goOn 58 = .ok (.aload_n 0, 1) := by decide +kernel
theorem dX2_goOn_59 : decode cX2_goOn 59 = .ok (.getfield 9, 3) := by decide +kernel
theorem dX2_goOn_62 : decode cX2_goOn 62 = .ok (.iload_n 1, 1) := by decide +kernel
theorem dX2_goOn_63 : decode cX2_goOn 63 = .ok (.iaload, 1) := by decide +kernel
theorem dX2_goOn_64 : decode cX2_goOn 64 = .ok (.if_icmp .ge 9, 3) := by decide +kernel
theorem dX2_goOn_67 : decode cX2_goOn 67 = .ok (.iinc 2 (-1), 3) := by decide +kernel
theorem dX2_goOn_70 : decode cX2_goOn 70 = .ok (.goto (-23), 3) := by decide +kernel
theorem dX2_goOn_73 : decode cX2_goOn 73 = .ok (.aload_n 0, 1) := by decide +kernel
theorem dX2_goOn_74 : decode cX2_goOn 74 = .ok (.iload_n 1, 1) := by decide +kernel
theorem dX2_goOn_75 : decode cX2_goOn 75 = .ok (.iload_n 2, 1) := by decide +kernel
theorem dX2_goOn_76 : decode cX2_goOn 76 = .ok (.invokevirtual 89, 3) := by decide +kernel
theorem dX2_goOn_79 : decode cX2_goOn 79 = .ok (.aload_n 0, 1) := by decide +kernel
theorem dX2_goOn_80 : decode cX2_goOn 80 = .ok (.getfield 18, 3) := by decide +kernel
theorem dX2_goOn_83 : decode cX2_goOn 83 = .ok (.iconst 1, 1) := by decide +kernel
theorem dX2_goOn_84 : decode cX2_goOn 84 = .ok (.isub, 1) := by decide +kernel
theorem dX2_goOn_85 : decode cX2_goOn 85 = .ok (.istore_n 3, 1) := by decide +kernel
theorem dX2_goOn_86 : decode cX2_goOn 86 = .ok (.iload_n 1, 1) := by decide +kernel
theorem dX2_goOn_87 : decode cX2_goOn 87 = .ok (.iconst 1, 1) := by decide +kernel
theorem dX2_goOn_88 : decode cX2_goOn 88 = .ok (.iadd, 1) := by decide +kernel
theorem dX2_goOn_89 : decode cX2_goOn 89 = .ok (.istore 4, 2) := by decide +kernel
theorem dX2_goOn_91 : decode cX2_goOn 91 = .ok (.iload 4, 2) := by decide +kernel
theorem dX2_goOn_93 : decode cX2_goOn 93 = .ok (.iload_n 3, 1) := by decide +kernel
theorem dX2_goOn_94 : decode cX2_goOn 94 = .ok (.if_icmp .ge 19, 3) := by decide +kernel
theorem dX2_goOn_97 : decode cX2_goOn 97 = .ok (.aload_n 0, 1) := by decide +kernel
theorem dX2_goOn_98 : decode cX2_goOn 98 = .ok (.iload 4, 2) := by decide +kernel
theorem dX2_goOn_100 : decode cX2_goOn 100 = .ok (.iload_n 3, 1) := by decide +kernel
theorem dX2_goOn_101 : decode cX2_goOn 101 = .ok (.invokevirtual 89, 3) := by decide +kernel
theorem dX2_goOn_104 : decode cX2_goOn 104 = .ok (.iinc 3 (-1), 3) := by decide +kernel
theorem dX2_goOn_107 : decode cX2_goOn 107 = .ok (.iinc 4 1, 3) := by decide +kernel
theorem dX2_goOn_110 : decode cX2_goOn 110 = .ok (.goto (-19), 3) := by decide +kernel
theorem dX2_goOn_113 : decode cX2_goOn 113 = .ok (.iconst 1, 1) := by decide +kernel
theorem dX2_goOn_114 : decode cX2_goOn 114 = .ok (.ireturn, 1) := by decide +kernel
theorem rX2_goOn : (∀ (d : Nat) (a1 a2 a3 a4 : Value) (x : Nat) (st : List Value) (h : fk_H), fk_ev d qX2_goOn 0 [.ref x, a1, a2, a3, a4] st h = fk_ev d qX2_goOn 1 [.ref x, a1, a2, a3, a4] (.ref x :: st) h) ∧
  (∀ (d : Nat) (L st : List Value) (N : Nat) (y : Nat → Nat → Int32) (l : Nat → Nat → Int64), fk_ev d qX2_goOn 1 L (.ref 241 :: st) (fk_E N y l) = fk_ev d qX2_goOn 4 L (.int (y 241 2) :: st) (fk_E N y l)) ∧
  (∀ (d : Nat) (L st : List Value) (h : fk_H), fk_ev d qX2_goOn 4 L st h = fk_ev d qX2_goOn 5 L (.int (nI 2) :: st) h) ∧
  (∀ (d : Nat) (L : List Value) (x y : Int32) (st : List Value) (h : fk_H), fk_ev d qX2_goOn 5 L (.int y :: .int x :: st) h = fk_ev d qX2_goOn 6 L (.int (x - y) :: st) h) ∧
  (∀ (d : Nat) (a0 a1 a2 a3 a4 : Value) (x : Int32) (st : List Value) (h : fk_H), fk_ev d qX2_goOn 6 [a0, a1, a2, a3, a4] (.int x :: st) h = fk_ev d qX2_goOn 7 [a0, .int x, a2, a3, a4] st h) ∧
  (∀ (d : Nat) (L : List Value) (x : Int32) (st : List Value) (h : fk_H), fk_ev d qX2_goOn 8 L (.int x :: st) h = if x < nI 0 then fk_ev d qX2_goOn 34 L st h else fk_ev d qX2_goOn 11 L st h) ∧
  (∀ (d : Nat) (a1 a2 a3 a4 : Value) (x : Nat) (st : List Value) (h : fk_H), fk_ev d qX2_goOn 11 [.ref x, a1, a2, a3, a4] st h = fk_ev d qX2_goOn 12 [.ref x, a1, a2, a3, a4] (.ref x :: st) h) ∧
  (∀ (d : Nat) (L st : List Value) (N : Nat) (y : Nat → Nat → Int32) (l : Nat → Nat → Int64), fk_ev d qX2_goOn 12 L (.ref 241 :: st) (fk_E N y l) = fk_ev d qX2_goOn 15 L (.ref 242 :: st) (fk_E N y l)) ∧
  (∀ (d : Nat) (a0 a2 a3 a4 : Value) (x : Int32) (st : List Value) (h : fk_H), fk_ev d qX2_goOn 15 [a0, .int x, a2, a3, a4] st h = fk_ev d qX2_goOn 16 [a0, .int x, a2, a3, a4] (.int x :: st) h) ∧
  (∀ (d : Nat) (L st : List Value) (N : Nat) (y : Nat → Nat → Int32) (l : Nat → Nat → Int64) (i : Nat), i < 5 → fk_ev d qX2_goOn 16 L (.int (nI i) :: .ref 242 :: st) (fk_E N y l) = fk_ev d qX2_goOn 17 L (.int (y 242 i) :: st) (fk_E N y l)) ∧
  (∀ (d : Nat) (a1 a2 a3 a4 : Value) (x : Nat) (st : List Value) (h : fk_H), fk_ev d qX2_goOn 17 [.ref x, a1, a2, a3, a4] st h = fk_ev d qX2_goOn 18 [.ref x, a1, a2, a3, a4] (.ref x :: st) h) ∧
  (∀ (d : Nat) (L st : List Value) (N : Nat) (y : Nat → Nat → Int32) (l : Nat → Nat → Int64), fk_ev d qX2_goOn 18 L (.ref 241 :: st) (fk_E N y l) = fk_ev d qX2_goOn 21 L (.ref 242 :: st) (fk_E N y l)) ∧
  (∀ (d : Nat) (a0 a2 a3 a4 : Value) (x : Int32) (st : List Value) (h : fk_H), fk_ev d qX2_goOn 21 [a0, .int x, a2, a3, a4] st h = fk_ev d qX2_goOn 22 [a0, .int x, a2, a3, a4] (.int x :: st) h) ∧
  (∀ (d : Nat) (L st : List Value) (h : fk_H), fk_ev d qX2_goOn 22 L st h = fk_ev d qX2_goOn 23 L (.int (nI 1) :: st) h) ∧
  (∀ (d : Nat) (L : List Value) (x y : Int32) (st : List Value) (h : fk_H), fk_ev d qX2_goOn 23 L (.int y :: .int x :: st) h = fk_ev d qX2_goOn 24 L (.int (x + y) :: st) h) ∧
  (∀ (d : Nat) (L st : List Value) (N : Nat) (y : Nat → Nat → Int32) (l : Nat → Nat → Int64) (i : Nat), i < 5 → fk_ev d qX2_goOn 24 L (.int (nI i) :: .ref 242 :: st) (fk_E N y l) = fk_ev d qX2_goOn 25 L (.int (y 242 i) :: st) (fk_E N y l)) ∧
  (∀ (d : Nat) (L : List Value) (x y : Int32) (st : List Value) (h : fk_H), fk_ev d qX2_goOn 25 L (.int y :: .int x :: st) h = if x ≤ y then fk_ev d qX2_goOn 34 L st h else fk_ev d qX2_goOn 28 L st h) ∧
  (∀ (d : Nat) (a0 a2 a3 a4 : Value) (x : Int32) (st : List Value) (h : fk_H), fk_ev d qX2_goOn 28 [a0, .int x, a2, a3, a4] st h = fk_ev d qX2_goOn 31 [a0, .int (x + (-1 : Int32)), a2, a3, a4] st h) ∧
  (∀ (d : Nat) (L st : List Value) (h : fk_H), fk_ev d qX2_goOn 31 L st h = fk_ev d qX2_goOn 7 L st h) ∧
  (∀ (d : Nat) (a0 a2 a3 a4 : Value) (x : Int32) (st : List Value) (h : fk_H), fk_ev d qX2_goOn 34 [a0, .int x, a2, a3, a4] st h = fk_ev d qX2_goOn 35 [a0, .int x, a2, a3, a4] (.int x :: st) h) ∧
  (∀ (d : Nat) (L : List Value) (x : Int32) (st : List Value) (h : fk_H), fk_ev d qX2_goOn 35 L (.int x :: st) h = if nI 0 ≤ x then fk_ev d qX2_goOn 40 L st h else fk_ev d qX2_goOn 38 L st h) ∧
  (∀ (d : Nat) (L st : List Value) (h : fk_H), fk_ev d qX2_goOn 38 L st h = fk_ev d qX2_goOn 39 L (.int (nI 0) :: st) h) ∧
  (∀ (d : Nat) (L : List Value) (h : fk_H), fk_ev d qX2_goOn 39 L [.int (nI 0)] h = some (some (.int (nI 0)), h)) ∧
  (∀ (d : Nat) (L : List Value) (h : fk_H), fk_ev d qX2_goOn 39 L [.int (nI 1)] h = some (some (.int (nI 1)), h)) ∧
  (∀ (d : Nat) (L : List Value) (p : Prop) [Decidable p] (h : fk_H), fk_ev d qX2_goOn 39 L [.int (fk_b p)] h = some (some (.int (fk_b p)), h)) ∧
  (∀ (d : Nat) (L : List Value) (x : Int32) (h : fk_H), (x = nI 0 ∨ x = nI 1) → fk_ev d qX2_goOn 39 L [.int x] h = some (some (.int x), h)) ∧
  (∀ (d : Nat) (a1 a2 a3 a4 : Value) (x : Nat) (st : List Value) (h : fk_H), fk_ev d qX2_goOn 40 [.ref x, a1, a2, a3, a4] st h = fk_ev d qX2_goOn 41 [.ref x, a1, a2, a3, a4] (.ref x :: st) h) ∧
  (∀ (d : Nat) (L st : List Value) (N : Nat) (y : Nat → Nat → Int32) (l : Nat → Nat → Int64), fk_ev d qX2_goOn 41 L (.ref 241 :: st) (fk_E N y l) = fk_ev d qX2_goOn 44 L (.int (y 241 2) :: st) (fk_E N y l)) ∧
  (∀ (d : Nat) (L st : List Value) (h : fk_H), fk_ev d qX2_goOn 44 L st h = fk_ev d qX2_goOn 45 L (.int (nI 1) :: st) h) ∧
  (∀ (d : Nat) (L : List Value) (x y : Int32) (st : List Value) (h : fk_H), fk_ev d qX2_goOn 45 L (.int y :: .int x :: st) h = fk_ev d qX2_goOn 46 L (.int (x - y) :: st) h) ∧
  (∀ (d : Nat) (a0 a1 a2 a3 a4 : Value) (x : Int32) (st : List Value) (h : fk_H), fk_ev d qX2_goOn 46 [a0, a1, a2, a3, a4] (.int x :: st) h = fk_ev d qX2_goOn 47 [a0, a1, .int x, a3, a4] st h) ∧
  (∀ (d : Nat) (a0 a2 a3 a4 : Value) (x : Int32) (st : List Value) (h : fk_H), fk_ev d qX2_goOn 48 [a0, .int x, a2, a3, a4] st h = fk_ev d qX2_goOn 49 [a0, .int x, a2, a3, a4] (.int x :: st) h) ∧
  (∀ (d : Nat) (L : List Value) (x y : Int32) (st : List Value) (h : fk_H), fk_ev d qX2_goOn 49 L (.int y :: .int x :: st) h = if x ≤ y then fk_ev d qX2_goOn 73 L st h else fk_ev d qX2_goOn 52 L st h) ∧
  (∀ (d : Nat) (a1 a2 a3 a4 : Value) (x : Nat) (st : List Value) (h : fk_H), fk_ev d qX2_goOn 52 [.ref x, a1, a2, a3, a4] st h = fk_ev d qX2_goOn 53 [.ref x, a1, a2, a3, a4] (.ref x :: st) h) ∧
  (∀ (d : Nat) (L st : List Value) (N : Nat) (y : Nat → Nat → Int32) (l : Nat → Nat → Int64), fk_ev d qX2_goOn 53 L (.ref 241 :: st) (fk_E N y l) = fk_ev d qX2_goOn 56 L (.ref 242 :: st) (fk_E N y l)) ∧
  (∀ (d : Nat) (a0 a1 a3 a4 : Value) (x : Int32) (st : List Value) (h : fk_H), fk_ev d qX2_goOn 56 [a0, a1, .int x, a3, a4] st h = fk_ev d qX2_goOn 57 [a0, a1, .int x, a3, a4] (.int x :: st) h) ∧
  (∀ (d : Nat) (L st : List Value) (N : Nat) (y : Nat → Nat → Int32) (l : Nat → Nat → Int64) (i : Nat), i < 5 → fk_ev d qX2_goOn 57 L (.int (nI i) :: .ref 242 :: st) (fk_E N y l) = fk_ev d qX2_goOn 58 L (.int (y 242 i) :: st) (fk_E N y l)) ∧
  (∀ (d : Nat) (a1 a2 a3 a4 : Value) (x : Nat) (st : List Value) (h : fk_H), fk_ev d qX2_goOn 58 [.ref x, a1, a2, a3, a4] st h = fk_ev d qX2_goOn 59 [.ref x, a1, a2, a3, a4] (.ref x :: st) h) ∧
  (∀ (d : Nat) (L st : List Value) (N : Nat) (y : Nat → Nat → Int32) (l : Nat → Nat → Int64), fk_ev d qX2_goOn 59 L (.ref 241 :: st) (fk_E N y l) = fk_ev d qX2_goOn 62 L (.ref 242 :: st) (fk_E N y l)) ∧
  (∀ (d : Nat) (a0 a2 a3 a4 : Value) (x : Int32) (st : List Value) (h : fk_H), fk_ev d qX2_goOn 62 [a0, .int x, a2, a3, a4] st h = fk_ev d qX2_goOn 63 [a0, .int x, a2, a3, a4] (.int x :: st) h) ∧
  (∀ (d : Nat) (L st : List Value) (N : Nat) (y : Nat → Nat → Int32) (l : Nat → Nat → Int64) (i : Nat), i < 5 → fk_ev d qX2_goOn 63 L (.int (nI i) :: .ref 242 :: st) (fk_E N y l) = fk_ev d qX2_goOn 64 L (.int (y 242 i) :: st) (fk_E N y l)) ∧
  (∀ (d : Nat) (L : List Value) (x y : Int32) (st : List Value) (h : fk_H), fk_ev d qX2_goOn 64 L (.int y :: .int x :: st) h = if y ≤ x then fk_ev d qX2_goOn 73 L st h else fk_ev d qX2_goOn 67 L st h) ∧
  (∀ (d : Nat) (a0 a1 a3 a4 : Value) (x : Int32) (st : List Value) (h : fk_H), fk_ev d qX2_goOn 67 [a0, a1, .int x, a3, a4] st h = fk_ev d qX2_goOn 70 [a0, a1, .int (x + (-1 : Int32)), a3, a4] st h) ∧
  (∀ (d : Nat) (L st : List Value) (h : fk_H), fk_ev d qX2_goOn 70 L st h = fk_ev d qX2_goOn 47 L st h) ∧
  (∀ (d : Nat) (a1 a2 a3 a4 : Value) (x : Nat) (st : List Value) (h : fk_H), fk_ev d qX2_goOn 73 [.ref x, a1, a2, a3, a4] st h = fk_ev d qX2_goOn 74 [.ref x, a1, a2, a3, a4] (.ref x :: st) h) ∧
  (∀ (d : Nat) (a0 a2 a3 a4 : Value) (x : Int32) (st : List Value) (h : fk_H), fk_ev d qX2_goOn 74 [a0, .int x, a2, a3, a4] st h = fk_ev d qX2_goOn 75 [a0, .int x, a2, a3, a4] (.int x :: st) h) ∧
  (∀ (d : Nat) (a0 a1 a3 a4 : Value) (x : Int32) (st : List Value) (h : fk_H), fk_ev d qX2_goOn 75 [a0, a1, .int x, a3, a4] st h = fk_ev d qX2_goOn 76 [a0, a1, .int x, a3, a4] (.int x :: st) h) ∧
  (∀ (d : Nat) (L : List Value) (x0 : Int32) (x1 : Int32)  (N : Nat) (y : Nat → Nat → Int32) (l : Nat → Nat → Int64), fk_ev (d + 1) qX2_goOn 76 L (.int x1 :: .int x0 :: .ref 241 :: []) (fk_E N y l) = (fk_ev d qX2_swap 0 [.ref 241, .int x0, .int x1, .null] [] (fk_E N y l)).bind fun o => fk_ev (d + 1) qX2_goOn 79 L (o.1.toList ++ []) o.2) ∧
  (∀ (d : Nat) (a1 a2 a3 a4 : Value) (x : Nat) (st : List Value) (h : fk_H), fk_ev d qX2_goOn 79 [.ref x, a1, a2, a3, a4] st h = fk_ev d qX2_goOn 80 [.ref x, a1, a2, a3, a4] (.ref x :: st) h) ∧
  (∀ (d : Nat) (L st : List Value) (N : Nat) (y : Nat → Nat → Int32) (l : Nat → Nat → Int64), fk_ev d qX2_goOn 80 L (.ref 241 :: st) (fk_E N y l) = fk_ev d qX2_goOn 83 L (.int (y 241 2) :: st) (fk_E N y l)) ∧
  (∀ (d : Nat) (L st : List Value) (h : fk_H), fk_ev d qX2_goOn 83 L st h = fk_ev d qX2_goOn 84 L (.int (nI 1) :: st) h) ∧
  (∀ (d : Nat) (L : List Value) (x y : Int32) (st : List Value) (h : fk_H), fk_ev d qX2_goOn 84 L (.int y :: .int x :: st) h = fk_ev d qX2_goOn 85 L (.int (x - y) :: st) h) ∧
  (∀ (d : Nat) (a0 a1 a2 a3 a4 : Value) (x : Int32) (st : List Value) (h : fk_H), fk_ev d qX2_goOn 85 [a0, a1, a2, a3, a4] (.int x :: st) h = fk_ev d qX2_goOn 86 [a0, a1, a2, .int x, a4] st h) ∧
  (∀ (d : Nat) (a0 a2 a3 a4 : Value) (x : Int32) (st : List Value) (h : fk_H), fk_ev d qX2_goOn 86 [a0, .int x, a2, a3, a4] st h = fk_ev d qX2_goOn 87 [a0, .int x, a2, a3, a4] (.int x :: st) h) ∧
  (∀ (d : Nat) (L st : List Value) (h : fk_H), fk_ev d qX2_goOn 87 L st h = fk_ev d qX2_goOn 88 L (.int (nI 1) :: st) h) ∧
  (∀ (d : Nat) (L : List Value) (x y : Int32) (st : List Value) (h : fk_H), fk_ev d qX2_goOn 88 L (.int y :: .int x :: st) h = fk_ev d qX2_goOn 89 L (.int (x + y) :: st) h) ∧
  (∀ (d : Nat) (a0 a1 a2 a3 a4 : Value) (x : Int32) (st : List Value) (h : fk_H), fk_ev d qX2_goOn 89 [a0, a1, a2, a3, a4] (.int x :: st) h = fk_ev d qX2_goOn 91 [a0, a1, a2, a3, .int x] st h) ∧
  (∀ (d : Nat) (a0 a1 a2 a4 : Value) (x : Int32) (st : List Value) (h : fk_H), fk_ev d qX2_goOn 93 [a0, a1, a2, .int x, a4] st h = fk_ev d qX2_goOn 94 [a0, a1, a2, .int x, a4] (.int x :: st) h) ∧
  (∀ (d : Nat) (L : List Value) (x y : Int32) (st : List Value) (h : fk_H), fk_ev d qX2_goOn 94 L (.int y :: .int x :: st) h = if y ≤ x then fk_ev d qX2_goOn 113 L st h else fk_ev d qX2_goOn 97 L st h) ∧
  (∀ (d : Nat) (a1 a2 a3 a4 : Value) (x : Nat) (st : List Value) (h : fk_H), fk_ev d qX2_goOn 97 [.ref x, a1, a2, a3, a4] st h = fk_ev d qX2_goOn 98 [.ref x, a1, a2, a3, a4] (.ref x :: st) h) ∧
  (∀ (d : Nat) (a0 a1 a2 a3 : Value) (x : Int32) (st : List Value) (h : fk_H), fk_ev d qX2_goOn 98 [a0, a1, a2, a3, .int x] st h = fk_ev d qX2_goOn 100 [a0, a1, a2, a3, .int x] (.int x :: st) h) ∧
  (∀ (d : Nat) (a0 a1 a2 a4 : Value) (x : Int32) (st : List Value) (h : fk_H), fk_ev d qX2_goOn 100 [a0, a1, a2, .int x, a4] st h = fk_ev d qX2_goOn 101 [a0, a1, a2, .int x, a4] (.int x :: st) h) ∧
  (∀ (d : Nat) (L : List Value) (x0 : Int32) (x1 : Int32)  (N : Nat) (y : Nat → Nat → Int32) (l : Nat → Nat → Int64), fk_ev (d + 1) qX2_goOn 101 L (.int x1 :: .int x0 :: .ref 241 :: []) (fk_E N y l) = (fk_ev d qX2_swap 0 [.ref 241, .int x0, .int x1, .null] [] (fk_E N y l)).bind fun o => fk_ev (d + 1) qX2_goOn 104 L (o.1.toList ++ []) o.2) ∧
  (∀ (d : Nat) (a0 a1 a2 a4 : Value) (x : Int32) (st : List Value) (h : fk_H), fk_ev d qX2_goOn 104 [a0, a1, a2, .int x, a4] st h = fk_ev d qX2_goOn 107 [a0, a1, a2, .int (x + (-1 : Int32)), a4] st h) ∧
  (∀ (d : Nat) (a0 a1 a2 a3 : Value) (x : Int32) (st : List Value) (h : fk_H), fk_ev d qX2_goOn 107 [a0, a1, a2, a3, .int x] st h = fk_ev d qX2_goOn 110 [a0, a1, a2, a3, .int (x + nI 1)] st h) ∧
  (∀ (d : Nat) (L st : List Value) (h : fk_H), fk_ev d qX2_goOn 110 L st h = fk_ev d qX2_goOn 91 L st h) ∧
  (∀ (d : Nat) (L st : List Value) (h : fk_H), fk_ev d qX2_goOn 113 L st h = fk_ev d qX2_goOn 114 L (.int (nI 1) :: st) h) ∧
  (∀ (d : Nat) (L : List Value) (h : fk_H), fk_ev d qX2_goOn 114 L [.int (nI 0)] h = some (some (.int (nI 0)), h)) ∧
  (∀ (d : Nat) (L : List Value) (h : fk_H), fk_ev d qX2_goOn 114 L [.int (nI 1)] h = some (some (.int (nI 1)), h)) ∧
  (∀ (d : Nat) (L : List Value) (p : Prop) [Decidable p] (h : fk_H), fk_ev d qX2_goOn 114 L [.int (fk_b p)] h = some (some (.int (fk_b p)), h)) ∧
  (∀ (d : Nat) (L : List Value) (x : Int32) (h : fk_H), (x = nI 0 ∨ x = nI 1) → fk_ev d qX2_goOn 114 L [.int x] h = some (some (.int x), h)) := ⟨fun d a1 a2 a3 a4 x st h => fk_w_aloadn 0 [.ref x, a1, a2, a3, a4] dX2_goOn_0 rfl,
  fun d L st N y l => fk_g_getI rfl lf_2_18 (by decide) dX2_goOn_1 fk_at_241,
  fun d L st h => fk_w_iconst dX2_goOn_4 (by decide),
  fun d L x y st h => fk_r_isub dX2_goOn_5,
  fun d a0 a1 a2 a3 a4 x st h => fk_w_istoren 1 5 [] [a0, a1, a2, a3, a4] [a0, .int x, a2, a3, a4] dX2_goOn_6 rfl rfl (by decide) rfl,
  fun d L x st h => fk_r_if_lt dX2_goOn_8 (by decide),
  fun d a1 a2 a3 a4 x st h => fk_w_aloadn 0 [.ref x, a1, a2, a3, a4] dX2_goOn_11 rfl,
  fun d L st N y l => fk_g_getC rfl lf_2_9 (by decide) rfl dX2_goOn_12 fk_at_241,
  fun d a0 a2 a3 a4 x st h => fk_w_iloadn 1 [a0, .int x, a2, a3, a4] dX2_goOn_15 rfl,
  fun d L st N y l i hi => fk_g_iald fk_at_242 fk_ln_242 (by decide) dX2_goOn_16 hi,
  fun d a1 a2 a3 a4 x st h => fk_w_aloadn 0 [.ref x, a1, a2, a3, a4] dX2_goOn_17 rfl,
  fun d L st N y l => fk_g_getC rfl lf_2_9 (by decide) rfl dX2_goOn_18 fk_at_241,
  fun d a0 a2 a3 a4 x st h => fk_w_iloadn 1 [a0, .int x, a2, a3, a4] dX2_goOn_21 rfl,
  fun d L st h => fk_w_iconst dX2_goOn_22 (by decide),
  fun d L x y st h => fk_r_iadd dX2_goOn_23,
  fun d L st N y l i hi => fk_g_iald fk_at_242 fk_ln_242 (by decide) dX2_goOn_24 hi,
  fun d L x y st h => fk_r_icmp_le dX2_goOn_25 (by decide),
  fun d a0 a2 a3 a4 x st h => fk_w_iinc 1 5 (-1) [] [a0, .int x, a2, a3, a4] [a0, .int (x + (-1 : Int32)), a2, a3, a4] dX2_goOn_28 rfl rfl rfl (by decide) rfl,
  fun d L st h => fk_r_goto dX2_goOn_31 (by decide),
  fun d a0 a2 a3 a4 x st h => fk_w_iloadn 1 [a0, .int x, a2, a3, a4] dX2_goOn_34 rfl,
  fun d L x st h => fk_r_if_ge dX2_goOn_35 (by decide),
  fun d L st h => fk_w_iconst dX2_goOn_38 (by decide),
  fun d L h => fk_r_ret dX2_goOn_39 (Or.inr (Or.inl ⟨rfl, by decide⟩)),
  fun d L h => fk_r_ret dX2_goOn_39 (Or.inr (Or.inl ⟨rfl, by decide⟩)),
  fun d L p _ h => fk_r_ret dX2_goOn_39 (Or.inr (Or.inl ⟨rfl, fk_b_01⟩)),
  fun d L x h hx => fk_r_ret dX2_goOn_39 (Or.inr (Or.inl ⟨rfl, hx⟩)),
  fun d a1 a2 a3 a4 x st h => fk_w_aloadn 0 [.ref x, a1, a2, a3, a4] dX2_goOn_40 rfl,
  fun d L st N y l => fk_g_getI rfl lf_2_18 (by decide) dX2_goOn_41 fk_at_241,
  fun d L st h => fk_w_iconst dX2_goOn_44 (by decide),
  fun d L x y st h => fk_r_isub dX2_goOn_45,
  fun d a0 a1 a2 a3 a4 x st h => fk_w_istoren 2 5 [] [a0, a1, a2, a3, a4] [a0, a1, .int x, a3, a4] dX2_goOn_46 rfl rfl (by decide) rfl,
  fun d a0 a2 a3 a4 x st h => fk_w_iloadn 1 [a0, .int x, a2, a3, a4] dX2_goOn_48 rfl,
  fun d L x y st h => fk_r_icmp_le dX2_goOn_49 (by decide),
  fun d a1 a2 a3 a4 x st h => fk_w_aloadn 0 [.ref x, a1, a2, a3, a4] dX2_goOn_52 rfl,
  fun d L st N y l => fk_g_getC rfl lf_2_9 (by decide) rfl dX2_goOn_53 fk_at_241,
  fun d a0 a1 a3 a4 x st h => fk_w_iloadn 2 [a0, a1, .int x, a3, a4] dX2_goOn_56 rfl,
  fun d L st N y l i hi => fk_g_iald fk_at_242 fk_ln_242 (by decide) dX2_goOn_57 hi,
  fun d a1 a2 a3 a4 x st h => fk_w_aloadn 0 [.ref x, a1, a2, a3, a4] dX2_goOn_58 rfl,
  fun d L st N y l => fk_g_getC rfl lf_2_9 (by decide) rfl dX2_goOn_59 fk_at_241,
  fun d a0 a2 a3 a4 x st h => fk_w_iloadn 1 [a0, .int x, a2, a3, a4] dX2_goOn_62 rfl,
  fun d L st N y l i hi => fk_g_iald fk_at_242 fk_ln_242 (by decide) dX2_goOn_63 hi,
  fun d L x y st h => fk_r_icmp_ge dX2_goOn_64 (by decide),
  fun d a0 a1 a3 a4 x st h => fk_w_iinc 2 5 (-1) [] [a0, a1, .int x, a3, a4] [a0, a1, .int (x + (-1 : Int32)), a3, a4] dX2_goOn_67 rfl rfl rfl (by decide) rfl,
  fun d L st h => fk_r_goto dX2_goOn_70 (by decide),
  fun d a1 a2 a3 a4 x st h => fk_w_aloadn 0 [.ref x, a1, a2, a3, a4] dX2_goOn_73 rfl,
  fun d a0 a2 a3 a4 x st h => fk_w_iloadn 1 [a0, .int x, a2, a3, a4] dX2_goOn_74 rfl,
  fun d a0 a1 a3 a4 x st h => fk_w_iloadn 2 [a0, a1, .int x, a3, a4] dX2_goOn_75 rfl,
  fun d L x0 x1 N y l  => fk_g_call [.int x0, .int x1] [] rfl lm_2_89 dX2_goOn_76 rfl ⟨rfl, by decide⟩ (by simp) fk_at_241,
  fun d a1 a2 a3 a4 x st h => fk_w_aloadn 0 [.ref x, a1, a2, a3, a4] dX2_goOn_79 rfl,
  fun d L st N y l => fk_g_getI rfl lf_2_18 (by decide) dX2_goOn_80 fk_at_241,
  fun d L st h => fk_w_iconst dX2_goOn_83 (by decide),
  fun d L x y st h => fk_r_isub dX2_goOn_84,
  fun d a0 a1 a2 a3 a4 x st h => fk_w_istoren 3 5 [] [a0, a1, a2, a3, a4] [a0, a1, a2, .int x, a4] dX2_goOn_85 rfl rfl (by decide) rfl,
  fun d a0 a2 a3 a4 x st h => fk_w_iloadn 1 [a0, .int x, a2, a3, a4] dX2_goOn_86 rfl,
  fun d L st h => fk_w_iconst dX2_goOn_87 (by decide),
  fun d L x y st h => fk_r_iadd dX2_goOn_88,
  fun d a0 a1 a2 a3 a4 x st h => fk_w_istore 4 5 [] [a0, a1, a2, a3, a4] [a0, a1, a2, a3, .int x] dX2_goOn_89 rfl rfl (by decide) rfl,
  fun d a0 a1 a2 a4 x st h => fk_w_iloadn 3 [a0, a1, a2, .int x, a4] dX2_goOn_93 rfl,
  fun d L x y st h => fk_r_icmp_ge dX2_goOn_94 (by decide),
  fun d a1 a2 a3 a4 x st h => fk_w_aloadn 0 [.ref x, a1, a2, a3, a4] dX2_goOn_97 rfl,
  fun d a0 a1 a2 a3 x st h => fk_w_iload 4 [a0, a1, a2, a3, .int x] dX2_goOn_98 rfl,
  fun d a0 a1 a2 a4 x st h => fk_w_iloadn 3 [a0, a1, a2, .int x, a4] dX2_goOn_100 rfl,
  fun d L x0 x1 N y l  => fk_g_call [.int x0, .int x1] [] rfl lm_2_89 dX2_goOn_101 rfl ⟨rfl, by decide⟩ (by simp) fk_at_241,
  fun d a0 a1 a2 a4 x st h => fk_w_iinc 3 5 (-1) [] [a0, a1, a2, .int x, a4] [a0, a1, a2, .int (x + (-1 : Int32)), a4] dX2_goOn_104 rfl rfl rfl (by decide) rfl,
  fun d a0 a1 a2 a3 x st h => fk_w_iinc 4 5 (1) [] [a0, a1, a2, a3, .int x] [a0, a1, a2, a3, .int (x + nI 1)] dX2_goOn_107 rfl rfl rfl (by decide) rfl,
  fun d L st h => fk_r_goto dX2_goOn_110 (by decide),
  fun d L st h => fk_w_iconst dX2_goOn_113 (by decide),
  fun d L h => fk_r_ret dX2_goOn_114 (Or.inr (Or.inl ⟨rfl, by decide⟩)),
  fun d L h => fk_r_ret dX2_goOn_114 (Or.inr (Or.inl ⟨rfl, by decide⟩)),
  fun d L p _ h => fk_r_ret dX2_goOn_114 (Or.inr (Or.inl ⟨rfl, fk_b_01⟩)),
  fun d L x h hx => fk_r_ret dX2_goOn_114 (Or.inr (Or.inl ⟨rfl, hx⟩))⟩
theorem hX2_goOn_7 : ∀ (d : Nat) (a0 a2 a3 a4 : Value) (x : Int32) (st : List Value) (h : fk_H), fk_ev d qX2_goOn 7 [a0, .int x, a2, a3, a4] st h = fk_ev d qX2_goOn 8 [a0, .int x, a2, a3, a4] (.int x :: st) h := fun d a0 a2 a3 a4 x st h => fk_w_iloadn 1 [a0, .int x, a2, a3, a4] dX2_goOn_7 rfl
theorem hX2_goOn_47 : ∀ (d : Nat) (a0 a1 a3 a4 : Value) (x : Int32) (st : List Value) (h : fk_H), fk_ev d qX2_goOn 47 [a0, a1, .int x, a3, a4] st h = fk_ev d qX2_goOn 48 [a0, a1, .int x, a3, a4] (.int x :: st) h := fun d a0 a1 a3 a4 x st h => fk_w_iloadn 2 [a0, a1, .int x, a3, a4] dX2_goOn_47 rfl
theorem hX2_goOn_91 : ∀ (d : Nat) (a0 a1 a2 a3 : Value) (x : Int32) (st : List Value) (h : fk_H), fk_ev d qX2_goOn 91 [a0, a1, a2, a3, .int x] st h = fk_ev d qX2_goOn 93 [a0, a1, a2, a3, .int x] (.int x :: st) h := fun d a0 a1 a2 a3 x st h => fk_w_iload 4 [a0, a1, a2, a3, .int x] dX2_goOn_91 rfl
theorem dX2_swap_0 : decode cX2_swap 0 = .ok (.aload_n 0, 1) := by decide +kernel
theorem dX2_swap_1 : decode cX2_swap 1 = .ok (.getfield 9, 3) := by decide +kernel
theorem dX2_swap_4 : decode cX2_swap 4 = .ok (.iload_n 1, 1) := by decide +kernel
theorem dX2_swap_5 : decode cX2_swap 5 = .ok (.iaload, 1) := by decide +kernel
theorem dX2_swap_6 : decode cX2_swap 6 = .ok (.istore_n 3, 1) := by decide +kernel
theorem dX2_swap_7 : decode cX2_swap 7 = .ok (.aload_n 0, 1) := by decide +kernel
theorem dX2_swap_8 : decode cX2_swap 8 = .ok (.getfield 9, 3) := by decide +kernel
theorem dX2_swap_11 : decode cX2_swap 11 = .ok (.iload_n 1, 1) := by decide +kernel
theorem dX2_swap_12 : decode cX2_swap 12 = .ok (.aload_n 0, 1) := by decide +kernel
theorem dX2_swap_13 : decode cX2_swap 13 = .ok (.getfield 9, 3) := by decide +kernel
theorem dX2_swap_16 : decode cX2_swap 16 = .ok (.iload_n 2, 1) := by decide +kernel
theorem dX2_swap_17 : decode cX2_swap 17 = .ok (.iaload, 1) := by decide +kernel
theorem dX2_swap_18 : decode cX2_swap 18 = .ok (.iastore, 1) := by decide +kernel
theorem dX2_swap_19 : decode cX2_swap 19 = .ok (.aload_n 0, 1) := by decide +kernel
theorem dX2_swap_20 : decode cX2_swap 20 = .ok (.getfield 9, 3) := by decide +kernel
theorem dX2_swap_23 : decode cX2_swap 23 = .ok (.iload_n 2, 1) := by decide +kernel
theorem dX2_swap_24 : decode cX2_swap 24 = .ok (.iload_n 3, 1) := by decide +kernel
theorem dX2_swap_25 : decode cX2_swap 25 = .ok (.iastore, 1) := by decide +kernel
theorem dX2_swap_26 : decode cX2_swap 26 = .ok (.return_, 1) := by decide +kernel
theorem rX2_swap : (∀ (d : Nat) (a1 a2 a3 : Value) (x : Nat) (st : List Value) (h : fk_H), fk_ev d qX2_swap 0 [.ref x, a1, a2, a3] st h = fk_ev d qX2_swap 1 [.ref x, a1, a2, a3] (.ref x :: st) h) ∧
  (∀ (d : Nat) (L st : List Value) (N : Nat) (y : Nat → Nat → Int32) (l : Nat → Nat → Int64), fk_ev d qX2_swap 1 L (.ref 241 :: st) (fk_E N y l) = fk_ev d qX2_swap 4 L (.ref 242 :: st) (fk_E N y l)) ∧
  (∀ (d : Nat) (a0 a2 a3 : Value) (x : Int32) (st : List Value) (h : fk_H), fk_ev d qX2_swap 4 [a0, .int x, a2, a3] st h = fk_ev d qX2_swap 5 [a0, .int x, a2, a3] (.int x :: st) h) ∧
  (∀ (d : Nat) (L st : List Value) (N : Nat) (y : Nat → Nat → Int32) (l : Nat → Nat → Int64) (i : Nat), i < 5 → fk_ev d qX2_swap 5 L (.int (nI i) :: .ref 242 :: st) (fk_E N y l) = fk_ev d qX2_swap 6 L (.int (y 242 i) :: st) (fk_E N y l)) ∧
  (∀ (d : Nat) (a0 a1 a2 a3 : Value) (x : Int32) (st : List Value) (h : fk_H), fk_ev d qX2_swap 6 [a0, a1, a2, a3] (.int x :: st) h = fk_ev d qX2_swap 7 [a0, a1, a2, .int x] st h) ∧
  (∀ (d : Nat) (a1 a2 a3 : Value) (x : Nat) (st : List Value) (h : fk_H), fk_ev d qX2_swap 7 [.ref x, a1, a2, a3] st h = fk_ev d qX2_swap 8 [.ref x, a1, a2, a3] (.ref x :: st) h) ∧
  (∀ (d : Nat) (L st : List Value) (N : Nat) (y : Nat → Nat → Int32) (l : Nat → Nat → Int64), fk_ev d qX2_swap 8 L (.ref 241 :: st) (fk_E N y l) = fk_ev d qX2_swap 11 L (.ref 242 :: st) (fk_E N y l)) ∧
  (∀ (d : Nat) (a0 a2 a3 : Value) (x : Int32) (st : List Value) (h : fk_H), fk_ev d qX2_swap 11 [a0, .int x, a2, a3] st h = fk_ev d qX2_swap 12 [a0, .int x, a2, a3] (.int x :: st) h) ∧
  (∀ (d : Nat) (a1 a2 a3 : Value) (x : Nat) (st : List Value) (h : fk_H), fk_ev d qX2_swap 12 [.ref x, a1, a2, a3] st h = fk_ev d qX2_swap 13 [.ref x, a1, a2, a3] (.ref x :: st) h) ∧
  (∀ (d : Nat) (L st : List Value) (N : Nat) (y : Nat → Nat → Int32) (l : Nat → Nat → Int64), fk_ev d qX2_swap 13 L (.ref 241 :: st) (fk_E N y l) = fk_ev d qX2_swap 16 L (.ref 242 :: st) (fk_E N y l)) ∧
  (∀ (d : Nat) (a0 a1 a3 : Value) (x : Int32) (st : List Value) (h : fk_H), fk_ev d qX2_swap 16 [a0, a1, .int x, a3] st h = fk_ev d qX2_swap 17 [a0, a1, .int x, a3] (.int x :: st) h) ∧
  (∀ (d : Nat) (L st : List Value) (N : Nat) (y : Nat → Nat → Int32) (l : Nat → Nat → Int64) (i : Nat), i < 5 → fk_ev d qX2_swap 17 L (.int (nI i) :: .ref 242 :: st) (fk_E N y l) = fk_ev d qX2_swap 18 L (.int (y 242 i) :: st) (fk_E N y l)) ∧
  (∀ (d : Nat) (L st : List Value) (N : Nat) (y : Nat → Nat → Int32) (l : Nat → Nat → Int64) (i : Nat) (v : Int32), i < 5 → fk_ev d qX2_swap 18 L (.int v :: .int (nI i) :: .ref 242 :: st) (fk_E N y l) = fk_ev d qX2_swap 19 L st (fk_E N (fk_u y 242 i v) l)) ∧
  (∀ (d : Nat) (a1 a2 a3 : Value) (x : Nat) (st : List Value) (h : fk_H), fk_ev d qX2_swap 19 [.ref x, a1, a2, a3] st h = fk_ev d qX2_swap 20 [.ref x, a1, a2, a3] (.ref x :: st) h) ∧
  (∀ (d : Nat) (L st : List Value) (N : Nat) (y : Nat → Nat → Int32) (l : Nat → Nat → Int64), fk_ev d qX2_swap 20 L (.ref 241 :: st) (fk_E N y l) = fk_ev d qX2_swap 23 L (.ref 242 :: st) (fk_E N y l)) ∧
  (∀ (d : Nat) (a0 a1 a3 : Value) (x : Int32) (st : List Value) (h : fk_H), fk_ev d qX2_swap 23 [a0, a1, .int x, a3] st h = fk_ev d qX2_swap 24 [a0, a1, .int x, a3] (.int x :: st) h) ∧
  (∀ (d : Nat) (a0 a1 a2 : Value) (x : Int32) (st : List Value) (h : fk_H), fk_ev d qX2_swap 24 [a0, a1, a2, .int x] st h = fk_ev d qX2_swap 25 [a0, a1, a2, .int x] (.int x :: st) h) ∧
  (∀ (d : Nat) (L st : List Value) (N : Nat) (y : Nat → Nat → Int32) (l : Nat → Nat → Int64) (i : Nat) (v : Int32), i < 5 → fk_ev d qX2_swap 25 L (.int v :: .int (nI i) :: .ref 242 :: st) (fk_E N y l) = fk_ev d qX2_swap 26 L st (fk_E N (fk_u y 242 i v) l)) ∧
  (∀ (d : Nat) (L : List Value) (h : fk_H), fk_ev d qX2_swap 26 L [] h = some (none, h)) := ⟨fun d a1 a2 a3 x st h => fk_w_aloadn 0 [.ref x, a1, a2, a3] dX2_swap_0 rfl,
  fun d L st N y l => fk_g_getC rfl lf_2_9 (by decide) rfl dX2_swap_1 fk_at_241,
  fun d a0 a2 a3 x st h => fk_w_iloadn 1 [a0, .int x, a2, a3] dX2_swap_4 rfl,
  fun d L st N y l i hi => fk_g_iald fk_at_242 fk_ln_242 (by decide) dX2_swap_5 hi,
  fun d a0 a1 a2 a3 x st h => fk_w_istoren 3 4 [] [a0, a1, a2, a3] [a0, a1, a2, .int x] dX2_swap_6 rfl rfl (by decide) rfl,
  fun d a1 a2 a3 x st h => fk_w_aloadn 0 [.ref x, a1, a2, a3] dX2_swap_7 rfl,
  fun d L st N y l => fk_g_getC rfl lf_2_9 (by decide) rfl dX2_swap_8 fk_at_241,
  fun d a0 a2 a3 x st h => fk_w_iloadn 1 [a0, .int x, a2, a3] dX2_swap_11 rfl,
  fun d a1 a2 a3 x st h => fk_w_aloadn 0 [.ref x, a1, a2, a3] dX2_swap_12 rfl,
  fun d L st N y l => fk_g_getC rfl lf_2_9 (by decide) rfl dX2_swap_13 fk_at_241,
  fun d a0 a1 a3 x st h => fk_w_iloadn 2 [a0, a1, .int x, a3] dX2_swap_16 rfl,
  fun d L st N y l i hi => fk_g_iald fk_at_242 fk_ln_242 (by decide) dX2_swap_17 hi,
  fun d L st N y l i v hi => fk_g_iast fk_at_242 fk_ln_242 (by decide) dX2_swap_18 hi,
  fun d a1 a2 a3 x st h => fk_w_aloadn 0 [.ref x, a1, a2, a3] dX2_swap_19 rfl,
  fun d L st N y l => fk_g_getC rfl lf_2_9 (by decide) rfl dX2_swap_20 fk_at_241,
  fun d a0 a1 a3 x st h => fk_w_iloadn 2 [a0, a1, .int x, a3] dX2_swap_23 rfl,
  fun d a0 a1 a2 x st h => fk_w_iloadn 3 [a0, a1, a2, .int x] dX2_swap_24 rfl,
  fun d L st N y l i v hi => fk_g_iast fk_at_242 fk_ln_242 (by decide) dX2_swap_25 hi,
  fun d L h => fk_r_vret dX2_swap_26 rfl⟩
theorem dX3_clear_0 : decode cX3_clear 0 = .ok (.aload_n 0, 1) := by decide +kernel
theorem dX3_clear_1 : decode cX3_clear 1 = .ok (.iconst 0, 1) := by decide +kernel
theorem dX3_clear_2 : decode cX3_clear 2 = .ok (.putfield 33, 3) := by decide +kernel
theorem dX3_clear_5 : decode cX3_clear 5 = .ok (.aload_n 0, 1) := by decide +kernel
theorem dX3_clear_6 : decode cX3_clear 6 = .ok (.iconst 0, 1) := by decide +kernel
theorem dX3_clear_7 : decode cX3_clear 7 = .ok (.putfield 37, 3) := by decide +kernel
theorem dX3_clear_10 : decode cX3_clear 10 = .ok (.return_, 1) := by decide +kernel
theorem rX3_clear : (∀ (d : Nat) (x : Nat) (st : List Value) (h : fk_H), fk_ev d qX3_clear 0 [.ref x] st h = fk_ev d qX3_clear 1 [.ref x] (.ref x :: st) h) ∧
  (∀ (d : Nat) (L st : List Value) (h : fk_H), fk_ev d qX3_clear 1 L st h = fk_ev d qX3_clear 2 L (.int (nI 0) :: st) h) ∧
  (∀ (d : Nat) (L st : List Value) (N : Nat) (y : Nat → Nat → Int32) (l : Nat → Nat → Int64) (c : Nat) (v : Int32), fk_at c 3 → fk_ev d qX3_clear 2 L (.int v :: .ref c :: st) (fk_E N y l) = fk_ev d qX3_clear 5 L st (fk_E N (fk_u y c 7 v) l)) ∧
  (∀ (d : Nat) (x : Nat) (st : List Value) (h : fk_H), fk_ev d qX3_clear 5 [.ref x] st h = fk_ev d qX3_clear 6 [.ref x] (.ref x :: st) h) ∧
  (∀ (d : Nat) (L st : List Value) (h : fk_H), fk_ev d qX3_clear 6 L st h = fk_ev d qX3_clear 7 L (.int (nI 0) :: st) h) ∧
  (∀ (d : Nat) (L st : List Value) (N : Nat) (y : Nat → Nat → Int32) (l : Nat → Nat → Int64) (c : Nat) (v : Int32), fk_at c 3 → fk_ev d qX3_clear 7 L (.int v :: .ref c :: st) (fk_E N y l) = fk_ev d qX3_clear 10 L st (fk_E N (fk_u y c 8 v) l)) ∧
  (∀ (d : Nat) (L : List Value) (h : fk_H), fk_ev d qX3_clear 10 L [] h = some (none, h)) := ⟨fun d  x st h => fk_w_aloadn 0 [.ref x] dX3_clear_0 rfl,
  fun d L st h => fk_w_iconst dX3_clear_1 (by decide),
  fun d L st N y l c v hc => fk_g_putI rfl lf_3_33 (by decide) dX3_clear_2 rfl hc,
  fun d  x st h => fk_w_aloadn 0 [.ref x] dX3_clear_5 rfl,
  fun d L st h => fk_w_iconst dX3_clear_6 (by decide),
  fun d L st N y l c v hc => fk_g_putI rfl lf_3_37 (by decide) dX3_clear_7 rfl hc,
  fun d L h => fk_r_vret dX3_clear_10 rfl⟩
theorem dX3_add_0 : decode cX3_add 0 = .ok (.aload_n 0, 1) := by decide +kernel
theorem dX3_add_1 : decode cX3_add 1 = .ok (.getfield 33, 3) := by decide +kernel
theorem dX3_add_4 : decode cX3_add 4 = .ok (.aload_n 0, 1) := by decide +kernel
theorem dX3_add_5 : decode cX3_add 5 = .ok (.getfield 9, 3) := by decide +kernel
theorem dX3_add_8 : decode cX3_add 8 = .ok (.arraylength, 1) := by decide +kernel
theorem dX3_add_9 : decode cX3_add 9 = .ok (.if_icmp .ge 33, 3) := by decide +kernel
theorem dX3_add_12 : decode cX3_add 12 = .ok (.aload_n 0, 1) := by decide +kernel
theorem dX3_add_13 : decode cX3_add 13 = .ok (.getfield 9, 3) := by decide +kernel
theorem dX3_add_16 : decode cX3_add 16 = .ok (.aload_n 0, 1) := by decide +kernel
theorem dX3_add_17 : decode cX3_add 17 = .ok (.getfield 33, 3) := by decide +kernel
theorem dX3_add_20 : decode cX3_add 20 = .ok (.iload_n 1, 1) := by decide +kernel
theorem dX3_add_21 : decode cX3_add 21 = .ok (.iastore, 1) := by decide +kernel
theorem dX3_add_22 : decode cX3_add 22 = .ok (.aload_n 0, 1) := by decide +kernel
theorem dX3_add_23 : decode cX3_add 23 = .ok (.getfield 15, 3) := by decide +kernel
theorem dX3_add_26 : decode cX3_add 26 = .ok (.aload_n 0, 1) := by decide +kernel
theorem dX3_add_27 : decode cX3_add 27 = .ok (.getfield 33, 3) := by decide +kernel
theorem dX3_add_30 : decode cX3_add 30 = .ok (.iload_n 2, 1) := by decide +kernel
theorem dX3_add_31 : decode cX3_add 31 = .ok (.iastore, 1) := by decide +kernel
theorem dX3_add_32 : decode cX3_add 32 = .ok (.aload_n 0, 1) := by decide +kernel
theorem dX3_add_33 : decode cX3_add 33 = .ok (.dup, 1) := by decide +kernel
theorem dX3_add_34 : decode cX3_add 34 = .ok (.getfield 33, 3) := by decide +kernel
theorem dX3_add_37 : decode cX3_add 37 = .ok (.iconst 1, 1) := by decide +kernel
theorem dX3_add_38 : decode cX3_add 38 = .ok (.iadd, 1) := by decide +kernel
theorem dX3_add_39 : decode cX3_add 39 = .ok (.putfield 33, 3) := by decide +kernel
theorem dX3_add_42 : decode cX3_add 42 = .ok (.return_, 1) := by decide +kernel
theorem rX3_add : (∀ (d : Nat) (a1 a2 : Value) (x : Nat) (st : List Value) (h : fk_H), fk_ev d qX3_add 0 [.ref x, a1, a2] st h = fk_ev d qX3_add 1 [.ref x, a1, a2] (.ref x :: st) h) ∧
  (∀ (d : Nat) (L st : List Value) (N : Nat) (y : Nat → Nat → Int32) (l : Nat → Nat → Int64) (c : Nat), fk_at c 3 → fk_ev d qX3_add 1 L (.ref c :: st) (fk_E N y l) = fk_ev d qX3_add 4 L (.int (y c 7) :: st) (fk_E N y l)) ∧
  (∀ (d : Nat) (a1 a2 : Value) (x : Nat) (st : List Value) (h : fk_H), fk_ev d qX3_add 4 [.ref x, a1, a2] st h = fk_ev d qX3_add 5 [.ref x, a1, a2] (.ref x :: st) h) ∧
  (∀ (d : Nat) (L st : List Value) (N : Nat) (y : Nat → Nat → Int32) (l : Nat → Nat → Int64) (c : Nat), fk_at c 3 → fk_ev d qX3_add 5 L (.ref c :: st) (fk_E N y l) = fk_ev d qX3_add 8 L (.ref (fk_cr c 0) :: st) (fk_E N y l)) ∧
  (∀ (d : Nat) (L st : List Value) (N : Nat) (y : Nat → Nat → Int32) (l : Nat → Nat → Int64) (c : Nat), fk_at c 20 → fk_ev d qX3_add 8 L (.ref c :: st) (fk_E N y l) = fk_ev d qX3_add 9 L (.int (nI (fk_shp c).2) :: st) (fk_E N y l)) ∧
  (∀ (d : Nat) (L : List Value) (x y : Int32) (st : List Value) (h : fk_H), fk_ev d qX3_add 9 L (.int y :: .int x :: st) h = if y ≤ x then fk_ev d qX3_add 42 L st h else fk_ev d qX3_add 12 L st h) ∧
  (∀ (d : Nat) (a1 a2 : Value) (x : Nat) (st : List Value) (h : fk_H), fk_ev d qX3_add 12 [.ref x, a1, a2] st h = fk_ev d qX3_add 13 [.ref x, a1, a2] (.ref x :: st) h) ∧
  (∀ (d : Nat) (L st : List Value) (N : Nat) (y : Nat → Nat → Int32) (l : Nat → Nat → Int64) (c : Nat), fk_at c 3 → fk_ev d qX3_add 13 L (.ref c :: st) (fk_E N y l) = fk_ev d qX3_add 16 L (.ref (fk_cr c 0) :: st) (fk_E N y l)) ∧
  (∀ (d : Nat) (a1 a2 : Value) (x : Nat) (st : List Value) (h : fk_H), fk_ev d qX3_add 16 [.ref x, a1, a2] st h = fk_ev d qX3_add 17 [.ref x, a1, a2] (.ref x :: st) h) ∧
  (∀ (d : Nat) (L st : List Value) (N : Nat) (y : Nat → Nat → Int32) (l : Nat → Nat → Int64) (c : Nat), fk_at c 3 → fk_ev d qX3_add 17 L (.ref c :: st) (fk_E N y l) = fk_ev d qX3_add 20 L (.int (y c 7) :: st) (fk_E N y l)) ∧
  (∀ (d : Nat) (a0 a2 : Value) (x : Int32) (st : List Value) (h : fk_H), fk_ev d qX3_add 20 [a0, .int x, a2] st h = fk_ev d qX3_add 21 [a0, .int x, a2] (.int x :: st) h) ∧
  (∀ (d : Nat) (L st : List Value) (N : Nat) (y : Nat → Nat → Int32) (l : Nat → Nat → Int64) (c i : Nat) (v : Int32), fk_at c 20 → i < (fk_shp c).2 → (fk_shp c).2 < 2 ^ 31 → fk_ev d qX3_add 21 L (.int v :: .int (nI i) :: .ref c :: st) (fk_E N y l) = fk_ev d qX3_add 22 L st (fk_E N (fk_u y c i v) l)) ∧
  (∀ (d : Nat) (a1 a2 : Value) (x : Nat) (st : List Value) (h : fk_H), fk_ev d qX3_add 22 [.ref x, a1, a2] st h = fk_ev d qX3_add 23 [.ref x, a1, a2] (.ref x :: st) h) ∧
  (∀ (d : Nat) (L st : List Value) (N : Nat) (y : Nat → Nat → Int32) (l : Nat → Nat → Int64) (c : Nat), fk_at c 3 → fk_ev d qX3_add 23 L (.ref c :: st) (fk_E N y l) = fk_ev d qX3_add 26 L (.ref (fk_cr c 1) :: st) (fk_E N y l)) ∧
  (∀ (d : Nat) (a1 a2 : Value) (x : Nat) (st : List Value) (h : fk_H), fk_ev d qX3_add 26 [.ref x, a1, a2] st h = fk_ev d qX3_add 27 [.ref x, a1, a2] (.ref x :: st) h) ∧
  (∀ (d : Nat) (L st : List Value) (N : Nat) (y : Nat → Nat → Int32) (l : Nat → Nat → Int64) (c : Nat), fk_at c 3 → fk_ev d qX3_add 27 L (.ref c :: st) (fk_E N y l) = fk_ev d qX3_add 30 L (.int (y c 7) :: st) (fk_E N y l)) ∧
  (∀ (d : Nat) (a0 a1 : Value) (x : Int32) (st : List Value) (h : fk_H), fk_ev d qX3_add 30 [a0, a1, .int x] st h = fk_ev d qX3_add 31 [a0, a1, .int x] (.int x :: st) h) ∧
  (∀ (d : Nat) (L st : List Value) (N : Nat) (y : Nat → Nat → Int32) (l : Nat → Nat → Int64) (c i : Nat) (v : Int32), fk_at c 20 → i < (fk_shp c).2 → (fk_shp c).2 < 2 ^ 31 → fk_ev d qX3_add 31 L (.int v :: .int (nI i) :: .ref c :: st) (fk_E N y l) = fk_ev d qX3_add 32 L st (fk_E N (fk_u y c i v) l)) ∧
  (∀ (d : Nat) (a1 a2 : Value) (x : Nat) (st : List Value) (h : fk_H), fk_ev d qX3_add 32 [.ref x, a1, a2] st h = fk_ev d qX3_add 33 [.ref x, a1, a2] (.ref x :: st) h) ∧
  (∀ (d : Nat) (L : List Value) (x : Nat) (st : List Value) (h : fk_H), fk_ev d qX3_add 33 L (.ref x :: st) h = fk_ev d qX3_add 34 L (.ref x :: .ref x :: st) h) ∧
  (∀ (d : Nat) (L st : List Value) (N : Nat) (y : Nat → Nat → Int32) (l : Nat → Nat → Int64) (c : Nat), fk_at c 3 → fk_ev d qX3_add 34 L (.ref c :: st) (fk_E N y l) = fk_ev d qX3_add 37 L (.int (y c 7) :: st) (fk_E N y l)) ∧
  (∀ (d : Nat) (L st : List Value) (h : fk_H), fk_ev d qX3_add 37 L st h = fk_ev d qX3_add 38 L (.int (nI 1) :: st) h) ∧
  (∀ (d : Nat) (L : List Value) (x y : Int32) (st : List Value) (h : fk_H), fk_ev d qX3_add 38 L (.int y :: .int x :: st) h = fk_ev d qX3_add 39 L (.int (x + y) :: st) h) ∧
  (∀ (d : Nat) (L st : List Value) (N : Nat) (y : Nat → Nat → Int32) (l : Nat → Nat → Int64) (c : Nat) (v : Int32), fk_at c 3 → fk_ev d qX3_add 39 L (.int v :: .ref c :: st) (fk_E N y l) = fk_ev d qX3_add 42 L st (fk_E N (fk_u y c 7 v) l)) ∧
  (∀ (d : Nat) (L : List Value) (h : fk_H), fk_ev d qX3_add 42 L [] h = some (none, h)) := ⟨fun d a1 a2 x st h => fk_w_aloadn 0 [.ref x, a1, a2] dX3_add_0 rfl,
  fun d L st N y l c hc => fk_g_getI rfl lf_3_33 (by decide) dX3_add_1 hc,
  fun d a1 a2 x st h => fk_w_aloadn 0 [.ref x, a1, a2] dX3_add_4 rfl,
  fun d L st N y l c hc => fk_g_getC rfl lf_3_9 (by decide) rfl dX3_add_5 hc,
  fun d L st N y l c hc => fk_h_alen dX3_add_8 hc,
  fun d L x y st h => fk_r_icmp_ge dX3_add_9 (by decide),
  fun d a1 a2 x st h => fk_w_aloadn 0 [.ref x, a1, a2] dX3_add_12 rfl,
  fun d L st N y l c hc => fk_g_getC rfl lf_3_9 (by decide) rfl dX3_add_13 hc,
  fun d a1 a2 x st h => fk_w_aloadn 0 [.ref x, a1, a2] dX3_add_16 rfl,
  fun d L st N y l c hc => fk_g_getI rfl lf_3_33 (by decide) dX3_add_17 hc,
  fun d a0 a2 x st h => fk_w_iloadn 1 [a0, .int x, a2] dX3_add_20 rfl,
  fun d L st N y l c i v hc hi hl => fk_h_iast dX3_add_21 hc hi hl,
  fun d a1 a2 x st h => fk_w_aloadn 0 [.ref x, a1, a2] dX3_add_22 rfl,
  fun d L st N y l c hc => fk_g_getC rfl lf_3_15 (by decide) rfl dX3_add_23 hc,
  fun d a1 a2 x st h => fk_w_aloadn 0 [.ref x, a1, a2] dX3_add_26 rfl,
  fun d L st N y l c hc => fk_g_getI rfl lf_3_33 (by decide) dX3_add_27 hc,
  fun d a0 a1 x st h => fk_w_iloadn 2 [a0, a1, .int x] dX3_add_30 rfl,
  fun d L st N y l c i v hc hi hl => fk_h_iast dX3_add_31 hc hi hl,
  fun d a1 a2 x st h => fk_w_aloadn 0 [.ref x, a1, a2] dX3_add_32 rfl,
  fun d L x st h => fk_r_dup_ref dX3_add_33,
  fun d L st N y l c hc => fk_g_getI rfl lf_3_33 (by decide) dX3_add_34 hc,
  fun d L st h => fk_w_iconst dX3_add_37 (by decide),
  fun d L x y st h => fk_r_iadd dX3_add_38,
  fun d L st N y l c v hc => fk_g_putI rfl lf_3_33 (by decide) dX3_add_39 rfl hc,
  fun d L h => fk_r_vret dX3_add_42 rfl⟩
theorem dX3_value_0 : decode cX3_value 0 = .ok (.iconst 0, 1) := by decide +kernel
theorem dX3_value_1 : decode cX3_value 1 = .ok (.istore 4, 2) := by decide +kernel
theorem dX3_value_3 : decode cX3_value 3 = .ok (.iload 4, 2) := by decide +kernel
theorem dX3_value_5 : decode cX3_value 5 = .ok (.aload_n 0, 1) := by decide +kernel
theorem dX3_value_6 : decode cX3_value 6 = .ok (.getfield 37, 3) := by decide +kernel
theorem dX3_value_9 : decode cX3_value 9 = .ok (.if_icmp .ge 70, 3) := by decide +kernel
theorem dX3_value_12 : decode cX3_value 12 = .ok (.aload_n 0, 1) := by decide +kernel
theorem dX3_value_13 : decode cX3_value 13 = .ok (.getfield 18, 3) := by decide +kernel
theorem dX3_value_16 : decode cX3_value 16 = .ok (.iload 4, 2) := by decide +kernel
theorem dX3_value_18 : decode cX3_value 18 = .ok (.iaload, 1) := by decide +kernel
theorem dX3_value_19 : decode cX3_value 19 = .ok (.iload_n 1, 1) := by decide +kernel
theorem dX3_value_20 : decode cX3_value 20 = .ok (.if_icmp .ne 53, 3) := by decide +kernel
theorem dX3_value_23 : decode cX3_value 23 = .ok (.aload_n 0, 1) := by decide +kernel
theorem dX3_value_24 : decode cX3_value 24 = .ok (.aload_n 0, 1) := by decide +kernel
theorem dX3_value_25 : decode cX3_value 25 = .ok (.getfield 24, 3) := by decide +kernel
theorem dX3_value_28 : decode cX3_value 28 = .ok (.iload 4, 2) := by decide +kernel
theorem dX3_value_30 : decode cX3_value 30 = .ok (.iaload, 1) := by decide +kernel
theorem dX3_value_31 : decode cX3_value 31 = .ok (.aload_n 0, 1) := by decide +kernel
theorem dX3_value_32 : decode cX3_value 32 = .ok (.getfield 27, 3) := by decide +kernel
theorem dX3_value_35 : decode cX3_value 35 = .ok (.iload 4, 2) := by decide +kernel
theorem dX3_value_37 : decode cX3_value 37 = .ok (.iaload, 1) := by decide +kernel
theorem dX3_value_38 : decode cX3_value 38 = .ok (.aload_n 3, 1) := by decide +kernel
theorem dX3_value_39 : decode cX3_value 39 = .ok (.invokevirtual 40, 3) := by decide +kernel
theorem dX3_value_42 : decode cX3_value 42 = .ok (.ifCond .eq 31, 3) := by decide +kernel
theorem dX3_value_45 : decode cX3_value 45 = .ok (.iconst 0, 1) := by decide +kernel
theorem dX3_value_46 : decode cX3_value 46 = .ok (.iload_n 2, 1) := by decide +kernel
theorem dX3_value_47 : decode cX3_value 47 = .ok (.aload_n 0, 1) := by decide +kernel
theorem dX3_value_48 : decode cX3_value 48 = .ok (.aload_n 0, 1) := by decide +kernel
theorem dX3_value_49 : decode cX3_value 49 = .ok (.getfield 21, 3) := by decide +kernel
theorem dX3_value_52 : decode cX3_value 52 = .ok (.iload 4, 2) := by decide +kernel
theorem dX3_value_54 : decode cX3_value 54 = .ok (.iaload, 1) := by decide +kernel
theorem dX3_value_55 : decode cX3_value 55 = .ok (.aload_n 0, 1) := by decide +kernel
theorem dX3_value_56 : decode cX3_value 56 = .ok (.getfield 24, 3) := by decide +kernel
theorem dX3_value_59 : decode cX3_value 59 = .ok (.iload 4, 2) := by decide +kernel
theorem dX3_value_61 : decode cX3_value 61 = .ok (.iaload, 1) := by decide +kernel
theorem dX3_value_62 : decode cX3_value 62 = .ok (.aload_n 3, 1) := by decide +kernel
theorem dX3_value_63 : decode cX3_value 63 = .ok (.invokevirtual 40, 3) := by decide +kernel
theorem dX3_value_66 : decode cX3_value 66 = .ok (.invokestatic 44, 3) := by decide +kernel
theorem dX3_value_69 : decode cX3_value 69 = .ok (.invokestatic 50, 3) := by decide +kernel
theorem dX3_value_72 : decode cX3_value 72 = .ok (.ireturn, 1) := by decide +kernel
theorem dX3_value_73 : decode cX3_value 73 = .ok (.iinc 4 1, 3) := by decide +kernel
theorem dX3_value_76 : decode cX3_value 76 = .ok (.goto (-73), 3) := by decide +kernel
theorem dX3_value_79 : decode cX3_value 79 = .ok (.iconst 0, 1) := by decide +kernel
theorem dX3_value_80 : decode cX3_value 80 = .ok (.ireturn, 1) := by decide +kernel
theorem rX3_value : (∀ (d : Nat) (L st : List Value) (h : fk_H), fk_ev d qX3_value 0 L st h = fk_ev d qX3_value 1 L (.int (nI 0) :: st) h) ∧
  (∀ (d : Nat) (a0 a1 a2 a3 a4 : Value) (x : Int32) (st : List Value) (h : fk_H), fk_ev d qX3_value 1 [a0, a1, a2, a3, a4] (.int x :: st) h = fk_ev d qX3_value 3 [a0, a1, a2, a3, .int x] st h) ∧
  (∀ (d : Nat) (a1 a2 a3 a4 : Value) (x : Nat) (st : List Value) (h : fk_H), fk_ev d qX3_value 5 [.ref x, a1, a2, a3, a4] st h = fk_ev d qX3_value 6 [.ref x, a1, a2, a3, a4] (.ref x :: st) h) ∧
  (∀ (d : Nat) (L st : List Value) (N : Nat) (y : Nat → Nat → Int32) (l : Nat → Nat → Int64) (c : Nat), fk_at c 3 → fk_ev d qX3_value 6 L (.ref c :: st) (fk_E N y l) = fk_ev d qX3_value 9 L (.int (y c 8) :: st) (fk_E N y l)) ∧
  (∀ (d : Nat) (L : List Value) (x y : Int32) (st : List Value) (h : fk_H), fk_ev d qX3_value 9 L (.int y :: .int x :: st) h = if y ≤ x then fk_ev d qX3_value 79 L st h else fk_ev d qX3_value 12 L st h) ∧
  (∀ (d : Nat) (a1 a2 a3 a4 : Value) (x : Nat) (st : List Value) (h : fk_H), fk_ev d qX3_value 12 [.ref x, a1, a2, a3, a4] st h = fk_ev d qX3_value 13 [.ref x, a1, a2, a3, a4] (.ref x :: st) h) ∧
  (∀ (d : Nat) (L st : List Value) (N : Nat) (y : Nat → Nat → Int32) (l : Nat → Nat → Int64) (c : Nat), fk_at c 3 → fk_ev d qX3_value 13 L (.ref c :: st) (fk_E N y l) = fk_ev d qX3_value 16 L (.ref (fk_cr c 2) :: st) (fk_E N y l)) ∧
  (∀ (d : Nat) (a0 a1 a2 a3 : Value) (x : Int32) (st : List Value) (h : fk_H), fk_ev d qX3_value 16 [a0, a1, a2, a3, .int x] st h = fk_ev d qX3_value 18 [a0, a1, a2, a3, .int x] (.int x :: st) h) ∧
  (∀ (d : Nat) (L st : List Value) (N : Nat) (y : Nat → Nat → Int32) (l : Nat → Nat → Int64) (c i : Nat), fk_at c 20 → i < (fk_shp c).2 → (fk_shp c).2 < 2 ^ 31 → fk_ev d qX3_value 18 L (.int (nI i) :: .ref c :: st) (fk_E N y l) = fk_ev d qX3_value 19 L (.int (y c i) :: st) (fk_E N y l)) ∧
  (∀ (d : Nat) (a0 a2 a3 a4 : Value) (x : Int32) (st : List Value) (h : fk_H), fk_ev d qX3_value 19 [a0, .int x, a2, a3, a4] st h = fk_ev d qX3_value 20 [a0, .int x, a2, a3, a4] (.int x :: st) h) ∧
  (∀ (d : Nat) (L : List Value) (x y : Int32) (st : List Value) (h : fk_H), fk_ev d qX3_value 20 L (.int y :: .int x :: st) h = if ¬ x = y then fk_ev d qX3_value 73 L st h else fk_ev d qX3_value 23 L st h) ∧
  (∀ (d : Nat) (a1 a2 a3 a4 : Value) (x : Nat) (st : List Value) (h : fk_H), fk_ev d qX3_value 23 [.ref x, a1, a2, a3, a4] st h = fk_ev d qX3_value 24 [.ref x, a1, a2, a3, a4] (.ref x :: st) h) ∧
  (∀ (d : Nat) (a1 a2 a3 a4 : Value) (x : Nat) (st : List Value) (h : fk_H), fk_ev d qX3_value 24 [.ref x, a1, a2, a3, a4] st h = fk_ev d qX3_value 25 [.ref x, a1, a2, a3, a4] (.ref x :: st) h) ∧
  (∀ (d : Nat) (L st : List Value) (N : Nat) (y : Nat → Nat → Int32) (l : Nat → Nat → Int64) (c : Nat), fk_at c 3 → fk_ev d qX3_value 25 L (.ref c :: st) (fk_E N y l) = fk_ev d qX3_value 28 L (.ref (fk_cr c 4) :: st) (fk_E N y l)) ∧
  (∀ (d : Nat) (a0 a1 a2 a3 : Value) (x : Int32) (st : List Value) (h : fk_H), fk_ev d qX3_value 28 [a0, a1, a2, a3, .int x] st h = fk_ev d qX3_value 30 [a0, a1, a2, a3, .int x] (.int x :: st) h) ∧
  (∀ (d : Nat) (L st : List Value) (N : Nat) (y : Nat → Nat → Int32) (l : Nat → Nat → Int64) (c i : Nat), fk_at c 20 → i < (fk_shp c).2 → (fk_shp c).2 < 2 ^ 31 → fk_ev d qX3_value 30 L (.int (nI i) :: .ref c :: st) (fk_E N y l) = fk_ev d qX3_value 31 L (.int (y c i) :: st) (fk_E N y l)) ∧
  (∀ (d : Nat) (a1 a2 a3 a4 : Value) (x : Nat) (st : List Value) (h : fk_H), fk_ev d qX3_value 31 [.ref x, a1, a2, a3, a4] st h = fk_ev d qX3_value 32 [.ref x, a1, a2, a3, a4] (.ref x :: st) h) ∧
  (∀ (d : Nat) (L st : List Value) (N : Nat) (y : Nat → Nat → Int32) (l : Nat → Nat → Int64) (c : Nat), fk_at c 3 → fk_ev d qX3_value 32 L (.ref c :: st) (fk_E N y l) = fk_ev d qX3_value 35 L (.ref (fk_cr c 5) :: st) (fk_E N y l)) ∧
  (∀ (d : Nat) (a0 a1 a2 a3 : Value) (x : Int32) (st : List Value) (h : fk_H), fk_ev d qX3_value 35 [a0, a1, a2, a3, .int x] st h = fk_ev d qX3_value 37 [a0, a1, a2, a3, .int x] (.int x :: st) h) ∧
  (∀ (d : Nat) (L st : List Value) (N : Nat) (y : Nat → Nat → Int32) (l : Nat → Nat → Int64) (c i : Nat), fk_at c 20 → i < (fk_shp c).2 → (fk_shp c).2 < 2 ^ 31 → fk_ev d qX3_value 37 L (.int (nI i) :: .ref c :: st) (fk_E N y l) = fk_ev d qX3_value 38 L (.int (y c i) :: st) (fk_E N y l)) ∧
  (∀ (d : Nat) (a0 a1 a2 a4 : Value) (x : Nat) (st : List Value) (h : fk_H), fk_ev d qX3_value 38 [a0, a1, a2, .ref x, a4] st h = fk_ev d qX3_value 39 [a0, a1, a2, .ref x, a4] (.ref x :: st) h) ∧
  (∀ (d : Nat) (L : List Value) (x0 : Int32) (x1 : Int32) (x2 : Nat)  (N : Nat) (y : Nat → Nat → Int32) (l : Nat → Nat → Int64) (c : Nat), fk_at c 3 → fk_ev (d + 1) qX3_value 39 L (.ref x2 :: .int x1 :: .int x0 :: .ref c :: []) (fk_E N y l) = (fk_ev d qX3_run 0 [.ref c, .int x0, .int x1, .ref x2, .null, .null, .null, .null, .null] [] (fk_E N y l)).bind fun o => fk_ev (d + 1) qX3_value 42 L (o.1.toList ++ []) o.2) ∧
  (∀ (d : Nat) (L : List Value) (x : Int32) (st : List Value) (h : fk_H), fk_ev d qX3_value 42 L (.int x :: st) h = if x = nI 0 then fk_ev d qX3_value 73 L st h else fk_ev d qX3_value 45 L st h) ∧
  (∀ (d : Nat) (L st : List Value) (h : fk_H), fk_ev d qX3_value 45 L st h = fk_ev d qX3_value 46 L (.int (nI 0) :: st) h) ∧
  (∀ (d : Nat) (a0 a1 a3 a4 : Value) (x : Int32) (st : List Value) (h : fk_H), fk_ev d qX3_value 46 [a0, a1, .int x, a3, a4] st h = fk_ev d qX3_value 47 [a0, a1, .int x, a3, a4] (.int x :: st) h) ∧
  (∀ (d : Nat) (a1 a2 a3 a4 : Value) (x : Nat) (st : List Value) (h : fk_H), fk_ev d qX3_value 47 [.ref x, a1, a2, a3, a4] st h = fk_ev d qX3_value 48 [.ref x, a1, a2, a3, a4] (.ref x :: st) h) ∧
  (∀ (d : Nat) (a1 a2 a3 a4 : Value) (x : Nat) (st : List Value) (h : fk_H), fk_ev d qX3_value 48 [.ref x, a1, a2, a3, a4] st h = fk_ev d qX3_value 49 [.ref x, a1, a2, a3, a4] (.ref x :: st) h) ∧
  (∀ (d : Nat) (L st : List Value) (N : Nat) (y : Nat → Nat → Int32) (l : Nat → Nat → Int64) (c : Nat), fk_at c 3 → fk_ev d qX3_value 49 L (.ref c :: st) (fk_E N y l) = fk_ev d qX3_value 52 L (.ref (fk_cr c 3) :: st) (fk_E N y l)) ∧
  (∀ (d : Nat) (a0 a1 a2 a3 : Value) (x : Int32) (st : List Value) (h : fk_H), fk_ev d qX3_value 52 [a0, a1, a2, a3, .int x] st h = fk_ev d qX3_value 54 [a0, a1, a2, a3, .int x] (.int x :: st) h) ∧
  (∀ (d : Nat) (L st : List Value) (N : Nat) (y : Nat → Nat → Int32) (l : Nat → Nat → Int64) (c i : Nat), fk_at c 20 → i < (fk_shp c).2 → (fk_shp c).2 < 2 ^ 31 → fk_ev d qX3_value 54 L (.int (nI i) :: .ref c :: st) (fk_E N y l) = fk_ev d qX3_value 55 L (.int (y c i) :: st) (fk_E N y l)) ∧
  (∀ (d : Nat) (a1 a2 a3 a4 : Value) (x : Nat) (st : List Value) (h : fk_H), fk_ev d qX3_value 55 [.ref x, a1, a2, a3, a4] st h = fk_ev d qX3_value 56 [.ref x, a1, a2, a3, a4] (.ref x :: st) h) ∧
  (∀ (d : Nat) (L st : List Value) (N : Nat) (y : Nat → Nat → Int32) (l : Nat → Nat → Int64) (c : Nat), fk_at c 3 → fk_ev d qX3_value 56 L (.ref c :: st) (fk_E N y l) = fk_ev d qX3_value 59 L (.ref (fk_cr c 4) :: st) (fk_E N y l)) ∧
  (∀ (d : Nat) (a0 a1 a2 a3 : Value) (x : Int32) (st : List Value) (h : fk_H), fk_ev d qX3_value 59 [a0, a1, a2, a3, .int x] st h = fk_ev d qX3_value 61 [a0, a1, a2, a3, .int x] (.int x :: st) h) ∧
  (∀ (d : Nat) (L st : List Value) (N : Nat) (y : Nat → Nat → Int32) (l : Nat → Nat → Int64) (c i : Nat), fk_at c 20 → i < (fk_shp c).2 → (fk_shp c).2 < 2 ^ 31 → fk_ev d qX3_value 61 L (.int (nI i) :: .ref c :: st) (fk_E N y l) = fk_ev d qX3_value 62 L (.int (y c i) :: st) (fk_E N y l)) ∧
  (∀ (d : Nat) (a0 a1 a2 a4 : Value) (x : Nat) (st : List Value) (h : fk_H), fk_ev d qX3_value 62 [a0, a1, a2, .ref x, a4] st h = fk_ev d qX3_value 63 [a0, a1, a2, .ref x, a4] (.ref x :: st) h) ∧
  (∀ (d : Nat) (L : List Value) (x0 : Int32) (x1 : Int32) (x2 : Nat) (w0 w1 : Value) (N : Nat) (y : Nat → Nat → Int32) (l : Nat → Nat → Int64) (c : Nat), fk_at c 3 → fk_ev (d + 1) qX3_value 63 L (.ref x2 :: .int x1 :: .int x0 :: .ref c :: [w0, w1]) (fk_E N y l) = (fk_ev d qX3_run 0 [.ref c, .int x0, .int x1, .ref x2, .null, .null, .null, .null, .null] [] (fk_E N y l)).bind fun o => fk_ev (d + 1) qX3_value 66 L (o.1.toList ++ [w0, w1]) o.2) ∧
  (∀ (d : Nat) (L : List Value) (x y : Int32) (w0 : Value) (h : fk_H), fk_ev d qX3_value 66 L (.int y :: .int x :: [w0]) h = fk_ev d qX3_value 69 L (.int (if y < x then y else x) :: [w0]) h) ∧
  (∀ (d : Nat) (L : List Value) (x y : Int32) (h : fk_H), fk_ev d qX3_value 69 L (.int y :: .int x :: []) h = fk_ev d qX3_value 72 L (.int (if x < y then y else x) :: []) h) ∧
  (∀ (d : Nat) (L : List Value) (x : Int32) (h : fk_H), fk_ev d qX3_value 72 L [.int x] h = some (some (.int x), h)) ∧
  (∀ (d : Nat) (a0 a1 a2 a3 : Value) (x : Int32) (st : List Value) (h : fk_H), fk_ev d qX3_value 73 [a0, a1, a2, a3, .int x] st h = fk_ev d qX3_value 76 [a0, a1, a2, a3, .int (x + nI 1)] st h) ∧
  (∀ (d : Nat) (L st : List Value) (h : fk_H), fk_ev d qX3_value 76 L st h = fk_ev d qX3_value 3 L st h) ∧
  (∀ (d : Nat) (L st : List Value) (h : fk_H), fk_ev d qX3_value 79 L st h = fk_ev d qX3_value 80 L (.int (nI 0) :: st) h) ∧
  (∀ (d : Nat) (L : List Value) (x : Int32) (h : fk_H), fk_ev d qX3_value 80 L [.int x] h = some (some (.int x), h)) := ⟨fun d L st h => fk_w_iconst dX3_value_0 (by decide),
  fun d a0 a1 a2 a3 a4 x st h => fk_w_istore 4 5 [] [a0, a1, a2, a3, a4] [a0, a1, a2, a3, .int x] dX3_value_1 rfl rfl (by decide) rfl,
  fun d a1 a2 a3 a4 x st h => fk_w_aloadn 0 [.ref x, a1, a2, a3, a4] dX3_value_5 rfl,
  fun d L st N y l c hc => fk_g_getI rfl lf_3_37 (by decide) dX3_value_6 hc,
  fun d L x y st h => fk_r_icmp_ge dX3_value_9 (by decide),
  fun d a1 a2 a3 a4 x st h => fk_w_aloadn 0 [.ref x, a1, a2, a3, a4] dX3_value_12 rfl,
  fun d L st N y l c hc => fk_g_getC rfl lf_3_18 (by decide) rfl dX3_value_13 hc,
  fun d a0 a1 a2 a3 x st h => fk_w_iload 4 [a0, a1, a2, a3, .int x] dX3_value_16 rfl,
  fun d L st N y l c i hc hi hl => fk_h_iald dX3_value_18 hc hi hl,
  fun d a0 a2 a3 a4 x st h => fk_w_iloadn 1 [a0, .int x, a2, a3, a4] dX3_value_19 rfl,
  fun d L x y st h => fk_r_icmp_ne dX3_value_20 (by decide),
  fun d a1 a2 a3 a4 x st h => fk_w_aloadn 0 [.ref x, a1, a2, a3, a4] dX3_value_23 rfl,
  fun d a1 a2 a3 a4 x st h => fk_w_aloadn 0 [.ref x, a1, a2, a3, a4] dX3_value_24 rfl,
  fun d L st N y l c hc => fk_g_getC rfl lf_3_24 (by decide) rfl dX3_value_25 hc,
  fun d a0 a1 a2 a3 x st h => fk_w_iload 4 [a0, a1, a2, a3, .int x] dX3_value_28 rfl,
  fun d L st N y l c i hc hi hl => fk_h_iald dX3_value_30 hc hi hl,
  fun d a1 a2 a3 a4 x st h => fk_w_aloadn 0 [.ref x, a1, a2, a3, a4] dX3_value_31 rfl,
  fun d L st N y l c hc => fk_g_getC rfl lf_3_27 (by decide) rfl dX3_value_32 hc,
  fun d a0 a1 a2 a3 x st h => fk_w_iload 4 [a0, a1, a2, a3, .int x] dX3_value_35 rfl,
  fun d L st N y l c i hc hi hl => fk_h_iald dX3_value_37 hc hi hl,
  fun d a0 a1 a2 a4 x st h => fk_w_aloadn 3 [a0, a1, a2, .ref x, a4] dX3_value_38 rfl,
  fun d L x0 x1 x2 N y l c hc => fk_g_call [.int x0, .int x1, .ref x2] [] rfl lm_3_40 dX3_value_39 rfl ⟨rfl, by decide⟩ (by simp) hc,
  fun d L x st h => fk_r_if_eq dX3_value_42 (by decide),
  fun d L st h => fk_w_iconst dX3_value_45 (by decide),
  fun d a0 a1 a3 a4 x st h => fk_w_iloadn 2 [a0, a1, .int x, a3, a4] dX3_value_46 rfl,
  fun d a1 a2 a3 a4 x st h => fk_w_aloadn 0 [.ref x, a1, a2, a3, a4] dX3_value_47 rfl,
  fun d a1 a2 a3 a4 x st h => fk_w_aloadn 0 [.ref x, a1, a2, a3, a4] dX3_value_48 rfl,
  fun d L st N y l c hc => fk_g_getC rfl lf_3_21 (by decide) rfl dX3_value_49 hc,
  fun d a0 a1 a2 a3 x st h => fk_w_iload 4 [a0, a1, a2, a3, .int x] dX3_value_52 rfl,
  fun d L st N y l c i hc hi hl => fk_h_iald dX3_value_54 hc hi hl,
  fun d a1 a2 a3 a4 x st h => fk_w_aloadn 0 [.ref x, a1, a2, a3, a4] dX3_value_55 rfl,
  fun d L st N y l c hc => fk_g_getC rfl lf_3_24 (by decide) rfl dX3_value_56 hc,
  fun d a0 a1 a2 a3 x st h => fk_w_iload 4 [a0, a1, a2, a3, .int x] dX3_value_59 rfl,
  fun d L st N y l c i hc hi hl => fk_h_iald dX3_value_61 hc hi hl,
  fun d a0 a1 a2 a4 x st h => fk_w_aloadn 3 [a0, a1, a2, .ref x, a4] dX3_value_62 rfl,
  fun d L x0 x1 x2 w0 w1 N y l c hc => fk_g_call [.int x0, .int x1, .ref x2] [w0, w1] rfl lm_3_40 dX3_value_63 rfl ⟨rfl, by decide⟩ (by simp) hc,
  fun d L x y w0 h => fk_p_min dX3_value_66 ln_3_44 lp_3_44 (by simp),
  fun d L x y  h => fk_p_max dX3_value_69 ln_3_50 lp_3_50 (by simp),
  fun d L x h => fk_r_ret dX3_value_72 (Or.inl rfl),
  fun d a0 a1 a2 a3 x st h => fk_w_iinc 4 5 (1) [] [a0, a1, a2, a3, .int x] [a0, a1, a2, a3, .int (x + nI 1)] dX3_value_73 rfl rfl rfl (by decide) rfl,
  fun d L st h => fk_r_goto dX3_value_76 (by decide),
  fun d L st h => fk_w_iconst dX3_value_79 (by decide),
  fun d L x h => fk_r_ret dX3_value_80 (Or.inl rfl)⟩
theorem hX3_value_3 : ∀ (d : Nat) (a0 a1 a2 a3 : Value) (x : Int32) (st : List Value) (h : fk_H), fk_ev d qX3_value 3 [a0, a1, a2, a3, .int x] st h = fk_ev d qX3_value 5 [a0, a1, a2, a3, .int x] (.int x :: st) h := fun d a0 a1 a2 a3 x st h => fk_w_iload 4 [a0, a1, a2, a3, .int x] dX3_value_3 rfl
theorem dX3_run_0 : decode cX3_run 0 = .ok (.iconst (-1), 1) := by decide +kernel
theorem dX3_run_1 : decode cX3_run 1 = .ok (.istore 4, 2) := by decide +kernel
theorem dX3_run_3 : decode cX3_run 3 = .ok (.iload_n 1, 1) := by decide +kernel
theorem dX3_run_4 : decode cX3_run 4 = .ok (.istore 5, 2) := by decide +kernel
theorem dX3_run_6 : decode cX3_run 6 = .ok (.iload 5, 2) := by decide +kernel
theorem dX3_run_8 : decode cX3_run 8 = .ok (.iload_n 2, 1) := by decide +kernel
theorem dX3_run_9 : decode cX3_run 9 = .ok (.if_icmp .ge 447, 3) := by decide +kernel
theorem dX3_run_12 : decode cX3_run 12 = .ok (.iload 5, 2) := by decide +kernel
theorem dX3_run_14 : decode cX3_run 14 = .ok (.aload_n 0, 1) := by decide +kernel
theorem dX3_run_15 : decode cX3_run 15 = .ok (.getfield 9, 3) := by decide +kernel
theorem dX3_run_18 : decode cX3_run 18 = .ok (.arraylength, 1) := by decide +kernel
theorem dX3_run_19 : decode cX3_run 19 = .ok (.if_icmp .ge 437, 3) := by decide +kernel
theorem dX3_run_22 : decode cX3_run 22 = .ok (.aload_n 0, 1) := by decide +kernel
theorem dX3_run_23 : decode cX3_run 23 = .ok (.getfield 9, 3) := by decide +kernel
theorem dX3_run_26 : decode cX3_run 26 = .ok (.iload 5, 2) := by decide +kernel
theorem dX3_run_28 : decode cX3_run 28 = .ok (.iaload, 1) := by decide +kernel
theorem dX3_run_29 : decode cX3_run 29 = .ok (.istore 6, 2) := by decide +kernel
theorem dX3_run_31 : decode cX3_run 31 = .ok (.iload 6, 2) := by decide +kernel
theorem dX3_run_33 : decode cX3_run 33 = .ok (.ifCond .eq 9, 3) := by decide +kernel
theorem dX3_run_36 : decode cX3_run 36 = .ok (.iload 6, 2) := by decide +kernel
theorem dX3_run_38 : decode cX3_run 38 = .ok (.iconst 1, 1) := by decide +kernel
theorem dX3_run_39 : decode cX3_run 39 = .ok (.if_icmp .ne 54, 3) := by decide +kernel
theorem dX3_run_42 : decode cX3_run 42 = .ok (.iload 4, 2) := by decide +kernel
theorem dX3_run_44 : decode cX3_run 44 = .ok (.iconst 1, 1) := by decide +kernel
theorem dX3_run_45 : decode cX3_run 45 = .ok (.iadd, 1) := by decide +kernel
theorem dX3_run_46 : decode cX3_run 46 = .ok (.aload_n 0, 1) := by decide +kernel
theorem dX3_run_47 : decode cX3_run 47 = .ok (.getfield 30, 3) := by decide +kernel
theorem dX3_run_50 : decode cX3_run 50 = .ok (.arraylength, 1) := by decide +kernel
theorem dX3_run_51 : decode cX3_run 51 = .ok (.if_icmp .lt 5, 3) := by decide +kernel
theorem dX3_run_54 : decode cX3_run 54 = .ok (.iconst 0, 1) := by decide +kernel
theorem dX3_run_55 : decode cX3_run 55 = .ok (.ireturn, 1) := by decide +kernel
theorem dX3_run_56 : decode cX3_run 56 = .ok (.iinc 4 1, 3) := by decide +kernel
theorem dX3_run_59 : decode cX3_run 59 = .ok (.aload_n 0, 1) := by decide +kernel
theorem dX3_run_60 : decode cX3_run 60 = .ok (.getfield 30, 3) := by decide +kernel
theorem dX3_run_63 : decode cX3_run 63 = .ok (.iload 4, 2) := by decide +kernel
theorem dX3_run_65 : decode cX3_run 65 = .ok (.iload 6, 2) := by decide +kernel
theorem dX3_run_67 : decode cX3_run 67 = .ok (.ifCond .ne 13, 3) := by decide +kernel
theorem dX3_run_70 : decode cX3_run 70 = .ok (.aload_n 0, 1) := by decide +kernel
theorem dX3_run_71 : decode cX3_run 71 = .ok (.getfield 15, 3) := by decide +kernel
theorem dX3_run_74 : decode cX3_run 74 = .ok (.iload 5, 2) := by decide +kernel
theorem dX3_run_76 : decode cX3_run 76 = .ok (.iaload, 1) := by decide +kernel
theorem dX3_run_77 : decode cX3_run 77 = .ok (.goto 12, 3) := by decide +kernel
theorem dX3_run_80 : decode cX3_run 80 = .ok (.aload_n 3, 1) := by decide +kernel
theorem dX3_run_81 : decode cX3_run 81 = .ok (.aload_n 0, 1) := by decide +kernel
theorem dX3_run_82 : decode cX3_run 82 = .ok (.getfield 15, 3) := by decide +kernel
theorem dX3_run_85 : decode cX3_run 85 = .ok (.iload 5, 2) := by decide +kernel
theorem dX3_run_87 : decode cX3_run 87 = .ok (.iaload, 1) := by decide +kernel
theorem dX3_run_88 : decode cX3_run 88 = .ok (.iaload, 1) := by decide +kernel
theorem dX3_run_89 : decode cX3_run 89 = .ok (.iastore, 1) := by decide +kernel
theorem dX3_run_90 : decode cX3_run 90 = .ok (.goto 360, 3) := by decide +kernel
theorem dX3_run_93 : decode cX3_run 93 = .ok (.iload 4, 2) := by decide +kernel
theorem dX3_run_95 : decode cX3_run 95 = .ok (.ifCond .ge 5, 3) := by decide +kernel
theorem dX3_run_98 : decode cX3_run 98 = .ok (.iconst 0, 1) := by decide +kernel
theorem dX3_run_99 : decode cX3_run 99 = .ok (.ireturn, 1) := by decide +kernel
theorem dX3_run_100 : decode cX3_run 100 = .ok (.aload_n 0, 1) := by decide +kernel
theorem dX3_run_101 : decode cX3_run 101 = .ok (.getfield 30, 3) := by decide +kernel
theorem dX3_run_104 : decode cX3_run 104 = .ok (.iload 4, 2) := by decide +kernel
theorem dX3_run_106 : decode cX3_run 106 = .ok (.iaload, 1) := by decide +kernel
theorem dX3_run_107 : decode cX3_run 107 = .ok (.istore 7, 2) := by decide +kernel
theorem dX3_run_109 : decode cX3_run 109 = .ok (.iload 6, 2) := by decide +kernel
theorem dX3_run_111 : decode cX3_run 111 = .ok (.iconst 2, 1) := by decide +kernel
theorem dX3_run_112 : decode cX3_run 112 = .ok (.if_icmp .ne 23, 3) := by decide +kernel
theorem dX3_run_115 : decode cX3_run 115 = .ok (.aload_n 0, 1) := by decide +kernel
theorem dX3_run_116 : decode cX3_run 116 = .ok (.getfield 30, 3) := by decide +kernel
theorem dX3_run_119 : decode cX3_run 119 = .ok (.iload 4, 2) := by decide +kernel
theorem dX3_run_121 : decode cX3_run 121 = .ok (.iload 7, 2) := by decide +kernel
theorem dX3_run_123 : decode cX3_run 123 = .ok (.ifCond .ne 7, 3) := by decide +kernel
theorem dX3_run_126 : decode cX3_run 126 = .ok (.iconst 1, 1) := by decide +kernel
theorem dX3_run_127 : decode cX3_run 127 = .ok (.goto 4, 3) := by decide +kernel
theorem dX3_run_130 : decode cX3_run 130 = .ok (.iconst 0, 1) := by decide +kernel
theorem dX3_run_131 : decode cX3_run 131 = .ok (.iastore, 1) := by decide +kernel
theorem dX3_run_132 : decode cX3_run 132 = .ok (.goto 318, 3) := by decide +kernel
theorem dX3_run_135 : decode cX3_run 135 = .ok (.iload 6, 2) := by decide +kernel
theorem dX3_run_137 : decode cX3_run 137 = .ok (.iconst 3, 1) := by decide +kernel
theorem dX3_run_138 : decode cX3_run 138 = .ok (.if_icmp .eq 9, 3) := by decide +kernel
theorem dX3_run_141 : decode cX3_run 141 = .ok (.iload 6, 2) := by decide +kernel
theorem dX3_run_143 : decode cX3_run 143 = .ok (.iconst 4, 1) := by decide +kernel
theorem dX3_run_144 : decode cX3_run 144 = .ok (.if_icmp .ne 59, 3) := by decide +kernel
theorem dX3_run_147 : decode cX3_run 147 = .ok (.iload 7, 2) := by decide +kernel
theorem dX3_run_149 : decode cX3_run 149 = .ok (.ifCond .eq 7, 3) := by decide +kernel
theorem dX3_run_152 : decode cX3_run 152 = .ok (.iconst 1, 1) := by decide +kernel
theorem dX3_run_153 : decode cX3_run 153 = .ok (.goto 4, 3) := by decide +kernel
theorem dX3_run_156 : decode cX3_run 156 = .ok (.iconst 0, 1) := by decide +kernel
theorem dX3_run_157 : decode cX3_run 157 = .ok (.iload 6, 2) := by decide +kernel
theorem dX3_run_159 : decode cX3_run 159 = .ok (.iconst 4, 1) := by decide +kernel
theorem dX3_run_160 : decode cX3_run 160 = .ok (.if_icmp .ne 7, 3) := by decide +kernel
theorem dX3_run_163 : decode cX3_run 163 = .ok (.iconst 1, 1) := by decide +kernel
theorem dX3_run_164 : decode cX3_run 164 = .ok (.goto 4, 3) := by decide +kernel
theorem dX3_run_167 : decode cX3_run 167 = .ok (.iconst 0, 1) := by decide +kernel
theorem dX3_run_168 : decode cX3_run 168 = .ok (.if_icmp .eq 9, 3) := by decide +kernel
theorem dX3_run_171 : decode cX3_run 171 = .ok (.iinc 4 (-1), 3) := by decide +kernel
theorem dX3_run_174 : decode cX3_run 174 = .ok (.goto 276, 3) := by decide +kernel
theorem dX3_run_177 : decode cX3_run 177 = .ok (.aload_n 0, 1) := by decide +kernel
theorem dX3_run_178 : decode cX3_run 178 = .ok (.getfield 15, 3) := by decide +kernel
theorem dX3_run_181 : decode cX3_run 181 = .ok (.iload 5, 2) := by decide +kernel
theorem dX3_run_183 : decode cX3_run 183 = .ok (.iaload, 1) := by decide +kernel
theorem dX3_run_184 : decode cX3_run 184 = .ok (.iload 5, 2) := by decide +kernel
theorem dX3_run_186 : decode cX3_run 186 = .ok (.if_icmp .le 264, 3) := by decide +kernel
theorem dX3_run_189 : decode cX3_run 189 = .ok (.aload_n 0, 1) := by decide +kernel
theorem dX3_run_190 : decode cX3_run 190 = .ok (.getfield 15, 3) := by decide +kernel
theorem dX3_run_193 : decode cX3_run 193 = .ok (.iload 5, 2) := by decide +kernel
theorem dX3_run_195 : decode cX3_run 195 = .ok (.iaload, 1) := by decide +kernel
theorem dX3_run_196 : decode cX3_run 196 = .ok (.iconst 1, 1) := by decide +kernel
theorem dX3_run_197 : decode cX3_run 197 = .ok (.isub, 1) := by decide +kernel
theorem dX3_run_198 : decode cX3_run 198 = .ok (.istore 5, 2) := by decide +kernel
theorem dX3_run_200 : decode cX3_run 200 = .ok (.goto 250, 3) := by decide +kernel
theorem dX3_run_203 : decode cX3_run 203 = .ok (.iload 4, 2) := by decide +kernel
theorem dX3_run_205 : decode cX3_run 205 = .ok (.iconst 1, 1) := by decide +kernel
theorem dX3_run_206 : decode cX3_run 206 = .ok (.if_icmp .lt 22, 3) := by decide +kernel
theorem dX3_run_209 : decode cX3_run 209 = .ok (.iload 7, 2) := by decide +kernel
theorem dX3_run_211 : decode cX3_run 211 = .ok (.ifCond .ne 19, 3) := by decide +kernel
theorem dX3_run_214 : decode cX3_run 214 = .ok (.iload 6, 2) := by decide +kernel
theorem dX3_run_216 : decode cX3_run 216 = .ok (.bipush 47, 2) := by decide +kernel
theorem dX3_run_218 : decode cX3_run 218 = .ok (.if_icmp .eq 10, 3) := by decide +kernel
theorem dX3_run_221 : decode cX3_run 221 = .ok (.iload 6, 2) := by decide +kernel
theorem dX3_run_223 : decode cX3_run 223 = .ok (.bipush 37, 2) := by decide +kernel
theorem dX3_run_225 : decode cX3_run 225 = .ok (.if_icmp .ne 5, 3) := by decide +kernel
theorem dX3_run_228 : decode cX3_run 228 = .ok (.iconst 0, 1) := by decide +kernel
theorem dX3_run_229 : decode cX3_run 229 = .ok (.ireturn, 1) := by decide +kernel
theorem dX3_run_230 : decode cX3_run 230 = .ok (.iinc 4 (-1), 3) := by decide +kernel
theorem dX3_run_233 : decode cX3_run 233 = .ok (.aload_n 0, 1) := by decide +kernel
theorem dX3_run_234 : decode cX3_run 234 = .ok (.getfield 30, 3) := by decide +kernel
theorem dX3_run_237 : decode cX3_run 237 = .ok (.iload 4, 2) := by decide +kernel
theorem dX3_run_239 : decode cX3_run 239 = .ok (.iaload, 1) := by decide +kernel
theorem dX3_run_240 : decode cX3_run 240 = .ok (.istore 8, 2) := by decide +kernel
theorem dX3_run_242 : decode cX3_run 242 = .ok (.iload 6, 2) := by decide +kernel
theorem dX3_run_244 : decode cX3_run 244 = .ok (.lookupswitch 187 #[(37, 128), (42, 98), (43, 68), (45, 83), (47, 113), (60, 143), (62, 165)], 68) := by decide +kernel
theorem dX3_run_312 : decode cX3_run 312 = .ok (.aload_n 0, 1) := by decide +kernel
theorem dX3_run_313 : decode cX3_run 313 = .ok (.getfield 30, 3) := by decide +kernel
theorem dX3_run_316 : decode cX3_run 316 = .ok (.iload 4, 2) := by decide +kernel
theorem dX3_run_318 : decode cX3_run 318 = .ok (.iload 8, 2) := by decide +kernel
theorem dX3_run_320 : decode cX3_run 320 = .ok (.iload 7, 2) := by decide +kernel
theorem dX3_run_322 : decode cX3_run 322 = .ok (.iadd, 1) := by decide +kernel
theorem dX3_run_323 : decode cX3_run 323 = .ok (.iastore, 1) := by decide +kernel
theorem dX3_run_324 : decode cX3_run 324 = .ok (.goto 126, 3) := by decide +kernel
theorem dX3_run_327 : decode cX3_run 327 = .ok (.aload_n 0, 1) := by decide +kernel
theorem dX3_run_328 : decode cX3_run 328 = .ok (.getfield 30, 3) := by decide +kernel
theorem dX3_run_331 : decode cX3_run 331 = .ok (.iload 4, 2) := by decide +kernel
theorem dX3_run_333 : decode cX3_run 333 = .ok (.iload 8, 2) := by decide +kernel
theorem dX3_run_335 : decode cX3_run 335 = .ok (.iload 7, 2) := by decide +kernel
theorem dX3_run_337 : decode cX3_run 337 = .ok (.isub, 1) := by decide +kernel
theorem dX3_run_338 : decode cX3_run 338 = .ok (.iastore, 1) := by decide +kernel
theorem dX3_run_339 : decode cX3_run 339 = .ok (.goto 111, 3) := by decide +kernel
theorem dX3_run_342 : decode cX3_run 342 = .ok (.aload_n 0, 1) := by decide +kernel
theorem dX3_run_343 : decode cX3_run 343 = .ok (.getfield 30, 3) := by decide +kernel
theorem dX3_run_346 : decode cX3_run 346 = .ok (.iload 4, 2) := by decide +kernel
theorem dX3_run_348 : decode cX3_run 348 = .ok (.iload 8, 2) := by decide +kernel
theorem dX3_run_350 : decode cX3_run 350 = .ok (.iload 7, 2) := by decide +kernel
theorem dX3_run_352 : decode cX3_run 352 = .ok (.imul, 1) := by decide +kernel
theorem dX3_run_353 : decode cX3_run 353 = .ok (.iastore, 1) := by decide +kernel
theorem dX3_run_354 : decode cX3_run 354 = .ok (.goto 96, 3) := by decide +kernel
theorem dX3_run_357 : decode cX3_run 357 = .ok (.aload_n 0, 1) := by decide +kernel
theorem dX3_run_358 : decode cX3_run 358 = .ok (.getfield 30, 3) := by decide +kernel
theorem dX3_run_361 : decode cX3_run 361 = .ok (.iload 4, 2) := by decide +kernel
theorem dX3_run_363 : decode cX3_run 363 = .ok (.iload 8, 2) := by decide +kernel
theorem dX3_run_365 : decode cX3_run 365 = .ok (.iload 7, 2) := by decide +kernel
theorem dX3_run_367 : decode cX3_run 367 = .ok (.idiv, 1) := by decide +kernel
theorem dX3_run_368 : decode cX3_run 368 = .ok (.iastore, 1) := by decide +kernel
theorem dX3_run_369 : decode cX3_run 369 = .ok (.goto 81, 3) := by decide +kernel
theorem dX3_run_372 : decode cX3_run 372 = .ok (.aload_n 0, 1) := by decide +kernel
theorem dX3_run_373 : decode cX3_run 373 = .ok (.getfield 30, 3) := by decide +kernel
theorem dX3_run_376 : decode cX3_run 376 = .ok (.iload 4, 2) := by decide +kernel
theorem dX3_run_378 : decode cX3_run 378 = .ok (.iload 8, 2) := by decide +kernel
theorem dX3_run_380 : decode cX3_run 380 = .ok (.iload 7, 2) := by decide +kernel
theorem dX3_run_382 : decode cX3_run 382 = .ok (.irem, 1) := by decide +kernel
theorem dX3_run_383 : decode cX3_run 383 = .ok (.iastore, 1) := by decide +kernel
theorem dX3_run_384 : decode cX3_run 384 = .ok (.goto 66, 3) := by decide +kernel
theorem dX3_run_387 : decode cX3_run 387 = .ok (.aload_n 0, 1) := by decide +kernel
theorem dX3_run_388 : decode cX3_run 388 = .ok (.getfield 30, 3) := by decide +kernel
theorem dX3_run_391 : decode cX3_run 391 = .ok (.iload 4, 2) := by decide +kernel
theorem dX3_run_393 : decode cX3_run 393 = .ok (.iload 8, 2) := by decide +kernel
theorem dX3_run_395 : decode cX3_run 395 = .ok (.iload 7, 2) := by decide +kernel
theorem dX3_run_397 : decode cX3_run 397 = .ok (.if_icmp .ge 7, 3) := by decide +kernel
theorem dX3_run_400 : decode cX3_run 400 = .ok (.iconst 1, 1) := by decide +kernel
theorem dX3_run_401 : decode cX3_run 401 = .ok (.goto 4, 3) := by decide +kernel
theorem dX3_run_404 : decode cX3_run 404 = .ok (.iconst 0, 1) := by decide +kernel
theorem dX3_run_405 : decode cX3_run 405 = .ok (.iastore, 1) := by decide +kernel
theorem dX3_run_406 : decode cX3_run 406 = .ok (.goto 44, 3) := by decide +kernel
theorem dX3_run_409 : decode cX3_run 409 = .ok (.aload_n 0, 1) := by decide +kernel
theorem dX3_run_410 : decode cX3_run 410 = .ok (.getfield 30, 3) := by decide +kernel
theorem dX3_run_413 : decode cX3_run 413 = .ok (.iload 4, 2) := by decide +kernel
theorem dX3_run_415 : decode cX3_run 415 = .ok (.iload 8, 2) := by decide +kernel
theorem dX3_run_417 : decode cX3_run 417 = .ok (.iload 7, 2) := by decide +kernel
theorem dX3_run_419 : decode cX3_run 419 = .ok (.if_icmp .le 7, 3) := by decide +kernel
theorem dX3_run_422 : decode cX3_run 422 = .ok (.iconst 1, 1) := by decide +kernel
theorem dX3_run_423 : decode cX3_run 423 = .ok (.goto 4, 3) := by decide +kernel
theorem dX3_run_426 : decode cX3_run 426 = .ok (.iconst 0, 1) := by decide +kernel
theorem dX3_run_427 : decode cX3_run 427 = .ok (.iastore, 1) := by decide +kernel
theorem dX3_run_428 : decode cX3_run 428 = .ok (.goto 22, 3) := by decide +kernel
theorem dX3_run_431 : decode cX3_run 431 = .ok (.aload_n 0, 1) := by decide +kernel
theorem dX3_run_432 : decode cX3_run 432 = .ok (.getfield 30, 3) := by decide +kernel
theorem dX3_run_435 : decode cX3_run 435 = .ok (.iload 4, 2) := by decide +kernel
theorem dX3_run_437 : decode cX3_run 437 = .ok (.iload 8, 2) := by decide +kernel
theorem dX3_run_439 : decode cX3_run 439 = .ok (.iload 7, 2) := by decide +kernel
theorem dX3_run_441 : decode cX3_run 441 = .ok (.if_icmp .ne 7, 3) := by decide +kernel
theorem dX3_run_444 : decode cX3_run 444 = .ok (.iconst 1, 1) := by decide +kernel
theorem dX3_run_445 : decode cX3_run 445 = .ok (.goto 4, 3) := by decide +kernel
theorem dX3_run_448 : decode cX3_run 448 = .ok (.iconst 0, 1) := by decide +kernel
theorem dX3_run_449 : decode cX3_run 449 = .ok (.iastore, 1) := by decide +kernel
theorem dX3_run_450 : decode cX3_run 450 = .ok (.iinc 5 1, 3) := by decide +kernel
theorem dX3_run_453 : decode cX3_run 453 = .ok (.goto (-447), 3) := by decide +kernel
theorem dX3_run_456 : decode cX3_run 456 = .ok (.iload 4, 2) := by decide +kernel
theorem dX3_run_458 : decode cX3_run 458 = .ok (.ifCond .lt 13, 3) := by decide +kernel
theorem dX3_run_461 : decode cX3_run 461 = .ok (.aload_n 0, 1) := by decide +kernel
theorem dX3_run_462 : decode cX3_run 462 = .ok (.getfield 30, 3) := by decide +kernel
theorem dX3_run_465 : decode cX3_run 465 = .ok (.iload 4, 2) := by decide +kernel
theorem dX3_run_467 : decode cX3_run 467 = .ok (.iaload, 1) := by decide +kernel
theorem dX3_run_468 : decode cX3_run 468 = .ok (.goto 4, 3) := by decide +kernel
theorem dX3_run_471 : decode cX3_run 471 = .ok (.iconst 0, 1) := by decide +kernel
theorem dX3_run_472 : decode cX3_run 472 = .ok (.ireturn, 1) := by decide +kernel
theorem rX3_run : (∀ (d : Nat) (L st : List Value) (h : fk_H), fk_ev d qX3_run 0 L st h = fk_ev d qX3_run 1 L (.int ((-1 : Int32)) :: st) h) ∧
  (∀ (d : Nat) (a0 a1 a2 a3 a4 a5 a6 a7 a8 : Value) (x : Int32) (st : List Value) (h : fk_H), fk_ev d qX3_run 1 [a0, a1, a2, a3, a4, a5, a6, a7, a8] (.int x :: st) h = fk_ev d qX3_run 3 [a0, a1, a2, a3, .int x, a5, a6, a7, a8] st h) ∧
  (∀ (d : Nat) (a0 a2 a3 a4 a5 a6 a7 a8 : Value) (x : Int32) (st : List Value) (h : fk_H), fk_ev d qX3_run 3 [a0, .int x, a2, a3, a4, a5, a6, a7, a8] st h = fk_ev d qX3_run 4 [a0, .int x, a2, a3, a4, a5, a6, a7, a8] (.int x :: st) h) ∧
  (∀ (d : Nat) (a0 a1 a2 a3 a4 a5 a6 a7 a8 : Value) (x : Int32) (st : List Value) (h : fk_H), fk_ev d qX3_run 4 [a0, a1, a2, a3, a4, a5, a6, a7, a8] (.int x :: st) h = fk_ev d qX3_run 6 [a0, a1, a2, a3, a4, .int x, a6, a7, a8] st h) ∧
  (∀ (d : Nat) (a0 a1 a3 a4 a5 a6 a7 a8 : Value) (x : Int32) (st : List Value) (h : fk_H), fk_ev d qX3_run 8 [a0, a1, .int x, a3, a4, a5, a6, a7, a8] st h = fk_ev d qX3_run 9 [a0, a1, .int x, a3, a4, a5, a6, a7, a8] (.int x :: st) h) ∧
  (∀ (d : Nat) (L : List Value) (x y : Int32) (st : List Value) (h : fk_H), fk_ev d qX3_run 9 L (.int y :: .int x :: st) h = if y ≤ x then fk_ev d qX3_run 456 L st h else fk_ev d qX3_run 12 L st h) ∧
  (∀ (d : Nat) (a0 a1 a2 a3 a4 a6 a7 a8 : Value) (x : Int32) (st : List Value) (h : fk_H), fk_ev d qX3_run 12 [a0, a1, a2, a3, a4, .int x, a6, a7, a8] st h = fk_ev d qX3_run 14 [a0, a1, a2, a3, a4, .int x, a6, a7, a8] (.int x :: st) h) ∧
  (∀ (d : Nat) (a1 a2 a3 a4 a5 a6 a7 a8 : Value) (x : Nat) (st : List Value) (h : fk_H), fk_ev d qX3_run 14 [.ref x, a1, a2, a3, a4, a5, a6, a7, a8] st h = fk_ev d qX3_run 15 [.ref x, a1, a2, a3, a4, a5, a6, a7, a8] (.ref x :: st) h) ∧
  (∀ (d : Nat) (L st : List Value) (N : Nat) (y : Nat → Nat → Int32) (l : Nat → Nat → Int64) (c : Nat), fk_at c 3 → fk_ev d qX3_run 15 L (.ref c :: st) (fk_E N y l) = fk_ev d qX3_run 18 L (.ref (fk_cr c 0) :: st) (fk_E N y l)) ∧
  (∀ (d : Nat) (L st : List Value) (N : Nat) (y : Nat → Nat → Int32) (l : Nat → Nat → Int64) (c : Nat), fk_at c 20 → fk_ev d qX3_run 18 L (.ref c :: st) (fk_E N y l) = fk_ev d qX3_run 19 L (.int (nI (fk_shp c).2) :: st) (fk_E N y l)) ∧
  (∀ (d : Nat) (L : List Value) (x y : Int32) (st : List Value) (h : fk_H), fk_ev d qX3_run 19 L (.int y :: .int x :: st) h = if y ≤ x then fk_ev d qX3_run 456 L st h else fk_ev d qX3_run 22 L st h) ∧
  (∀ (d : Nat) (a1 a2 a3 a4 a5 a6 a7 a8 : Value) (x : Nat) (st : List Value) (h : fk_H), fk_ev d qX3_run 22 [.ref x, a1, a2, a3, a4, a5, a6, a7, a8] st h = fk_ev d qX3_run 23 [.ref x, a1, a2, a3, a4, a5, a6, a7, a8] (.ref x :: st) h) ∧
  (∀ (d : Nat) (L st : List Value) (N : Nat) (y : Nat → Nat → Int32) (l : Nat → Nat → Int64) (c : Nat), fk_at c 3 → fk_ev d qX3_run 23 L (.ref c :: st) (fk_E N y l) = fk_ev d qX3_run 26 L (.ref (fk_cr c 0) :: st) (fk_E N y l)) ∧
  (∀ (d : Nat) (a0 a1 a2 a3 a4 a6 a7 a8 : Value) (x : Int32) (st : List Value) (h : fk_H), fk_ev d qX3_run 26 [a0, a1, a2, a3, a4, .int x, a6, a7, a8] st h = fk_ev d qX3_run 28 [a0, a1, a2, a3, a4, .int x, a6, a7, a8] (.int x :: st) h) ∧
  (∀ (d : Nat) (L st : List Value) (N : Nat) (y : Nat → Nat → Int32) (l : Nat → Nat → Int64) (c i : Nat), fk_at c 20 → i < (fk_shp c).2 → (fk_shp c).2 < 2 ^ 31 → fk_ev d qX3_run 28 L (.int (nI i) :: .ref c :: st) (fk_E N y l) = fk_ev d qX3_run 29 L (.int (y c i) :: st) (fk_E N y l)) ∧
  (∀ (d : Nat) (a0 a1 a2 a3 a4 a5 a6 a7 a8 : Value) (x : Int32) (st : List Value) (h : fk_H), fk_ev d qX3_run 29 [a0, a1, a2, a3, a4, a5, a6, a7, a8] (.int x :: st) h = fk_ev d qX3_run 31 [a0, a1, a2, a3, a4, a5, .int x, a7, a8] st h) ∧
  (∀ (d : Nat) (a0 a1 a2 a3 a4 a5 a7 a8 : Value) (x : Int32) (st : List Value) (h : fk_H), fk_ev d qX3_run 31 [a0, a1, a2, a3, a4, a5, .int x, a7, a8] st h = fk_ev d qX3_run 33 [a0, a1, a2, a3, a4, a5, .int x, a7, a8] (.int x :: st) h) ∧
  (∀ (d : Nat) (L : List Value) (x : Int32) (st : List Value) (h : fk_H), fk_ev d qX3_run 33 L (.int x :: st) h = if x = nI 0 then fk_ev d qX3_run 42 L st h else fk_ev d qX3_run 36 L st h) ∧
  (∀ (d : Nat) (a0 a1 a2 a3 a4 a5 a7 a8 : Value) (x : Int32) (st : List Value) (h : fk_H), fk_ev d qX3_run 36 [a0, a1, a2, a3, a4, a5, .int x, a7, a8] st h = fk_ev d qX3_run 38 [a0, a1, a2, a3, a4, a5, .int x, a7, a8] (.int x :: st) h) ∧
  (∀ (d : Nat) (L st : List Value) (h : fk_H), fk_ev d qX3_run 38 L st h = fk_ev d qX3_run 39 L (.int (nI 1) :: st) h) ∧
  (∀ (d : Nat) (L : List Value) (x y : Int32) (st : List Value) (h : fk_H), fk_ev d qX3_run 39 L (.int y :: .int x :: st) h = if ¬ x = y then fk_ev d qX3_run 93 L st h else fk_ev d qX3_run 42 L st h) ∧
  (∀ (d : Nat) (a0 a1 a2 a3 a5 a6 a7 a8 : Value) (x : Int32) (st : List Value) (h : fk_H), fk_ev d qX3_run 42 [a0, a1, a2, a3, .int x, a5, a6, a7, a8] st h = fk_ev d qX3_run 44 [a0, a1, a2, a3, .int x, a5, a6, a7, a8] (.int x :: st) h) ∧
  (∀ (d : Nat) (L st : List Value) (h : fk_H), fk_ev d qX3_run 44 L st h = fk_ev d qX3_run 45 L (.int (nI 1) :: st) h) ∧
  (∀ (d : Nat) (L : List Value) (x y : Int32) (st : List Value) (h : fk_H), fk_ev d qX3_run 45 L (.int y :: .int x :: st) h = fk_ev d qX3_run 46 L (.int (x + y) :: st) h) ∧
  (∀ (d : Nat) (a1 a2 a3 a4 a5 a6 a7 a8 : Value) (x : Nat) (st : List Value) (h : fk_H), fk_ev d qX3_run 46 [.ref x, a1, a2, a3, a4, a5, a6, a7, a8] st h = fk_ev d qX3_run 47 [.ref x, a1, a2, a3, a4, a5, a6, a7, a8] (.ref x :: st) h) ∧
  (∀ (d : Nat) (L st : List Value) (N : Nat) (y : Nat → Nat → Int32) (l : Nat → Nat → Int64) (c : Nat), fk_at c 3 → fk_ev d qX3_run 47 L (.ref c :: st) (fk_E N y l) = fk_ev d qX3_run 50 L (.ref (fk_cr c 6) :: st) (fk_E N y l)) ∧
  (∀ (d : Nat) (L st : List Value) (N : Nat) (y : Nat → Nat → Int32) (l : Nat → Nat → Int64) (c : Nat), fk_at c 20 → fk_ev d qX3_run 50 L (.ref c :: st) (fk_E N y l) = fk_ev d qX3_run 51 L (.int (nI (fk_shp c).2) :: st) (fk_E N y l)) ∧
  (∀ (d : Nat) (L : List Value) (x y : Int32) (st : List Value) (h : fk_H), fk_ev d qX3_run 51 L (.int y :: .int x :: st) h = if x < y then fk_ev d qX3_run 56 L st h else fk_ev d qX3_run 54 L st h) ∧
  (∀ (d : Nat) (L st : List Value) (h : fk_H), fk_ev d qX3_run 54 L st h = fk_ev d qX3_run 55 L (.int (nI 0) :: st) h) ∧
  (∀ (d : Nat) (L : List Value) (x : Int32) (h : fk_H), fk_ev d qX3_run 55 L [.int x] h = some (some (.int x), h)) ∧
  (∀ (d : Nat) (a0 a1 a2 a3 a5 a6 a7 a8 : Value) (x : Int32) (st : List Value) (h : fk_H), fk_ev d qX3_run 56 [a0, a1, a2, a3, .int x, a5, a6, a7, a8] st h = fk_ev d qX3_run 59 [a0, a1, a2, a3, .int (x + nI 1), a5, a6, a7, a8] st h) ∧
  (∀ (d : Nat) (a1 a2 a3 a4 a5 a6 a7 a8 : Value) (x : Nat) (st : List Value) (h : fk_H), fk_ev d qX3_run 59 [.ref x, a1, a2, a3, a4, a5, a6, a7, a8] st h = fk_ev d qX3_run 60 [.ref x, a1, a2, a3, a4, a5, a6, a7, a8] (.ref x :: st) h) ∧
  (∀ (d : Nat) (L st : List Value) (N : Nat) (y : Nat → Nat → Int32) (l : Nat → Nat → Int64) (c : Nat), fk_at c 3 → fk_ev d qX3_run 60 L (.ref c :: st) (fk_E N y l) = fk_ev d qX3_run 63 L (.ref (fk_cr c 6) :: st) (fk_E N y l)) ∧
  (∀ (d : Nat) (a0 a1 a2 a3 a5 a6 a7 a8 : Value) (x : Int32) (st : List Value) (h : fk_H), fk_ev d qX3_run 63 [a0, a1, a2, a3, .int x, a5, a6, a7, a8] st h = fk_ev d qX3_run 65 [a0, a1, a2, a3, .int x, a5, a6, a7, a8] (.int x :: st) h) ∧
  (∀ (d : Nat) (a0 a1 a2 a3 a4 a5 a7 a8 : Value) (x : Int32) (st : List Value) (h : fk_H), fk_ev d qX3_run 65 [a0, a1, a2, a3, a4, a5, .int x, a7, a8] st h = fk_ev d qX3_run 67 [a0, a1, a2, a3, a4, a5, .int x, a7, a8] (.int x :: st) h) ∧
  (∀ (d : Nat) (L : List Value) (x : Int32) (st : List Value) (h : fk_H), fk_ev d qX3_run 67 L (.int x :: st) h = if ¬ x = nI 0 then fk_ev d qX3_run 80 L st h else fk_ev d qX3_run 70 L st h) ∧
  (∀ (d : Nat) (a1 a2 a3 a4 a5 a6 a7 a8 : Value) (x : Nat) (st : List Value) (h : fk_H), fk_ev d qX3_run 70 [.ref x, a1, a2, a3, a4, a5, a6, a7, a8] st h = fk_ev d qX3_run 71 [.ref x, a1, a2, a3, a4, a5, a6, a7, a8] (.ref x :: st) h) ∧
  (∀ (d : Nat) (L st : List Value) (N : Nat) (y : Nat → Nat → Int32) (l : Nat → Nat → Int64) (c : Nat), fk_at c 3 → fk_ev d qX3_run 71 L (.ref c :: st) (fk_E N y l) = fk_ev d qX3_run 74 L (.ref (fk_cr c 1) :: st) (fk_E N y l)) ∧
  (∀ (d : Nat) (a0 a1 a2 a3 a4 a6 a7 a8 : Value) (x : Int32) (st : List Value) (h : fk_H), fk_ev d qX3_run 74 [a0, a1, a2, a3, a4, .int x, a6, a7, a8] st h = fk_ev d qX3_run 76 [a0, a1, a2, a3, a4, .int x, a6, a7, a8] (.int x :: st) h) ∧
  (∀ (d : Nat) (L st : List Value) (N : Nat) (y : Nat → Nat → Int32) (l : Nat → Nat → Int64) (c i : Nat), fk_at c 20 → i < (fk_shp c).2 → (fk_shp c).2 < 2 ^ 31 → fk_ev d qX3_run 76 L (.int (nI i) :: .ref c :: st) (fk_E N y l) = fk_ev d qX3_run 77 L (.int (y c i) :: st) (fk_E N y l)) ∧
  (∀ (d : Nat) (L st : List Value) (h : fk_H), fk_ev d qX3_run 77 L st h = fk_ev d qX3_run 89 L st h) ∧
  (∀ (d : Nat) (a0 a1 a2 a4 a5 a6 a7 a8 : Value) (x : Nat) (st : List Value) (h : fk_H), fk_ev d qX3_run 80 [a0, a1, a2, .ref x, a4, a5, a6, a7, a8] st h = fk_ev d qX3_run 81 [a0, a1, a2, .ref x, a4, a5, a6, a7, a8] (.ref x :: st) h) ∧
  (∀ (d : Nat) (a1 a2 a3 a4 a5 a6 a7 a8 : Value) (x : Nat) (st : List Value) (h : fk_H), fk_ev d qX3_run 81 [.ref x, a1, a2, a3, a4, a5, a6, a7, a8] st h = fk_ev d qX3_run 82 [.ref x, a1, a2, a3, a4, a5, a6, a7, a8] (.ref x :: st) h) ∧
  (∀ (d : Nat) (L st : List Value) (N : Nat) (y : Nat → Nat → Int32) (l : Nat → Nat → Int64) (c : Nat), fk_at c 3 → fk_ev d qX3_run 82 L (.ref c :: st) (fk_E N y l) = fk_ev d qX3_run 85 L (.ref (fk_cr c 1) :: st) (fk_E N y l)) ∧
  (∀ (d : Nat) (a0 a1 a2 a3 a4 a6 a7 a8 : Value) (x : Int32) (st : List Value) (h : fk_H), fk_ev d qX3_run 85 [a0, a1, a2, a3, a4, .int x, a6, a7, a8] st h = fk_ev d qX3_run 87 [a0, a1, a2, a3, a4, .int x, a6, a7, a8] (.int x :: st) h) ∧
  (∀ (d : Nat) (L st : List Value) (N : Nat) (y : Nat → Nat → Int32) (l : Nat → Nat → Int64) (c i : Nat), fk_at c 20 → i < (fk_shp c).2 → (fk_shp c).2 < 2 ^ 31 → fk_ev d qX3_run 87 L (.int (nI i) :: .ref c :: st) (fk_E N y l) = fk_ev d qX3_run 88 L (.int (y c i) :: st) (fk_E N y l)) ∧
  (∀ (d : Nat) (L st : List Value) (N : Nat) (y : Nat → Nat → Int32) (l : Nat → Nat → Int64) (c i : Nat), fk_at c 20 → i < (fk_shp c).2 → (fk_shp c).2 < 2 ^ 31 → fk_ev d qX3_run 88 L (.int (nI i) :: .ref c :: st) (fk_E N y l) = fk_ev d qX3_run 89 L (.int (y c i) :: st) (fk_E N y l)) ∧
  (∀ (d : Nat) (L st : List Value) (N : Nat) (y : Nat → Nat → Int32) (l : Nat → Nat → Int64) (c i : Nat) (v : Int32), fk_at c 20 → i < (fk_shp c).2 → (fk_shp c).2 < 2 ^ 31 → fk_ev d qX3_run 89 L (.int v :: .int (nI i) :: .ref c :: st) (fk_E N y l) = fk_ev d qX3_run 90 L st (fk_E N (fk_u y c i v) l)) ∧
  (∀ (d : Nat) (L st : List Value) (h : fk_H), fk_ev d qX3_run 90 L st h = fk_ev d qX3_run 450 L st h) ∧
  (∀ (d : Nat) (a0 a1 a2 a3 a5 a6 a7 a8 : Value) (x : Int32) (st : List Value) (h : fk_H), fk_ev d qX3_run 93 [a0, a1, a2, a3, .int x, a5, a6, a7, a8] st h = fk_ev d qX3_run 95 [a0, a1, a2, a3, .int x, a5, a6, a7, a8] (.int x :: st) h) ∧
  (∀ (d : Nat) (L : List Value) (x : Int32) (st : List Value) (h : fk_H), fk_ev d qX3_run 95 L (.int x :: st) h = if nI 0 ≤ x then fk_ev d qX3_run 100 L st h else fk_ev d qX3_run 98 L st h) ∧
  (∀ (d : Nat) (L st : List Value) (h : fk_H), fk_ev d qX3_run 98 L st h = fk_ev d qX3_run 99 L (.int (nI 0) :: st) h) ∧
  (∀ (d : Nat) (L : List Value) (x : Int32) (h : fk_H), fk_ev d qX3_run 99 L [.int x] h = some (some (.int x), h)) ∧
  (∀ (d : Nat) (a1 a2 a3 a4 a5 a6 a7 a8 : Value) (x : Nat) (st : List Value) (h : fk_H), fk_ev d qX3_run 100 [.ref x, a1, a2, a3, a4, a5, a6, a7, a8] st h = fk_ev d qX3_run 101 [.ref x, a1, a2, a3, a4, a5, a6, a7, a8] (.ref x :: st) h) ∧
  (∀ (d : Nat) (L st : List Value) (N : Nat) (y : Nat → Nat → Int32) (l : Nat → Nat → Int64) (c : Nat), fk_at c 3 → fk_ev d qX3_run 101 L (.ref c :: st) (fk_E N y l) = fk_ev d qX3_run 104 L (.ref (fk_cr c 6) :: st) (fk_E N y l)) ∧
  (∀ (d : Nat) (a0 a1 a2 a3 a5 a6 a7 a8 : Value) (x : Int32) (st : List Value) (h : fk_H), fk_ev d qX3_run 104 [a0, a1, a2, a3, .int x, a5, a6, a7, a8] st h = fk_ev d qX3_run 106 [a0, a1, a2, a3, .int x, a5, a6, a7, a8] (.int x :: st) h) ∧
  (∀ (d : Nat) (L st : List Value) (N : Nat) (y : Nat → Nat → Int32) (l : Nat → Nat → Int64) (c i : Nat), fk_at c 20 → i < (fk_shp c).2 → (fk_shp c).2 < 2 ^ 31 → fk_ev d qX3_run 106 L (.int (nI i) :: .ref c :: st) (fk_E N y l) = fk_ev d qX3_run 107 L (.int (y c i) :: st) (fk_E N y l)) ∧
  (∀ (d : Nat) (a0 a1 a2 a3 a4 a5 a6 a7 a8 : Value) (x : Int32) (st : List Value) (h : fk_H), fk_ev d qX3_run 107 [a0, a1, a2, a3, a4, a5, a6, a7, a8] (.int x :: st) h = fk_ev d qX3_run 109 [a0, a1, a2, a3, a4, a5, a6, .int x, a8] st h) ∧
  (∀ (d : Nat) (a0 a1 a2 a3 a4 a5 a7 a8 : Value) (x : Int32) (st : List Value) (h : fk_H), fk_ev d qX3_run 109 [a0, a1, a2, a3, a4, a5, .int x, a7, a8] st h = fk_ev d qX3_run 111 [a0, a1, a2, a3, a4, a5, .int x, a7, a8] (.int x :: st) h) ∧
  (∀ (d : Nat) (L st : List Value) (h : fk_H), fk_ev d qX3_run 111 L st h = fk_ev d qX3_run 112 L (.int (nI 2) :: st) h) ∧
  (∀ (d : Nat) (L : List Value) (x y : Int32) (st : List Value) (h : fk_H), fk_ev d qX3_run 112 L (.int y :: .int x :: st) h = if ¬ x = y then fk_ev d qX3_run 135 L st h else fk_ev d qX3_run 115 L st h) ∧
  (∀ (d : Nat) (a1 a2 a3 a4 a5 a6 a7 a8 : Value) (x : Nat) (st : List Value) (h : fk_H), fk_ev d qX3_run 115 [.ref x, a1, a2, a3, a4, a5, a6, a7, a8] st h = fk_ev d qX3_run 116 [.ref x, a1, a2, a3, a4, a5, a6, a7, a8] (.ref x :: st) h) ∧
  (∀ (d : Nat) (L st : List Value) (N : Nat) (y : Nat → Nat → Int32) (l : Nat → Nat → Int64) (c : Nat), fk_at c 3 → fk_ev d qX3_run 116 L (.ref c :: st) (fk_E N y l) = fk_ev d qX3_run 119 L (.ref (fk_cr c 6) :: st) (fk_E N y l)) ∧
  (∀ (d : Nat) (a0 a1 a2 a3 a5 a6 a7 a8 : Value) (x : Int32) (st : List Value) (h : fk_H), fk_ev d qX3_run 119 [a0, a1, a2, a3, .int x, a5, a6, a7, a8] st h = fk_ev d qX3_run 121 [a0, a1, a2, a3, .int x, a5, a6, a7, a8] (.int x :: st) h) ∧
  (∀ (d : Nat) (a0 a1 a2 a3 a4 a5 a6 a8 : Value) (x : Int32) (st : List Value) (h : fk_H), fk_ev d qX3_run 121 [a0, a1, a2, a3, a4, a5, a6, .int x, a8] st h = fk_ev d qX3_run 123 [a0, a1, a2, a3, a4, a5, a6, .int x, a8] (.int x :: st) h) ∧
  (∀ (d : Nat) (L : List Value) (x : Int32) (st : List Value) (h : fk_H), fk_ev d qX3_run 123 L (.int x :: st) h = if ¬ x = nI 0 then fk_ev d qX3_run 130 L st h else fk_ev d qX3_run 126 L st h) ∧
  (∀ (d : Nat) (L st : List Value) (h : fk_H), fk_ev d qX3_run 126 L st h = fk_ev d qX3_run 127 L (.int (nI 1) :: st) h) ∧
  (∀ (d : Nat) (L st : List Value) (h : fk_H), fk_ev d qX3_run 127 L st h = fk_ev d qX3_run 131 L st h) ∧
  (∀ (d : Nat) (L st : List Value) (h : fk_H), fk_ev d qX3_run 130 L st h = fk_ev d qX3_run 131 L (.int (nI 0) :: st) h) ∧
  (∀ (d : Nat) (L st : List Value) (N : Nat) (y : Nat → Nat → Int32) (l : Nat → Nat → Int64) (c i : Nat) (v : Int32), fk_at c 20 → i < (fk_shp c).2 → (fk_shp c).2 < 2 ^ 31 → fk_ev d qX3_run 131 L (.int v :: .int (nI i) :: .ref c :: st) (fk_E N y l) = fk_ev d qX3_run 132 L st (fk_E N (fk_u y c i v) l)) ∧
  (∀ (d : Nat) (L st : List Value) (h : fk_H), fk_ev d qX3_run 132 L st h = fk_ev d qX3_run 450 L st h) ∧
  (∀ (d : Nat) (a0 a1 a2 a3 a4 a5 a7 a8 : Value) (x : Int32) (st : List Value) (h : fk_H), fk_ev d qX3_run 135 [a0, a1, a2, a3, a4, a5, .int x, a7, a8] st h = fk_ev d qX3_run 137 [a0, a1, a2, a3, a4, a5, .int x, a7, a8] (.int x :: st) h) ∧
  (∀ (d : Nat) (L st : List Value) (h : fk_H), fk_ev d qX3_run 137 L st h = fk_ev d qX3_run 138 L (.int (nI 3) :: st) h) ∧
  (∀ (d : Nat) (L : List Value) (x y : Int32) (st : List Value) (h : fk_H), fk_ev d qX3_run 138 L (.int y :: .int x :: st) h = if x = y then fk_ev d qX3_run 147 L st h else fk_ev d qX3_run 141 L st h) ∧
  (∀ (d : Nat) (a0 a1 a2 a3 a4 a5 a7 a8 : Value) (x : Int32) (st : List Value) (h : fk_H), fk_ev d qX3_run 141 [a0, a1, a2, a3, a4, a5, .int x, a7, a8] st h = fk_ev d qX3_run 143 [a0, a1, a2, a3, a4, a5, .int x, a7, a8] (.int x :: st) h) ∧
  (∀ (d : Nat) (L st : List Value) (h : fk_H), fk_ev d qX3_run 143 L st h = fk_ev d qX3_run 144 L (.int (nI 4) :: st) h) ∧
  (∀ (d : Nat) (L : List Value) (x y : Int32) (st : List Value) (h : fk_H), fk_ev d qX3_run 144 L (.int y :: .int x :: st) h = if ¬ x = y then fk_ev d qX3_run 203 L st h else fk_ev d qX3_run 147 L st h) ∧
  (∀ (d : Nat) (a0 a1 a2 a3 a4 a5 a6 a8 : Value) (x : Int32) (st : List Value) (h : fk_H), fk_ev d qX3_run 147 [a0, a1, a2, a3, a4, a5, a6, .int x, a8] st h = fk_ev d qX3_run 149 [a0, a1, a2, a3, a4, a5, a6, .int x, a8] (.int x :: st) h) ∧
  (∀ (d : Nat) (L : List Value) (x : Int32) (st : List Value) (h : fk_H), fk_ev d qX3_run 149 L (.int x :: st) h = if x = nI 0 then fk_ev d qX3_run 156 L st h else fk_ev d qX3_run 152 L st h) ∧
  (∀ (d : Nat) (L st : List Value) (h : fk_H), fk_ev d qX3_run 152 L st h = fk_ev d qX3_run 153 L (.int (nI 1) :: st) h) ∧
  (∀ (d : Nat) (L st : List Value) (h : fk_H), fk_ev d qX3_run 153 L st h = fk_ev d qX3_run 157 L st h) ∧
  (∀ (d : Nat) (L st : List Value) (h : fk_H), fk_ev d qX3_run 156 L st h = fk_ev d qX3_run 157 L (.int (nI 0) :: st) h) ∧
  (∀ (d : Nat) (a0 a1 a2 a3 a4 a5 a7 a8 : Value) (x : Int32) (st : List Value) (h : fk_H), fk_ev d qX3_run 157 [a0, a1, a2, a3, a4, a5, .int x, a7, a8] st h = fk_ev d qX3_run 159 [a0, a1, a2, a3, a4, a5, .int x, a7, a8] (.int x :: st) h) ∧
  (∀ (d : Nat) (L st : List Value) (h : fk_H), fk_ev d qX3_run 159 L st h = fk_ev d qX3_run 160 L (.int (nI 4) :: st) h) ∧
  (∀ (d : Nat) (L : List Value) (x y : Int32) (st : List Value) (h : fk_H), fk_ev d qX3_run 160 L (.int y :: .int x :: st) h = if ¬ x = y then fk_ev d qX3_run 167 L st h else fk_ev d qX3_run 163 L st h) ∧
  (∀ (d : Nat) (L st : List Value) (h : fk_H), fk_ev d qX3_run 163 L st h = fk_ev d qX3_run 164 L (.int (nI 1) :: st) h) ∧
  (∀ (d : Nat) (L st : List Value) (h : fk_H), fk_ev d qX3_run 164 L st h = fk_ev d qX3_run 168 L st h) ∧
  (∀ (d : Nat) (L st : List Value) (h : fk_H), fk_ev d qX3_run 167 L st h = fk_ev d qX3_run 168 L (.int (nI 0) :: st) h) ∧
  (∀ (d : Nat) (L : List Value) (x y : Int32) (st : List Value) (h : fk_H), fk_ev d qX3_run 168 L (.int y :: .int x :: st) h = if x = y then fk_ev d qX3_run 177 L st h else fk_ev d qX3_run 171 L st h) ∧
  (∀ (d : Nat) (a0 a1 a2 a3 a5 a6 a7 a8 : Value) (x : Int32) (st : List Value) (h : fk_H), fk_ev d qX3_run 171 [a0, a1, a2, a3, .int x, a5, a6, a7, a8] st h = fk_ev d qX3_run 174 [a0, a1, a2, a3, .int (x + (-1 : Int32)), a5, a6, a7, a8] st h) ∧
  (∀ (d : Nat) (L st : List Value) (h : fk_H), fk_ev d qX3_run 174 L st h = fk_ev d qX3_run 450 L st h) ∧
  (∀ (d : Nat) (a1 a2 a3 a4 a5 a6 a7 a8 : Value) (x : Nat) (st : List Value) (h : fk_H), fk_ev d qX3_run 177 [.ref x, a1, a2, a3, a4, a5, a6, a7, a8] st h = fk_ev d qX3_run 178 [.ref x, a1, a2, a3, a4, a5, a6, a7, a8] (.ref x :: st) h) ∧
  (∀ (d : Nat) (L st : List Value) (N : Nat) (y : Nat → Nat → Int32) (l : Nat → Nat → Int64) (c : Nat), fk_at c 3 → fk_ev d qX3_run 178 L (.ref c :: st) (fk_E N y l) = fk_ev d qX3_run 181 L (.ref (fk_cr c 1) :: st) (fk_E N y l)) ∧
  (∀ (d : Nat) (a0 a1 a2 a3 a4 a6 a7 a8 : Value) (x : Int32) (st : List Value) (h : fk_H), fk_ev d qX3_run 181 [a0, a1, a2, a3, a4, .int x, a6, a7, a8] st h = fk_ev d qX3_run 183 [a0, a1, a2, a3, a4, .int x, a6, a7, a8] (.int x :: st) h) ∧
  (∀ (d : Nat) (L st : List Value) (N : Nat) (y : Nat → Nat → Int32) (l : Nat → Nat → Int64) (c i : Nat), fk_at c 20 → i < (fk_shp c).2 → (fk_shp c).2 < 2 ^ 31 → fk_ev d qX3_run 183 L (.int (nI i) :: .ref c :: st) (fk_E N y l) = fk_ev d qX3_run 184 L (.int (y c i) :: st) (fk_E N y l)) ∧
  (∀ (d : Nat) (a0 a1 a2 a3 a4 a6 a7 a8 : Value) (x : Int32) (st : List Value) (h : fk_H), fk_ev d qX3_run 184 [a0, a1, a2, a3, a4, .int x, a6, a7, a8] st h = fk_ev d qX3_run 186 [a0, a1, a2, a3, a4, .int x, a6, a7, a8] (.int x :: st) h) ∧
  (∀ (d : Nat) (L : List Value) (x y : Int32) (st : List Value) (h : fk_H), fk_ev d qX3_run 186 L (.int y :: .int x :: st) h = if x ≤ y then fk_ev d qX3_run 450 L st h else fk_ev d qX3_run 189 L st h) ∧
  (∀ (d : Nat) (a1 a2 a3 a4 a5 a6 a7 a8 : Value) (x : Nat) (st : List Value) (h : fk_H), fk_ev d qX3_run 189 [.ref x, a1, a2, a3, a4, a5, a6, a7, a8] st h = fk_ev d qX3_run 190 [.ref x, a1, a2, a3, a4, a5, a6, a7, a8] (.ref x :: st) h) ∧
  (∀ (d : Nat) (L st : List Value) (N : Nat) (y : Nat → Nat → Int32) (l : Nat → Nat → Int64) (c : Nat), fk_at c 3 → fk_ev d qX3_run 190 L (.ref c :: st) (fk_E N y l) = fk_ev d qX3_run 193 L (.ref (fk_cr c 1) :: st) (fk_E N y l)) ∧
  (∀ (d : Nat) (a0 a1 a2 a3 a4 a6 a7 a8 : Value) (x : Int32) (st : List Value) (h : fk_H), fk_ev d qX3_run 193 [a0, a1, a2, a3, a4, .int x, a6, a7, a8] st h = fk_ev d qX3_run 195 [a0, a1, a2, a3, a4, .int x, a6, a7, a8] (.int x :: st) h) ∧
  (∀ (d : Nat) (L st : List Value) (N : Nat) (y : Nat → Nat → Int32) (l : Nat → Nat → Int64) (c i : Nat), fk_at c 20 → i < (fk_shp c).2 → (fk_shp c).2 < 2 ^ 31 → fk_ev d qX3_run 195 L (.int (nI i) :: .ref c :: st) (fk_E N y l) = fk_ev d qX3_run 196 L (.int (y c i) :: st) (fk_E N y l)) ∧
  (∀ (d : Nat) (L st : List Value) (h : fk_H), fk_ev d qX3_run 196 L st h = fk_ev d qX3_run 197 L (.int (nI 1) :: st) h) ∧
  (∀ (d : Nat) (L : List Value) (x y : Int32) (st : List Value) (h : fk_H), fk_ev d qX3_run 197 L (.int y :: .int x :: st) h = fk_ev d qX3_run 198 L (.int (x - y) :: st) h) ∧
  (∀ (d : Nat) (a0 a1 a2 a3 a4 a5 a6 a7 a8 : Value) (x : Int32) (st : List Value) (h : fk_H), fk_ev d qX3_run 198 [a0, a1, a2, a3, a4, a5, a6, a7, a8] (.int x :: st) h = fk_ev d qX3_run 200 [a0, a1, a2, a3, a4, .int x, a6, a7, a8] st h) ∧
  (∀ (d : Nat) (L st : List Value) (h : fk_H), fk_ev d qX3_run 200 L st h = fk_ev d qX3_run 450 L st h) ∧
  (∀ (d : Nat) (a0 a1 a2 a3 a5 a6 a7 a8 : Value) (x : Int32) (st : List Value) (h : fk_H), fk_ev d qX3_run 203 [a0, a1, a2, a3, .int x, a5, a6, a7, a8] st h = fk_ev d qX3_run 205 [a0, a1, a2, a3, .int x, a5, a6, a7, a8] (.int x :: st) h) ∧
  (∀ (d : Nat) (L st : List Value) (h : fk_H), fk_ev d qX3_run 205 L st h = fk_ev d qX3_run 206 L (.int (nI 1) :: st) h) ∧
  (∀ (d : Nat) (L : List Value) (x y : Int32) (st : List Value) (h : fk_H), fk_ev d qX3_run 206 L (.int y :: .int x :: st) h = if x < y then fk_ev d qX3_run 228 L st h else fk_ev d qX3_run 209 L st h) ∧
  (∀ (d : Nat) (a0 a1 a2 a3 a4 a5 a6 a8 : Value) (x : Int32) (st : List Value) (h : fk_H), fk_ev d qX3_run 209 [a0, a1, a2, a3, a4, a5, a6, .int x, a8] st h = fk_ev d qX3_run 211 [a0, a1, a2, a3, a4, a5, a6, .int x, a8] (.int x :: st) h) ∧
  (∀ (d : Nat) (L : List Value) (x : Int32) (st : List Value) (h : fk_H), fk_ev d qX3_run 211 L (.int x :: st) h = if ¬ x = nI 0 then fk_ev d qX3_run 230 L st h else fk_ev d qX3_run 214 L st h) ∧
  (∀ (d : Nat) (a0 a1 a2 a3 a4 a5 a7 a8 : Value) (x : Int32) (st : List Value) (h : fk_H), fk_ev d qX3_run 214 [a0, a1, a2, a3, a4, a5, .int x, a7, a8] st h = fk_ev d qX3_run 216 [a0, a1, a2, a3, a4, a5, .int x, a7, a8] (.int x :: st) h) ∧
  (∀ (d : Nat) (L st : List Value) (h : fk_H), fk_ev d qX3_run 216 L st h = fk_ev d qX3_run 218 L (.int (nI 47) :: st) h) ∧
  (∀ (d : Nat) (L : List Value) (x y : Int32) (st : List Value) (h : fk_H), fk_ev d qX3_run 218 L (.int y :: .int x :: st) h = if x = y then fk_ev d qX3_run 228 L st h else fk_ev d qX3_run 221 L st h) ∧
  (∀ (d : Nat) (a0 a1 a2 a3 a4 a5 a7 a8 : Value) (x : Int32) (st : List Value) (h : fk_H), fk_ev d qX3_run 221 [a0, a1, a2, a3, a4, a5, .int x, a7, a8] st h = fk_ev d qX3_run 223 [a0, a1, a2, a3, a4, a5, .int x, a7, a8] (.int x :: st) h) ∧
  (∀ (d : Nat) (L st : List Value) (h : fk_H), fk_ev d qX3_run 223 L st h = fk_ev d qX3_run 225 L (.int (nI 37) :: st) h) ∧
  (∀ (d : Nat) (L : List Value) (x y : Int32) (st : List Value) (h : fk_H), fk_ev d qX3_run 225 L (.int y :: .int x :: st) h = if ¬ x = y then fk_ev d qX3_run 230 L st h else fk_ev d qX3_run 228 L st h) ∧
  (∀ (d : Nat) (L st : List Value) (h : fk_H), fk_ev d qX3_run 228 L st h = fk_ev d qX3_run 229 L (.int (nI 0) :: st) h) ∧
  (∀ (d : Nat) (L : List Value) (x : Int32) (h : fk_H), fk_ev d qX3_run 229 L [.int x] h = some (some (.int x), h)) ∧
  (∀ (d : Nat) (a0 a1 a2 a3 a5 a6 a7 a8 : Value) (x : Int32) (st : List Value) (h : fk_H), fk_ev d qX3_run 230 [a0, a1, a2, a3, .int x, a5, a6, a7, a8] st h = fk_ev d qX3_run 233 [a0, a1, a2, a3, .int (x + (-1 : Int32)), a5, a6, a7, a8] st h) ∧
  (∀ (d : Nat) (a1 a2 a3 a4 a5 a6 a7 a8 : Value) (x : Nat) (st : List Value) (h : fk_H), fk_ev d qX3_run 233 [.ref x, a1, a2, a3, a4, a5, a6, a7, a8] st h = fk_ev d qX3_run 234 [.ref x, a1, a2, a3, a4, a5, a6, a7, a8] (.ref x :: st) h) ∧
  (∀ (d : Nat) (L st : List Value) (N : Nat) (y : Nat → Nat → Int32) (l : Nat → Nat → Int64) (c : Nat), fk_at c 3 → fk_ev d qX3_run 234 L (.ref c :: st) (fk_E N y l) = fk_ev d qX3_run 237 L (.ref (fk_cr c 6) :: st) (fk_E N y l)) ∧
  (∀ (d : Nat) (a0 a1 a2 a3 a5 a6 a7 a8 : Value) (x : Int32) (st : List Value) (h : fk_H), fk_ev d qX3_run 237 [a0, a1, a2, a3, .int x, a5, a6, a7, a8] st h = fk_ev d qX3_run 239 [a0, a1, a2, a3, .int x, a5, a6, a7, a8] (.int x :: st) h) ∧
  (∀ (d : Nat) (L st : List Value) (N : Nat) (y : Nat → Nat → Int32) (l : Nat → Nat → Int64) (c i : Nat), fk_at c 20 → i < (fk_shp c).2 → (fk_shp c).2 < 2 ^ 31 → fk_ev d qX3_run 239 L (.int (nI i) :: .ref c :: st) (fk_E N y l) = fk_ev d qX3_run 240 L (.int (y c i) :: st) (fk_E N y l)) ∧
  (∀ (d : Nat) (a0 a1 a2 a3 a4 a5 a6 a7 a8 : Value) (x : Int32) (st : List Value) (h : fk_H), fk_ev d qX3_run 240 [a0, a1, a2, a3, a4, a5, a6, a7, a8] (.int x :: st) h = fk_ev d qX3_run 242 [a0, a1, a2, a3, a4, a5, a6, a7, .int x] st h) ∧
  (∀ (d : Nat) (a0 a1 a2 a3 a4 a5 a7 a8 : Value) (x : Int32) (st : List Value) (h : fk_H), fk_ev d qX3_run 242 [a0, a1, a2, a3, a4, a5, .int x, a7, a8] st h = fk_ev d qX3_run 244 [a0, a1, a2, a3, a4, a5, .int x, a7, a8] (.int x :: st) h) ∧
  (∀ (d : Nat) (L st : List Value) (h : fk_H), fk_ev d qX3_run 244 L (.int (nI 37) :: st) h = fk_ev d qX3_run 372 L st h) ∧
  (∀ (d : Nat) (L st : List Value) (h : fk_H), fk_ev d qX3_run 244 L (.int (nI 42) :: st) h = fk_ev d qX3_run 342 L st h) ∧
  (∀ (d : Nat) (L st : List Value) (h : fk_H), fk_ev d qX3_run 244 L (.int (nI 43) :: st) h = fk_ev d qX3_run 312 L st h) ∧
  (∀ (d : Nat) (L st : List Value) (h : fk_H), fk_ev d qX3_run 244 L (.int (nI 45) :: st) h = fk_ev d qX3_run 327 L st h) ∧
  (∀ (d : Nat) (L st : List Value) (h : fk_H), fk_ev d qX3_run 244 L (.int (nI 47) :: st) h = fk_ev d qX3_run 357 L st h) ∧
  (∀ (d : Nat) (L st : List Value) (h : fk_H), fk_ev d qX3_run 244 L (.int (nI 60) :: st) h = fk_ev d qX3_run 387 L st h) ∧
  (∀ (d : Nat) (L st : List Value) (h : fk_H), fk_ev d qX3_run 244 L (.int (nI 62) :: st) h = fk_ev d qX3_run 409 L st h) ∧
  (∀ (d : Nat) (L : List Value) (x : Int32) (st : List Value) (h : fk_H), ¬ (37 : Int) = x.toInt → ¬ (42 : Int) = x.toInt → ¬ (43 : Int) = x.toInt → ¬ (45 : Int) = x.toInt → ¬ (47 : Int) = x.toInt → ¬ (60 : Int) = x.toInt → ¬ (62 : Int) = x.toInt → fk_ev d qX3_run 244 L (.int x :: st) h = fk_ev d qX3_run 431 L st h) ∧
  (∀ (d : Nat) (a1 a2 a3 a4 a5 a6 a7 a8 : Value) (x : Nat) (st : List Value) (h : fk_H), fk_ev d qX3_run 312 [.ref x, a1, a2, a3, a4, a5, a6, a7, a8] st h = fk_ev d qX3_run 313 [.ref x, a1, a2, a3, a4, a5, a6, a7, a8] (.ref x :: st) h) ∧
  (∀ (d : Nat) (L st : List Value) (N : Nat) (y : Nat → Nat → Int32) (l : Nat → Nat → Int64) (c : Nat), fk_at c 3 → fk_ev d qX3_run 313 L (.ref c :: st) (fk_E N y l) = fk_ev d qX3_run 316 L (.ref (fk_cr c 6) :: st) (fk_E N y l)) ∧
  (∀ (d : Nat) (a0 a1 a2 a3 a5 a6 a7 a8 : Value) (x : Int32) (st : List Value) (h : fk_H), fk_ev d qX3_run 316 [a0, a1, a2, a3, .int x, a5, a6, a7, a8] st h = fk_ev d qX3_run 318 [a0, a1, a2, a3, .int x, a5, a6, a7, a8] (.int x :: st) h) ∧
  (∀ (d : Nat) (a0 a1 a2 a3 a4 a5 a6 a7 : Value) (x : Int32) (st : List Value) (h : fk_H), fk_ev d qX3_run 318 [a0, a1, a2, a3, a4, a5, a6, a7, .int x] st h = fk_ev d qX3_run 320 [a0, a1, a2, a3, a4, a5, a6, a7, .int x] (.int x :: st) h) ∧
  (∀ (d : Nat) (a0 a1 a2 a3 a4 a5 a6 a8 : Value) (x : Int32) (st : List Value) (h : fk_H), fk_ev d qX3_run 320 [a0, a1, a2, a3, a4, a5, a6, .int x, a8] st h = fk_ev d qX3_run 322 [a0, a1, a2, a3, a4, a5, a6, .int x, a8] (.int x :: st) h) ∧
  (∀ (d : Nat) (L : List Value) (x y : Int32) (st : List Value) (h : fk_H), fk_ev d qX3_run 322 L (.int y :: .int x :: st) h = fk_ev d qX3_run 323 L (.int (x + y) :: st) h) ∧
  (∀ (d : Nat) (L st : List Value) (N : Nat) (y : Nat → Nat → Int32) (l : Nat → Nat → Int64) (c i : Nat) (v : Int32), fk_at c 20 → i < (fk_shp c).2 → (fk_shp c).2 < 2 ^ 31 → fk_ev d qX3_run 323 L (.int v :: .int (nI i) :: .ref c :: st) (fk_E N y l) = fk_ev d qX3_run 324 L st (fk_E N (fk_u y c i v) l)) ∧
  (∀ (d : Nat) (L st : List Value) (h : fk_H), fk_ev d qX3_run 324 L st h = fk_ev d qX3_run 450 L st h) ∧
  (∀ (d : Nat) (a1 a2 a3 a4 a5 a6 a7 a8 : Value) (x : Nat) (st : List Value) (h : fk_H), fk_ev d qX3_run 327 [.ref x, a1, a2, a3, a4, a5, a6, a7, a8] st h = fk_ev d qX3_run 328 [.ref x, a1, a2, a3, a4, a5, a6, a7, a8] (.ref x :: st) h) ∧
  (∀ (d : Nat) (L st : List Value) (N : Nat) (y : Nat → Nat → Int32) (l : Nat → Nat → Int64) (c : Nat), fk_at c 3 → fk_ev d qX3_run 328 L (.ref c :: st) (fk_E N y l) = fk_ev d qX3_run 331 L (.ref (fk_cr c 6) :: st) (fk_E N y l)) ∧
  (∀ (d : Nat) (a0 a1 a2 a3 a5 a6 a7 a8 : Value) (x : Int32) (st : List Value) (h : fk_H), fk_ev d qX3_run 331 [a0, a1, a2, a3, .int x, a5, a6, a7, a8] st h = fk_ev d qX3_run 333 [a0, a1, a2, a3, .int x, a5, a6, a7, a8] (.int x :: st) h) ∧
  (∀ (d : Nat) (a0 a1 a2 a3 a4 a5 a6 a7 : Value) (x : Int32) (st : List Value) (h : fk_H), fk_ev d qX3_run 333 [a0, a1, a2, a3, a4, a5, a6, a7, .int x] st h = fk_ev d qX3_run 335 [a0, a1, a2, a3, a4, a5, a6, a7, .int x] (.int x :: st) h) ∧
  (∀ (d : Nat) (a0 a1 a2 a3 a4 a5 a6 a8 : Value) (x : Int32) (st : List Value) (h : fk_H), fk_ev d qX3_run 335 [a0, a1, a2, a3, a4, a5, a6, .int x, a8] st h = fk_ev d qX3_run 337 [a0, a1, a2, a3, a4, a5, a6, .int x, a8] (.int x :: st) h) ∧
  (∀ (d : Nat) (L : List Value) (x y : Int32) (st : List Value) (h : fk_H), fk_ev d qX3_run 337 L (.int y :: .int x :: st) h = fk_ev d qX3_run 338 L (.int (x - y) :: st) h) ∧
  (∀ (d : Nat) (L st : List Value) (N : Nat) (y : Nat → Nat → Int32) (l : Nat → Nat → Int64) (c i : Nat) (v : Int32), fk_at c 20 → i < (fk_shp c).2 → (fk_shp c).2 < 2 ^ 31 → fk_ev d qX3_run 338 L (.int v :: .int (nI i) :: .ref c :: st) (fk_E N y l) = fk_ev d qX3_run 339 L st (fk_E N (fk_u y c i v) l)) ∧
  (∀ (d : Nat) (L st : List Value) (h : fk_H), fk_ev d qX3_run 339 L st h = fk_ev d qX3_run 450 L st h) ∧
  (∀ (d : Nat) (a1 a2 a3 a4 a5 a6 a7 a8 : Value) (x : Nat) (st : List Value) (h : fk_H), fk_ev d qX3_run 342 [.ref x, a1, a2, a3, a4, a5, a6, a7, a8] st h = fk_ev d qX3_run 343 [.ref x, a1, a2, a3, a4, a5, a6, a7, a8] (.ref x :: st) h) ∧
  (∀ (d : Nat) (L st : List Value) (N : Nat) (y : Nat → Nat → Int32) (l : Nat → Nat → Int64) (c : Nat), fk_at c 3 → fk_ev d qX3_run 343 L (.ref c :: st) (fk_E N y l) = fk_ev d qX3_run 346 L (.ref (fk_cr c 6) :: st) (fk_E N y l)) ∧
  (∀ (d : Nat) (a0 a1 a2 a3 a5 a6 a7 a8 : Value) (x : Int32) (st : List Value) (h : fk_H), fk_ev d qX3_run 346 [a0, a1, a2, a3, .int x, a5, a6, a7, a8] st h = fk_ev d qX3_run 348 [a0, a1, a2, a3, .int x, a5, a6, a7, a8] (.int x :: st) h) ∧
  (∀ (d : Nat) (a0 a1 a2 a3 a4 a5 a6 a7 : Value) (x : Int32) (st : List Value) (h : fk_H), fk_ev d qX3_run 348 [a0, a1, a2, a3, a4, a5, a6, a7, .int x] st h = fk_ev d qX3_run 350 [a0, a1, a2, a3, a4, a5, a6, a7, .int x] (.int x :: st) h) ∧
  (∀ (d : Nat) (a0 a1 a2 a3 a4 a5 a6 a8 : Value) (x : Int32) (st : List Value) (h : fk_H), fk_ev d qX3_run 350 [a0, a1, a2, a3, a4, a5, a6, .int x, a8] st h = fk_ev d qX3_run 352 [a0, a1, a2, a3, a4, a5, a6, .int x, a8] (.int x :: st) h) ∧
  (∀ (d : Nat) (L : List Value) (x y : Int32) (st : List Value) (h : fk_H), fk_ev d qX3_run 352 L (.int y :: .int x :: st) h = fk_ev d qX3_run 353 L (.int (x * y) :: st) h) ∧
  (∀ (d : Nat) (L st : List Value) (N : Nat) (y : Nat → Nat → Int32) (l : Nat → Nat → Int64) (c i : Nat) (v : Int32), fk_at c 20 → i < (fk_shp c).2 → (fk_shp c).2 < 2 ^ 31 → fk_ev d qX3_run 353 L (.int v :: .int (nI i) :: .ref c :: st) (fk_E N y l) = fk_ev d qX3_run 354 L st (fk_E N (fk_u y c i v) l)) ∧
  (∀ (d : Nat) (L st : List Value) (h : fk_H), fk_ev d qX3_run 354 L st h = fk_ev d qX3_run 450 L st h) ∧
  (∀ (d : Nat) (a1 a2 a3 a4 a5 a6 a7 a8 : Value) (x : Nat) (st : List Value) (h : fk_H), fk_ev d qX3_run 357 [.ref x, a1, a2, a3, a4, a5, a6, a7, a8] st h = fk_ev d qX3_run 358 [.ref x, a1, a2, a3, a4, a5, a6, a7, a8] (.ref x :: st) h) ∧
  (∀ (d : Nat) (L st : List Value) (N : Nat) (y : Nat → Nat → Int32) (l : Nat → Nat → Int64) (c : Nat), fk_at c 3 → fk_ev d qX3_run 358 L (.ref c :: st) (fk_E N y l) = fk_ev d qX3_run 361 L (.ref (fk_cr c 6) :: st) (fk_E N y l)) ∧
  (∀ (d : Nat) (a0 a1 a2 a3 a5 a6 a7 a8 : Value) (x : Int32) (st : List Value) (h : fk_H), fk_ev d qX3_run 361 [a0, a1, a2, a3, .int x, a5, a6, a7, a8] st h = fk_ev d qX3_run 363 [a0, a1, a2, a3, .int x, a5, a6, a7, a8] (.int x :: st) h) ∧
  (∀ (d : Nat) (a0 a1 a2 a3 a4 a5 a6 a7 : Value) (x : Int32) (st : List Value) (h : fk_H), fk_ev d qX3_run 363 [a0, a1, a2, a3, a4, a5, a6, a7, .int x] st h = fk_ev d qX3_run 365 [a0, a1, a2, a3, a4, a5, a6, a7, .int x] (.int x :: st) h) ∧
  (∀ (d : Nat) (a0 a1 a2 a3 a4 a5 a6 a8 : Value) (x : Int32) (st : List Value) (h : fk_H), fk_ev d qX3_run 365 [a0, a1, a2, a3, a4, a5, a6, .int x, a8] st h = fk_ev d qX3_run 367 [a0, a1, a2, a3, a4, a5, a6, .int x, a8] (.int x :: st) h) ∧
  (∀ (d : Nat) (L : List Value) (x y : Int32) (st : List Value) (h : fk_H), fk_ev d qX3_run 367 L (.int y :: .int x :: st) h = if y = 0 then none else fk_ev d qX3_run 368 L (.int (x / y) :: st) h) ∧
  (∀ (d : Nat) (L st : List Value) (N : Nat) (y : Nat → Nat → Int32) (l : Nat → Nat → Int64) (c i : Nat) (v : Int32), fk_at c 20 → i < (fk_shp c).2 → (fk_shp c).2 < 2 ^ 31 → fk_ev d qX3_run 368 L (.int v :: .int (nI i) :: .ref c :: st) (fk_E N y l) = fk_ev d qX3_run 369 L st (fk_E N (fk_u y c i v) l)) ∧
  (∀ (d : Nat) (L st : List Value) (h : fk_H), fk_ev d qX3_run 369 L st h = fk_ev d qX3_run 450 L st h) ∧
  (∀ (d : Nat) (a1 a2 a3 a4 a5 a6 a7 a8 : Value) (x : Nat) (st : List Value) (h : fk_H), fk_ev d qX3_run 372 [.ref x, a1, a2, a3, a4, a5, a6, a7, a8] st h = fk_ev d qX3_run 373 [.ref x, a1, a2, a3, a4, a5, a6, a7, a8] (.ref x :: st) h) ∧
  (∀ (d : Nat) (L st : List Value) (N : Nat) (y : Nat → Nat → Int32) (l : Nat → Nat → Int64) (c : Nat), fk_at c 3 → fk_ev d qX3_run 373 L (.ref c :: st) (fk_E N y l) = fk_ev d qX3_run 376 L (.ref (fk_cr c 6) :: st) (fk_E N y l)) ∧
  (∀ (d : Nat) (a0 a1 a2 a3 a5 a6 a7 a8 : Value) (x : Int32) (st : List Value) (h : fk_H), fk_ev d qX3_run 376 [a0, a1, a2, a3, .int x, a5, a6, a7, a8] st h = fk_ev d qX3_run 378 [a0, a1, a2, a3, .int x, a5, a6, a7, a8] (.int x :: st) h) ∧
  (∀ (d : Nat) (a0 a1 a2 a3 a4 a5 a6 a7 : Value) (x : Int32) (st : List Value) (h : fk_H), fk_ev d qX3_run 378 [a0, a1, a2, a3, a4, a5, a6, a7, .int x] st h = fk_ev d qX3_run 380 [a0, a1, a2, a3, a4, a5, a6, a7, .int x] (.int x :: st) h) ∧
  (∀ (d : Nat) (a0 a1 a2 a3 a4 a5 a6 a8 : Value) (x : Int32) (st : List Value) (h : fk_H), fk_ev d qX3_run 380 [a0, a1, a2, a3, a4, a5, a6, .int x, a8] st h = fk_ev d qX3_run 382 [a0, a1, a2, a3, a4, a5, a6, .int x, a8] (.int x :: st) h) ∧
  (∀ (d : Nat) (L : List Value) (x y : Int32) (st : List Value) (h : fk_H), fk_ev d qX3_run 382 L (.int y :: .int x :: st) h = if y = 0 then none else fk_ev d qX3_run 383 L (.int (x - x / y * y) :: st) h) ∧
  (∀ (d : Nat) (L st : List Value) (N : Nat) (y : Nat → Nat → Int32) (l : Nat → Nat → Int64) (c i : Nat) (v : Int32), fk_at c 20 → i < (fk_shp c).2 → (fk_shp c).2 < 2 ^ 31 → fk_ev d qX3_run 383 L (.int v :: .int (nI i) :: .ref c :: st) (fk_E N y l) = fk_ev d qX3_run 384 L st (fk_E N (fk_u y c i v) l)) ∧
  (∀ (d : Nat) (L st : List Value) (h : fk_H), fk_ev d qX3_run 384 L st h = fk_ev d qX3_run 450 L st h) ∧
  (∀ (d : Nat) (a1 a2 a3 a4 a5 a6 a7 a8 : Value) (x : Nat) (st : List Value) (h : fk_H), fk_ev d qX3_run 387 [.ref x, a1, a2, a3, a4, a5, a6, a7, a8] st h = fk_ev d qX3_run 388 [.ref x, a1, a2, a3, a4, a5, a6, a7, a8] (.ref x :: st) h) ∧
  (∀ (d : Nat) (L st : List Value) (N : Nat) (y : Nat → Nat → Int32) (l : Nat → Nat → Int64) (c : Nat), fk_at c 3 → fk_ev d qX3_run 388 L (.ref c :: st) (fk_E N y l) = fk_ev d qX3_run 391 L (.ref (fk_cr c 6) :: st) (fk_E N y l)) ∧
  (∀ (d : Nat) (a0 a1 a2 a3 a5 a6 a7 a8 : Value) (x : Int32) (st : List Value) (h : fk_H), fk_ev d qX3_run 391 [a0, a1, a2, a3, .int x, a5, a6, a7, a8] st h = fk_ev d qX3_run 393 [a0, a1, a2, a3, .int x, a5, a6, a7, a8] (.int x :: st) h) ∧
  (∀ (d : Nat) (a0 a1 a2 a3 a4 a5 a6 a7 : Value) (x : Int32) (st : List Value) (h : fk_H), fk_ev d qX3_run 393 [a0, a1, a2, a3, a4, a5, a6, a7, .int x] st h = fk_ev d qX3_run 395 [a0, a1, a2, a3, a4, a5, a6, a7, .int x] (.int x :: st) h) ∧
  (∀ (d : Nat) (a0 a1 a2 a3 a4 a5 a6 a8 : Value) (x : Int32) (st : List Value) (h : fk_H), fk_ev d qX3_run 395 [a0, a1, a2, a3, a4, a5, a6, .int x, a8] st h = fk_ev d qX3_run 397 [a0, a1, a2, a3, a4, a5, a6, .int x, a8] (.int x :: st) h) ∧
  (∀ (d : Nat) (L : List Value) (x y : Int32) (st : List Value) (h : fk_H), fk_ev d qX3_run 397 L (.int y :: .int x :: st) h = if y ≤ x then fk_ev d qX3_run 404 L st h else fk_ev d qX3_run 400 L st h) ∧
  (∀ (d : Nat) (L st : List Value) (h : fk_H), fk_ev d qX3_run 400 L st h = fk_ev d qX3_run 401 L (.int (nI 1) :: st) h) ∧
  (∀ (d : Nat) (L st : List Value) (h : fk_H), fk_ev d qX3_run 401 L st h = fk_ev d qX3_run 405 L st h) ∧
  (∀ (d : Nat) (L st : List Value) (h : fk_H), fk_ev d qX3_run 404 L st h = fk_ev d qX3_run 405 L (.int (nI 0) :: st) h) ∧
  (∀ (d : Nat) (L st : List Value) (N : Nat) (y : Nat → Nat → Int32) (l : Nat → Nat → Int64) (c i : Nat) (v : Int32), fk_at c 20 → i < (fk_shp c).2 → (fk_shp c).2 < 2 ^ 31 → fk_ev d qX3_run 405 L (.int v :: .int (nI i) :: .ref c :: st) (fk_E N y l) = fk_ev d qX3_run 406 L st (fk_E N (fk_u y c i v) l)) ∧
  (∀ (d : Nat) (L st : List Value) (h : fk_H), fk_ev d qX3_run 406 L st h = fk_ev d qX3_run 450 L st h) ∧
  (∀ (d : Nat) (a1 a2 a3 a4 a5 a6 a7 a8 : Value) (x : Nat) (st : List Value) (h : fk_H), fk_ev d qX3_run 409 [.ref x, a1, a2, a3, a4, a5, a6, a7, a8] st h = fk_ev d qX3_run 410 [.ref x, a1, a2, a3, a4, a5, a6, a7, a8] (.ref x :: st) h) ∧
  (∀ (d : Nat) (L st : List Value) (N : Nat) (y : Nat → Nat → Int32) (l : Nat → Nat → Int64) (c : Nat), fk_at c 3 → fk_ev d qX3_run 410 L (.ref c :: st) (fk_E N y l) = fk_ev d qX3_run 413 L (.ref (fk_cr c 6) :: st) (fk_E N y l)) ∧
  (∀ (d : Nat) (a0 a1 a2 a3 a5 a6 a7 a8 : Value) (x : Int32) (st : List Value) (h : fk_H), fk_ev d qX3_run 413 [a0, a1, a2, a3, .int x, a5, a6, a7, a8] st h = fk_ev d qX3_run 415 [a0, a1, a2, a3, .int x, a5, a6, a7, a8] (.int x :: st) h) ∧
  (∀ (d : Nat) (a0 a1 a2 a3 a4 a5 a6 a7 : Value) (x : Int32) (st : List Value) (h : fk_H), fk_ev d qX3_run 415 [a0, a1, a2, a3, a4, a5, a6, a7, .int x] st h = fk_ev d qX3_run 417 [a0, a1, a2, a3, a4, a5, a6, a7, .int x] (.int x :: st) h) ∧
  (∀ (d : Nat) (a0 a1 a2 a3 a4 a5 a6 a8 : Value) (x : Int32) (st : List Value) (h : fk_H), fk_ev d qX3_run 417 [a0, a1, a2, a3, a4, a5, a6, .int x, a8] st h = fk_ev d qX3_run 419 [a0, a1, a2, a3, a4, a5, a6, .int x, a8] (.int x :: st) h) ∧
  (∀ (d : Nat) (L : List Value) (x y : Int32) (st : List Value) (h : fk_H), fk_ev d qX3_run 419 L (.int y :: .int x :: st) h = if x ≤ y then fk_ev d qX3_run 426 L st h else fk_ev d qX3_run 422 L st h) ∧
  (∀ (d : Nat) (L st : List Value) (h : fk_H), fk_ev d qX3_run 422 L st h = fk_ev d qX3_run 423 L (.int (nI 1) :: st) h) ∧
  (∀ (d : Nat) (L st : List Value) (h : fk_H), fk_ev d qX3_run 423 L st h = fk_ev d qX3_run 427 L st h) ∧
  (∀ (d : Nat) (L st : List Value) (h : fk_H), fk_ev d qX3_run 426 L st h = fk_ev d qX3_run 427 L (.int (nI 0) :: st) h) ∧
  (∀ (d : Nat) (L st : List Value) (N : Nat) (y : Nat → Nat → Int32) (l : Nat → Nat → Int64) (c i : Nat) (v : Int32), fk_at c 20 → i < (fk_shp c).2 → (fk_shp c).2 < 2 ^ 31 → fk_ev d qX3_run 427 L (.int v :: .int (nI i) :: .ref c :: st) (fk_E N y l) = fk_ev d qX3_run 428 L st (fk_E N (fk_u y c i v) l)) ∧
  (∀ (d : Nat) (L st : List Value) (h : fk_H), fk_ev d qX3_run 428 L st h = fk_ev d qX3_run 450 L st h) ∧
  (∀ (d : Nat) (a1 a2 a3 a4 a5 a6 a7 a8 : Value) (x : Nat) (st : List Value) (h : fk_H), fk_ev d qX3_run 431 [.ref x, a1, a2, a3, a4, a5, a6, a7, a8] st h = fk_ev d qX3_run 432 [.ref x, a1, a2, a3, a4, a5, a6, a7, a8] (.ref x :: st) h) ∧
  (∀ (d : Nat) (L st : List Value) (N : Nat) (y : Nat → Nat → Int32) (l : Nat → Nat → Int64) (c : Nat), fk_at c 3 → fk_ev d qX3_run 432 L (.ref c :: st) (fk_E N y l) = fk_ev d qX3_run 435 L (.ref (fk_cr c 6) :: st) (fk_E N y l)) ∧
  (∀ (d : Nat) (a0 a1 a2 a3 a5 a6 a7 a8 : Value) (x : Int32) (st : List Value) (h : fk_H), fk_ev d qX3_run 435 [a0, a1, a2, a3, .int x, a5, a6, a7, a8] st h = fk_ev d qX3_run 437 [a0, a1, a2, a3, .int x, a5, a6, a7, a8] (.int x :: st) h) ∧
  (∀ (d : Nat) (a0 a1 a2 a3 a4 a5 a6 a7 : Value) (x : Int32) (st : List Value) (h : fk_H), fk_ev d qX3_run 437 [a0, a1, a2, a3, a4, a5, a6, a7, .int x] st h = fk_ev d qX3_run 439 [a0, a1, a2, a3, a4, a5, a6, a7, .int x] (.int x :: st) h) ∧
  (∀ (d : Nat) (a0 a1 a2 a3 a4 a5 a6 a8 : Value) (x : Int32) (st : List Value) (h : fk_H), fk_ev d qX3_run 439 [a0, a1, a2, a3, a4, a5, a6, .int x, a8] st h = fk_ev d qX3_run 441 [a0, a1, a2, a3, a4, a5, a6, .int x, a8] (.int x :: st) h) ∧
  (∀ (d : Nat) (L : List Value) (x y : Int32) (st : List Value) (h : fk_H), fk_ev d qX3_run 441 L (.int y :: .int x :: st) h = if ¬ x = y then fk_ev d qX3_run 448 L st h else fk_ev d qX3_run 444 L st h) ∧
  (∀ (d : Nat) (L st : List Value) (h : fk_H), fk_ev d qX3_run 444 L st h = fk_ev d qX3_run 445 L (.int (nI 1) :: st) h) ∧
  (∀ (d : Nat) (L st : List Value) (h : fk_H), fk_ev d qX3_run 445 L st h = fk_ev d qX3_run 449 L st h) ∧
  (∀ (d : Nat) (L st : List Value) (h : fk_H), fk_ev d qX3_run 448 L st h = fk_ev d qX3_run 449 L (.int (nI 0) :: st) h) ∧
  (∀ (d : Nat) (L st : List Value) (N : Nat) (y : Nat → Nat → Int32) (l : Nat → Nat → Int64) (c i : Nat) (v : Int32), fk_at c 20 → i < (fk_shp c).2 → (fk_shp c).2 < 2 ^ 31 → fk_ev d qX3_run 449 L (.int v :: .int (nI i) :: .ref c :: st) (fk_E N y l) = fk_ev d qX3_run 450 L st (fk_E N (fk_u y c i v) l)) ∧
  (∀ (d : Nat) (a0 a1 a2 a3 a4 a6 a7 a8 : Value) (x : Int32) (st : List Value) (h : fk_H), fk_ev d qX3_run 450 [a0, a1, a2, a3, a4, .int x, a6, a7, a8] st h = fk_ev d qX3_run 453 [a0, a1, a2, a3, a4, .int (x + nI 1), a6, a7, a8] st h) ∧
  (∀ (d : Nat) (L st : List Value) (h : fk_H), fk_ev d qX3_run 453 L st h = fk_ev d qX3_run 6 L st h) ∧
  (∀ (d : Nat) (a0 a1 a2 a3 a5 a6 a7 a8 : Value) (x : Int32) (st : List Value) (h : fk_H), fk_ev d qX3_run 456 [a0, a1, a2, a3, .int x, a5, a6, a7, a8] st h = fk_ev d qX3_run 458 [a0, a1, a2, a3, .int x, a5, a6, a7, a8] (.int x :: st) h) ∧
  (∀ (d : Nat) (L : List Value) (x : Int32) (st : List Value) (h : fk_H), fk_ev d qX3_run 458 L (.int x :: st) h = if x < nI 0 then fk_ev d qX3_run 471 L st h else fk_ev d qX3_run 461 L st h) ∧
  (∀ (d : Nat) (a1 a2 a3 a4 a5 a6 a7 a8 : Value) (x : Nat) (st : List Value) (h : fk_H), fk_ev d qX3_run 461 [.ref x, a1, a2, a3, a4, a5, a6, a7, a8] st h = fk_ev d qX3_run 462 [.ref x, a1, a2, a3, a4, a5, a6, a7, a8] (.ref x :: st) h) ∧
  (∀ (d : Nat) (L st : List Value) (N : Nat) (y : Nat → Nat → Int32) (l : Nat → Nat → Int64) (c : Nat), fk_at c 3 → fk_ev d qX3_run 462 L (.ref c :: st) (fk_E N y l) = fk_ev d qX3_run 465 L (.ref (fk_cr c 6) :: st) (fk_E N y l)) ∧
  (∀ (d : Nat) (a0 a1 a2 a3 a5 a6 a7 a8 : Value) (x : Int32) (st : List Value) (h : fk_H), fk_ev d qX3_run 465 [a0, a1, a2, a3, .int x, a5, a6, a7, a8] st h = fk_ev d qX3_run 467 [a0, a1, a2, a3, .int x, a5, a6, a7, a8] (.int x :: st) h) ∧
  (∀ (d : Nat) (L st : List Value) (N : Nat) (y : Nat → Nat → Int32) (l : Nat → Nat → Int64) (c i : Nat), fk_at c 20 → i < (fk_shp c).2 → (fk_shp c).2 < 2 ^ 31 → fk_ev d qX3_run 467 L (.int (nI i) :: .ref c :: st) (fk_E N y l) = fk_ev d qX3_run 468 L (.int (y c i) :: st) (fk_E N y l)) ∧
  (∀ (d : Nat) (L st : List Value) (h : fk_H), fk_ev d qX3_run 468 L st h = fk_ev d qX3_run 472 L st h) ∧
  (∀ (d : Nat) (L st : List Value) (h : fk_H), fk_ev d qX3_run 471 L st h = fk_ev d qX3_run 472 L (.int (nI 0) :: st) h) ∧
  (∀ (d : Nat) (L : List Value) (x : Int32) (h : fk_H), fk_ev d qX3_run 472 L [.int x] h = some (some (.int x), h)) := ⟨fun d L st h => fk_w_iconst dX3_run_0 (by decide),
  fun d a0 a1 a2 a3 a4 a5 a6 a7 a8 x st h => fk_w_istore 4 9 [] [a0, a1, a2, a3, a4, a5, a6, a7, a8] [a0, a1, a2, a3, .int x, a5, a6, a7, a8] dX3_run_1 rfl rfl (by decide) rfl,
  fun d a0 a2 a3 a4 a5 a6 a7 a8 x st h => fk_w_iloadn 1 [a0, .int x, a2, a3, a4, a5, a6, a7, a8] dX3_run_3 rfl,
  fun d a0 a1 a2 a3 a4 a5 a6 a7 a8 x st h => fk_w_istore 5 9 [] [a0, a1, a2, a3, a4, a5, a6, a7, a8] [a0, a1, a2, a3, a4, .int x, a6, a7, a8] dX3_run_4 rfl rfl (by decide) rfl,
  fun d a0 a1 a3 a4 a5 a6 a7 a8 x st h => fk_w_iloadn 2 [a0, a1, .int x, a3, a4, a5, a6, a7, a8] dX3_run_8 rfl,
  fun d L x y st h => fk_r_icmp_ge dX3_run_9 (by decide),
  fun d a0 a1 a2 a3 a4 a6 a7 a8 x st h => fk_w_iload 5 [a0, a1, a2, a3, a4, .int x, a6, a7, a8] dX3_run_12 rfl,
  fun d a1 a2 a3 a4 a5 a6 a7 a8 x st h => fk_w_aloadn 0 [.ref x, a1, a2, a3, a4, a5, a6, a7, a8] dX3_run_14 rfl,
  fun d L st N y l c hc => fk_g_getC rfl lf_3_9 (by decide) rfl dX3_run_15 hc,
  fun d L st N y l c hc => fk_h_alen dX3_run_18 hc,
  fun d L x y st h => fk_r_icmp_ge dX3_run_19 (by decide),
  fun d a1 a2 a3 a4 a5 a6 a7 a8 x st h => fk_w_aloadn 0 [.ref x, a1, a2, a3, a4, a5, a6, a7, a8] dX3_run_22 rfl,
  fun d L st N y l c hc => fk_g_getC rfl lf_3_9 (by decide) rfl dX3_run_23 hc,
  fun d a0 a1 a2 a3 a4 a6 a7 a8 x st h => fk_w_iload 5 [a0, a1, a2, a3, a4, .int x, a6, a7, a8] dX3_run_26 rfl,
  fun d L st N y l c i hc hi hl => fk_h_iald dX3_run_28 hc hi hl,
  fun d a0 a1 a2 a3 a4 a5 a6 a7 a8 x st h => fk_w_istore 6 9 [] [a0, a1, a2, a3, a4, a5, a6, a7, a8] [a0, a1, a2, a3, a4, a5, .int x, a7, a8] dX3_run_29 rfl rfl (by decide) rfl,
  fun d a0 a1 a2 a3 a4 a5 a7 a8 x st h => fk_w_iload 6 [a0, a1, a2, a3, a4, a5, .int x, a7, a8] dX3_run_31 rfl,
  fun d L x st h => fk_r_if_eq dX3_run_33 (by decide),
  fun d a0 a1 a2 a3 a4 a5 a7 a8 x st h => fk_w_iload 6 [a0, a1, a2, a3, a4, a5, .int x, a7, a8] dX3_run_36 rfl,
  fun d L st h => fk_w_iconst dX3_run_38 (by decide),
  fun d L x y st h => fk_r_icmp_ne dX3_run_39 (by decide),
  fun d a0 a1 a2 a3 a5 a6 a7 a8 x st h => fk_w_iload 4 [a0, a1, a2, a3, .int x, a5, a6, a7, a8] dX3_run_42 rfl,
  fun d L st h => fk_w_iconst dX3_run_44 (by decide),
  fun d L x y st h => fk_r_iadd dX3_run_45,
  fun d a1 a2 a3 a4 a5 a6 a7 a8 x st h => fk_w_aloadn 0 [.ref x, a1, a2, a3, a4, a5, a6, a7, a8] dX3_run_46 rfl,
  fun d L st N y l c hc => fk_g_getC rfl lf_3_30 (by decide) rfl dX3_run_47 hc,
  fun d L st N y l c hc => fk_h_alen dX3_run_50 hc,
  fun d L x y st h => fk_r_icmp_lt dX3_run_51 (by decide),
  fun d L st h => fk_w_iconst dX3_run_54 (by decide),
  fun d L x h => fk_r_ret dX3_run_55 (Or.inl rfl),
  fun d a0 a1 a2 a3 a5 a6 a7 a8 x st h => fk_w_iinc 4 9 (1) [] [a0, a1, a2, a3, .int x, a5, a6, a7, a8] [a0, a1, a2, a3, .int (x + nI 1), a5, a6, a7, a8] dX3_run_56 rfl rfl rfl (by decide) rfl,
  fun d a1 a2 a3 a4 a5 a6 a7 a8 x st h => fk_w_aloadn 0 [.ref x, a1, a2, a3, a4, a5, a6, a7, a8] dX3_run_59 rfl,
  fun d L st N y l c hc => fk_g_getC rfl lf_3_30 (by decide) rfl dX3_run_60 hc,
  fun d a0 a1 a2 a3 a5 a6 a7 a8 x st h => fk_w_iload 4 [a0, a1, a2, a3, .int x, a5, a6, a7, a8] dX3_run_63 rfl,
  fun d a0 a1 a2 a3 a4 a5 a7 a8 x st h => fk_w_iload 6 [a0, a1, a2, a3, a4, a5, .int x, a7, a8] dX3_run_65 rfl,
  fun d L x st h => fk_r_if_ne dX3_run_67 (by decide),
  fun d a1 a2 a3 a4 a5 a6 a7 a8 x st h => fk_w_aloadn 0 [.ref x, a1, a2, a3, a4, a5, a6, a7, a8] dX3_run_70 rfl,
  fun d L st N y l c hc => fk_g_getC rfl lf_3_15 (by decide) rfl dX3_run_71 hc,
  fun d a0 a1 a2 a3 a4 a6 a7 a8 x st h => fk_w_iload 5 [a0, a1, a2, a3, a4, .int x, a6, a7, a8] dX3_run_74 rfl,
  fun d L st N y l c i hc hi hl => fk_h_iald dX3_run_76 hc hi hl,
  fun d L st h => fk_r_goto dX3_run_77 (by decide),
  fun d a0 a1 a2 a4 a5 a6 a7 a8 x st h => fk_w_aloadn 3 [a0, a1, a2, .ref x, a4, a5, a6, a7, a8] dX3_run_80 rfl,
  fun d a1 a2 a3 a4 a5 a6 a7 a8 x st h => fk_w_aloadn 0 [.ref x, a1, a2, a3, a4, a5, a6, a7, a8] dX3_run_81 rfl,
  fun d L st N y l c hc => fk_g_getC rfl lf_3_15 (by decide) rfl dX3_run_82 hc,
  fun d a0 a1 a2 a3 a4 a6 a7 a8 x st h => fk_w_iload 5 [a0, a1, a2, a3, a4, .int x, a6, a7, a8] dX3_run_85 rfl,
  fun d L st N y l c i hc hi hl => fk_h_iald dX3_run_87 hc hi hl,
  fun d L st N y l c i hc hi hl => fk_h_iald dX3_run_88 hc hi hl,
  fun d L st N y l c i v hc hi hl => fk_h_iast dX3_run_89 hc hi hl,
  fun d L st h => fk_r_goto dX3_run_90 (by decide),
  fun d a0 a1 a2 a3 a5 a6 a7 a8 x st h => fk_w_iload 4 [a0, a1, a2, a3, .int x, a5, a6, a7, a8] dX3_run_93 rfl,
  fun d L x st h => fk_r_if_ge dX3_run_95 (by decide),
  fun d L st h => fk_w_iconst dX3_run_98 (by decide),
  fun d L x h => fk_r_ret dX3_run_99 (Or.inl rfl),
  fun d a1 a2 a3 a4 a5 a6 a7 a8 x st h => fk_w_aloadn 0 [.ref x, a1, a2, a3, a4, a5, a6, a7, a8] dX3_run_100 rfl,
  fun d L st N y l c hc => fk_g_getC rfl lf_3_30 (by decide) rfl dX3_run_101 hc,
  fun d a0 a1 a2 a3 a5 a6 a7 a8 x st h => fk_w_iload 4 [a0, a1, a2, a3, .int x, a5, a6, a7, a8] dX3_run_104 rfl,
  fun d L st N y l c i hc hi hl => fk_h_iald dX3_run_106 hc hi hl,
  fun d a0 a1 a2 a3 a4 a5 a6 a7 a8 x st h => fk_w_istore 7 9 [] [a0, a1, a2, a3, a4, a5, a6, a7, a8] [a0, a1, a2, a3, a4, a5, a6, .int x, a8] dX3_run_107 rfl rfl (by decide) rfl,
  fun d a0 a1 a2 a3 a4 a5 a7 a8 x st h => fk_w_iload 6 [a0, a1, a2, a3, a4, a5, .int x, a7, a8] dX3_run_109 rfl,
  fun d L st h => fk_w_iconst dX3_run_111 (by decide),
  fun d L x y st h => fk_r_icmp_ne dX3_run_112 (by decide),
  fun d a1 a2 a3 a4 a5 a6 a7 a8 x st h => fk_w_aloadn 0 [.ref x, a1, a2, a3, a4, a5, a6, a7, a8] dX3_run_115 rfl,
  fun d L st N y l c hc => fk_g_getC rfl lf_3_30 (by decide) rfl dX3_run_116 hc,
  fun d a0 a1 a2 a3 a5 a6 a7 a8 x st h => fk_w_iload 4 [a0, a1, a2, a3, .int x, a5, a6, a7, a8] dX3_run_119 rfl,
  fun d a0 a1 a2 a3 a4 a5 a6 a8 x st h => fk_w_iload 7 [a0, a1, a2, a3, a4, a5, a6, .int x, a8] dX3_run_121 rfl,
  fun d L x st h => fk_r_if_ne dX3_run_123 (by decide),
  fun d L st h => fk_w_iconst dX3_run_126 (by decide),
  fun d L st h => fk_r_goto dX3_run_127 (by decide),
  fun d L st h => fk_w_iconst dX3_run_130 (by decide),
  fun d L st N y l c i v hc hi hl => fk_h_iast dX3_run_131 hc hi hl,
  fun d L st h => fk_r_goto dX3_run_132 (by decide),
  fun d a0 a1 a2 a3 a4 a5 a7 a8 x st h => fk_w_iload 6 [a0, a1, a2, a3, a4, a5, .int x, a7, a8] dX3_run_135 rfl,
  fun d L st h => fk_w_iconst dX3_run_137 (by decide),
  fun d L x y st h => fk_r_icmp_eq dX3_run_138 (by decide),
  fun d a0 a1 a2 a3 a4 a5 a7 a8 x st h => fk_w_iload 6 [a0, a1, a2, a3, a4, a5, .int x, a7, a8] dX3_run_141 rfl,
  fun d L st h => fk_w_iconst dX3_run_143 (by decide),
  fun d L x y st h => fk_r_icmp_ne dX3_run_144 (by decide),
  fun d a0 a1 a2 a3 a4 a5 a6 a8 x st h => fk_w_iload 7 [a0, a1, a2, a3, a4, a5, a6, .int x, a8] dX3_run_147 rfl,
  fun d L x st h => fk_r_if_eq dX3_run_149 (by decide),
  fun d L st h => fk_w_iconst dX3_run_152 (by decide),
  fun d L st h => fk_r_goto dX3_run_153 (by decide),
  fun d L st h => fk_w_iconst dX3_run_156 (by decide),
  fun d a0 a1 a2 a3 a4 a5 a7 a8 x st h => fk_w_iload 6 [a0, a1, a2, a3, a4, a5, .int x, a7, a8] dX3_run_157 rfl,
  fun d L st h => fk_w_iconst dX3_run_159 (by decide),
  fun d L x y st h => fk_r_icmp_ne dX3_run_160 (by decide),
  fun d L st h => fk_w_iconst dX3_run_163 (by decide),
  fun d L st h => fk_r_goto dX3_run_164 (by decide),
  fun d L st h => fk_w_iconst dX3_run_167 (by decide),
  fun d L x y st h => fk_r_icmp_eq dX3_run_168 (by decide),
  fun d a0 a1 a2 a3 a5 a6 a7 a8 x st h => fk_w_iinc 4 9 (-1) [] [a0, a1, a2, a3, .int x, a5, a6, a7, a8] [a0, a1, a2, a3, .int (x + (-1 : Int32)), a5, a6, a7, a8] dX3_run_171 rfl rfl rfl (by decide) rfl,
  fun d L st h => fk_r_goto dX3_run_174 (by decide),
  fun d a1 a2 a3 a4 a5 a6 a7 a8 x st h => fk_w_aloadn 0 [.ref x, a1, a2, a3, a4, a5, a6, a7, a8] dX3_run_177 rfl,
  fun d L st N y l c hc => fk_g_getC rfl lf_3_15 (by decide) rfl dX3_run_178 hc,
  fun d a0 a1 a2 a3 a4 a6 a7 a8 x st h => fk_w_iload 5 [a0, a1, a2, a3, a4, .int x, a6, a7, a8] dX3_run_181 rfl,
  fun d L st N y l c i hc hi hl => fk_h_iald dX3_run_183 hc hi hl,
  fun d a0 a1 a2 a3 a4 a6 a7 a8 x st h => fk_w_iload 5 [a0, a1, a2, a3, a4, .int x, a6, a7, a8] dX3_run_184 rfl,
  fun d L x y st h => fk_r_icmp_le dX3_run_186 (by decide),
  fun d a1 a2 a3 a4 a5 a6 a7 a8 x st h => fk_w_aloadn 0 [.ref x, a1, a2, a3, a4, a5, a6, a7, a8] dX3_run_189 rfl,
  fun d L st N y l c hc => fk_g_getC rfl lf_3_15 (by decide) rfl dX3_run_190 hc,
  fun d a0 a1 a2 a3 a4 a6 a7 a8 x st h => fk_w_iload 5 [a0, a1, a2, a3, a4, .int x, a6, a7, a8] dX3_run_193 rfl,
  fun d L st N y l c i hc hi hl => fk_h_iald dX3_run_195 hc hi hl,
  fun d L st h => fk_w_iconst dX3_run_196 (by decide),
  fun d L x y st h => fk_r_isub dX3_run_197,
  fun d a0 a1 a2 a3 a4 a5 a6 a7 a8 x st h => fk_w_istore 5 9 [] [a0, a1, a2, a3, a4, a5, a6, a7, a8] [a0, a1, a2, a3, a4, .int x, a6, a7, a8] dX3_run_198 rfl rfl (by decide) rfl,
  fun d L st h => fk_r_goto dX3_run_200 (by decide),
  fun d a0 a1 a2 a3 a5 a6 a7 a8 x st h => fk_w_iload 4 [a0, a1, a2, a3, .int x, a5, a6, a7, a8] dX3_run_203 rfl,
  fun d L st h => fk_w_iconst dX3_run_205 (by decide),
  fun d L x y st h => fk_r_icmp_lt dX3_run_206 (by decide),
  fun d a0 a1 a2 a3 a4 a5 a6 a8 x st h => fk_w_iload 7 [a0, a1, a2, a3, a4, a5, a6, .int x, a8] dX3_run_209 rfl,
  fun d L x st h => fk_r_if_ne dX3_run_211 (by decide),
  fun d a0 a1 a2 a3 a4 a5 a7 a8 x st h => fk_w_iload 6 [a0, a1, a2, a3, a4, a5, .int x, a7, a8] dX3_run_214 rfl,
  fun d L st h => fk_w_bipush dX3_run_216 (by decide),
  fun d L x y st h => fk_r_icmp_eq dX3_run_218 (by decide),
  fun d a0 a1 a2 a3 a4 a5 a7 a8 x st h => fk_w_iload 6 [a0, a1, a2, a3, a4, a5, .int x, a7, a8] dX3_run_221 rfl,
  fun d L st h => fk_w_bipush dX3_run_223 (by decide),
  fun d L x y st h => fk_r_icmp_ne dX3_run_225 (by decide),
  fun d L st h => fk_w_iconst dX3_run_228 (by decide),
  fun d L x h => fk_r_ret dX3_run_229 (Or.inl rfl),
  fun d a0 a1 a2 a3 a5 a6 a7 a8 x st h => fk_w_iinc 4 9 (-1) [] [a0, a1, a2, a3, .int x, a5, a6, a7, a8] [a0, a1, a2, a3, .int (x + (-1 : Int32)), a5, a6, a7, a8] dX3_run_230 rfl rfl rfl (by decide) rfl,
  fun d a1 a2 a3 a4 a5 a6 a7 a8 x st h => fk_w_aloadn 0 [.ref x, a1, a2, a3, a4, a5, a6, a7, a8] dX3_run_233 rfl,
  fun d L st N y l c hc => fk_g_getC rfl lf_3_30 (by decide) rfl dX3_run_234 hc,
  fun d a0 a1 a2 a3 a5 a6 a7 a8 x st h => fk_w_iload 4 [a0, a1, a2, a3, .int x, a5, a6, a7, a8] dX3_run_237 rfl,
  fun d L st N y l c i hc hi hl => fk_h_iald dX3_run_239 hc hi hl,
  fun d a0 a1 a2 a3 a4 a5 a6 a7 a8 x st h => fk_w_istore 8 9 [] [a0, a1, a2, a3, a4, a5, a6, a7, a8] [a0, a1, a2, a3, a4, a5, a6, a7, .int x] dX3_run_240 rfl rfl (by decide) rfl,
  fun d a0 a1 a2 a3 a4 a5 a7 a8 x st h => fk_w_iload 6 [a0, a1, a2, a3, a4, a5, .int x, a7, a8] dX3_run_242 rfl,
  fun d L st h => fk_w_look (off := 128) dX3_run_244 (by decide) (by decide) (by decide),
  fun d L st h => fk_w_look (off := 98) dX3_run_244 (by decide) (by decide) (by decide),
  fun d L st h => fk_w_look (off := 68) dX3_run_244 (by decide) (by decide) (by decide),
  fun d L st h => fk_w_look (off := 83) dX3_run_244 (by decide) (by decide) (by decide),
  fun d L st h => fk_w_look (off := 113) dX3_run_244 (by decide) (by decide) (by decide),
  fun d L st h => fk_w_look (off := 143) dX3_run_244 (by decide) (by decide) (by decide),
  fun d L st h => fk_w_look (off := 165) dX3_run_244 (by decide) (by decide) (by decide),
  fun d L x st h h0 h1 h2 h3 h4 h5 h6 => fk_w_look (off := 187) dX3_run_244 (by decide) (by refine (if_neg h0).trans ?_; refine (if_neg h1).trans ?_; refine (if_neg h2).trans ?_; refine (if_neg h3).trans ?_; refine (if_neg h4).trans ?_; refine (if_neg h5).trans ?_; refine (if_neg h6).trans ?_; rfl) (by decide),
  fun d a1 a2 a3 a4 a5 a6 a7 a8 x st h => fk_w_aloadn 0 [.ref x, a1, a2, a3, a4, a5, a6, a7, a8] dX3_run_312 rfl,
  fun d L st N y l c hc => fk_g_getC rfl lf_3_30 (by decide) rfl dX3_run_313 hc,
  fun d a0 a1 a2 a3 a5 a6 a7 a8 x st h => fk_w_iload 4 [a0, a1, a2, a3, .int x, a5, a6, a7, a8] dX3_run_316 rfl,
  fun d a0 a1 a2 a3 a4 a5 a6 a7 x st h => fk_w_iload 8 [a0, a1, a2, a3, a4, a5, a6, a7, .int x] dX3_run_318 rfl,
  fun d a0 a1 a2 a3 a4 a5 a6 a8 x st h => fk_w_iload 7 [a0, a1, a2, a3, a4, a5, a6, .int x, a8] dX3_run_320 rfl,
  fun d L x y st h => fk_r_iadd dX3_run_322,
  fun d L st N y l c i v hc hi hl => fk_h_iast dX3_run_323 hc hi hl,
  fun d L st h => fk_r_goto dX3_run_324 (by decide),
  fun d a1 a2 a3 a4 a5 a6 a7 a8 x st h => fk_w_aloadn 0 [.ref x, a1, a2, a3, a4, a5, a6, a7, a8] dX3_run_327 rfl,
  fun d L st N y l c hc => fk_g_getC rfl lf_3_30 (by decide) rfl dX3_run_328 hc,
  fun d a0 a1 a2 a3 a5 a6 a7 a8 x st h => fk_w_iload 4 [a0, a1, a2, a3, .int x, a5, a6, a7, a8] dX3_run_331 rfl,
  fun d a0 a1 a2 a3 a4 a5 a6 a7 x st h => fk_w_iload 8 [a0, a1, a2, a3, a4, a5, a6, a7, .int x] dX3_run_333 rfl,
  fun d a0 a1 a2 a3 a4 a5 a6 a8 x st h => fk_w_iload 7 [a0, a1, a2, a3, a4, a5, a6, .int x, a8] dX3_run_335 rfl,
  fun d L x y st h => fk_r_isub dX3_run_337,
  fun d L st N y l c i v hc hi hl => fk_h_iast dX3_run_338 hc hi hl,
  fun d L st h => fk_r_goto dX3_run_339 (by decide),
  fun d a1 a2 a3 a4 a5 a6 a7 a8 x st h => fk_w_aloadn 0 [.ref x, a1, a2, a3, a4, a5, a6, a7, a8] dX3_run_342 rfl,
  fun d L st N y l c hc => fk_g_getC rfl lf_3_30 (by decide) rfl dX3_run_343 hc,
  fun d a0 a1 a2 a3 a5 a6 a7 a8 x st h => fk_w_iload 4 [a0, a1, a2, a3, .int x, a5, a6, a7, a8] dX3_run_346 rfl,
  fun d a0 a1 a2 a3 a4 a5 a6 a7 x st h => fk_w_iload 8 [a0, a1, a2, a3, a4, a5, a6, a7, .int x] dX3_run_348 rfl,
  fun d a0 a1 a2 a3 a4 a5 a6 a8 x st h => fk_w_iload 7 [a0, a1, a2, a3, a4, a5, a6, .int x, a8] dX3_run_350 rfl,
  fun d L x y st h => fk_r_imul dX3_run_352,
  fun d L st N y l c i v hc hi hl => fk_h_iast dX3_run_353 hc hi hl,
  fun d L st h => fk_r_goto dX3_run_354 (by decide),
  fun d a1 a2 a3 a4 a5 a6 a7 a8 x st h => fk_w_aloadn 0 [.ref x, a1, a2, a3, a4, a5, a6, a7, a8] dX3_run_357 rfl,
  fun d L st N y l c hc => fk_g_getC rfl lf_3_30 (by decide) rfl dX3_run_358 hc,
  fun d a0 a1 a2 a3 a5 a6 a7 a8 x st h => fk_w_iload 4 [a0, a1, a2, a3, .int x, a5, a6, a7, a8] dX3_run_361 rfl,
  fun d a0 a1 a2 a3 a4 a5 a6 a7 x st h => fk_w_iload 8 [a0, a1, a2, a3, a4, a5, a6, a7, .int x] dX3_run_363 rfl,
  fun d a0 a1 a2 a3 a4 a5 a6 a8 x st h => fk_w_iload 7 [a0, a1, a2, a3, a4, a5, a6, .int x, a8] dX3_run_365 rfl,
  fun d L x y st h => fk_r_idiv dX3_run_367,
  fun d L st N y l c i v hc hi hl => fk_h_iast dX3_run_368 hc hi hl,
  fun d L st h => fk_r_goto dX3_run_369 (by decide),
  fun d a1 a2 a3 a4 a5 a6 a7 a8 x st h => fk_w_aloadn 0 [.ref x, a1, a2, a3, a4, a5, a6, a7, a8] dX3_run_372 rfl,
  fun d L st N y l c hc => fk_g_getC rfl lf_3_30 (by decide) rfl dX3_run_373 hc,
  fun d a0 a1 a2 a3 a5 a6 a7 a8 x st h => fk_w_iload 4 [a0, a1, a2, a3, .int x, a5, a6, a7, a8] dX3_run_376 rfl,
  fun d a0 a1 a2 a3 a4 a5 a6 a7 x st h => fk_w_iload 8 [a0, a1, a2, a3, a4, a5, a6, a7, .int x] dX3_run_378 rfl,
  fun d a0 a1 a2 a3 a4 a5 a6 a8 x st h => fk_w_iload 7 [a0, a1, a2, a3, a4, a5, a6, .int x, a8] dX3_run_380 rfl,
  fun d L x y st h => fk_r_irem dX3_run_382,
  fun d L st N y l c i v hc hi hl => fk_h_iast dX3_run_383 hc hi hl,
  fun d L st h => fk_r_goto dX3_run_384 (by decide),
  fun d a1 a2 a3 a4 a5 a6 a7 a8 x st h => fk_w_aloadn 0 [.ref x, a1, a2, a3, a4, a5, a6, a7, a8] dX3_run_387 rfl,
  fun d L st N y l c hc => fk_g_getC rfl lf_3_30 (by decide) rfl dX3_run_388 hc,
  fun d a0 a1 a2 a3 a5 a6 a7 a8 x st h => fk_w_iload 4 [a0, a1, a2, a3, .int x, a5, a6, a7, a8] dX3_run_391 rfl,
  fun d a0 a1 a2 a3 a4 a5 a6 a7 x st h => fk_w_iload 8 [a0, a1, a2, a3, a4, a5, a6, a7, .int x] dX3_run_393 rfl,
  fun d a0 a1 a2 a3 a4 a5 a6 a8 x st h => fk_w_iload 7 [a0, a1, a2, a3, a4, a5, a6, .int x, a8] dX3_run_395 rfl,
  fun d L x y st h => fk_r_icmp_ge dX3_run_397 (by decide),
  fun d L st h => fk_w_iconst dX3_run_400 (by decide),
  fun d L st h => fk_r_goto dX3_run_401 (by decide),
  fun d L st h => fk_w_iconst dX3_run_404 (by decide),
  fun d L st N y l c i v hc hi hl => fk_h_iast dX3_run_405 hc hi hl,
  fun d L st h => fk_r_goto dX3_run_406 (by decide),
  fun d a1 a2 a3 a4 a5 a6 a7 a8 x st h => fk_w_aloadn 0 [.ref x, a1, a2, a3, a4, a5, a6, a7, a8] dX3_run_409 rfl,
  fun d L st N y l c hc => fk_g_getC rfl lf_3_30 (by decide) rfl dX3_run_410 hc,
  fun d a0 a1 a2 a3 a5 a6 a7 a8 x st h => fk_w_iload 4 [a0, a1, a2, a3, .int x, a5, a6, a7, a8] dX3_run_413 rfl,
  fun d a0 a1 a2 a3 a4 a5 a6 a7 x st h => fk_w_iload 8 [a0, a1, a2, a3, a4, a5, a6, a7, .int x] dX3_run_415 rfl,
  fun d a0 a1 a2 a3 a4 a5 a6 a8 x st h => fk_w_iload 7 [a0, a1, a2, a3, a4, a5, a6, .int x, a8] dX3_run_417 rfl,
  fun d L x y st h => fk_r_icmp_le dX3_run_419 (by decide),
  fun d L st h => fk_w_iconst dX3_run_422 (by decide),
  fun d L st h => fk_r_goto dX3_run_423 (by decide),
  fun d L st h => fk_w_iconst dX3_run_426 (by decide),
  fun d L st N y l c i v hc hi hl => fk_h_iast dX3_run_427 hc hi hl,
  fun d L st h => fk_r_goto dX3_run_428 (by decide),
  fun d a1 a2 a3 a4 a5 a6 a7 a8 x st h => fk_w_aloadn 0 [.ref x, a1, a2, a3, a4, a5, a6, a7, a8] dX3_run_431 rfl,
  fun d L st N y l c hc => fk_g_getC rfl lf_3_30 (by decide) rfl dX3_run_432 hc,
  fun d a0 a1 a2 a3 a5 a6 a7 a8 x st h => fk_w_iload 4 [a0, a1, a2, a3, .int x, a5, a6, a7, a8] dX3_run_435 rfl,
  fun d a0 a1 a2 a3 a4 a5 a6 a7 x st h => fk_w_iload 8 [a0, a1, a2, a3, a4, a5, a6, a7, .int x] dX3_run_437 rfl,
  fun d a0 a1 a2 a3 a4 a5 a6 a8 x st h => fk_w_iload 7 [a0, a1, a2, a3, a4, a5, a6, .int x, a8] dX3_run_439 rfl,
  fun d L x y st h => fk_r_icmp_ne dX3_run_441 (by decide),
  fun d L st h => fk_w_iconst dX3_run_444 (by decide),
  fun d L st h => fk_r_goto dX3_run_445 (by decide),
  fun d L st h => fk_w_iconst dX3_run_448 (by decide),
  fun d L st N y l c i v hc hi hl => fk_h_iast dX3_run_449 hc hi hl,
  fun d a0 a1 a2 a3 a4 a6 a7 a8 x st h => fk_w_iinc 5 9 (1) [] [a0, a1, a2, a3, a4, .int x, a6, a7, a8] [a0, a1, a2, a3, a4, .int (x + nI 1), a6, a7, a8] dX3_run_450 rfl rfl rfl (by decide) rfl,
  fun d L st h => fk_r_goto dX3_run_453 (by decide),
  fun d a0 a1 a2 a3 a5 a6 a7 a8 x st h => fk_w_iload 4 [a0, a1, a2, a3, .int x, a5, a6, a7, a8] dX3_run_456 rfl,
  fun d L x st h => fk_r_if_lt dX3_run_458 (by decide),
  fun d a1 a2 a3 a4 a5 a6 a7 a8 x st h => fk_w_aloadn 0 [.ref x, a1, a2, a3, a4, a5, a6, a7, a8] dX3_run_461 rfl,
  fun d L st N y l c hc => fk_g_getC rfl lf_3_30 (by decide) rfl dX3_run_462 hc,
  fun d a0 a1 a2 a3 a5 a6 a7 a8 x st h => fk_w_iload 4 [a0, a1, a2, a3, .int x, a5, a6, a7, a8] dX3_run_465 rfl,
  fun d L st N y l c i hc hi hl => fk_h_iald dX3_run_467 hc hi hl,
  fun d L st h => fk_r_goto dX3_run_468 (by decide),
  fun d L st h => fk_w_iconst dX3_run_471 (by decide),
  fun d L x h => fk_r_ret dX3_run_472 (Or.inl rfl)⟩
theorem hX3_run_6 : ∀ (d : Nat) (a0 a1 a2 a3 a4 a6 a7 a8 : Value) (x : Int32) (st : List Value) (h : fk_H), fk_ev d qX3_run 6 [a0, a1, a2, a3, a4, .int x, a6, a7, a8] st h = fk_ev d qX3_run 8 [a0, a1, a2, a3, a4, .int x, a6, a7, a8] (.int x :: st) h := fun d a0 a1 a2 a3 a4 a6 a7 a8 x st h => fk_w_iload 5 [a0, a1, a2, a3, a4, .int x, a6, a7, a8] dX3_run_6 rfl
theorem dX4_read_0 : decode cX4_read 0 = .ok (.aload_n 0, 1) := by decide +kernel
theorem dX4_read_1 : decode cX4_read 1 = .ok (.aload_n 2, 1) := by decide +kernel
theorem dX4_read_2 : decode cX4_read 2 = .ok (.putfield 29, 3) := by decide +kernel
theorem dX4_read_5 : decode cX4_read 5 = .ok (.aload_n 0, 1) := by decide +kernel
theorem dX4_read_6 : decode cX4_read 6 = .ok (.getfield 29, 3) := by decide +kernel
theorem dX4_read_9 : decode cX4_read 9 = .ok (.invokevirtual 33, 3) := by decide +kernel
theorem dX4_read_12 : decode cX4_read 12 = .ok (.aload_n 0, 1) := by decide +kernel
theorem dX4_read_13 : decode cX4_read 13 = .ok (.iconst 0, 1) := by decide +kernel
theorem dX4_read_14 : decode cX4_read 14 = .ok (.iload_n 1, 1) := by decide +kernel
theorem dX4_read_15 : decode cX4_read 15 = .ok (.aload_n 0, 1) := by decide +kernel
theorem dX4_read_16 : decode cX4_read 16 = .ok (.getfield 9, 3) := by decide +kernel
theorem dX4_read_19 : decode cX4_read 19 = .ok (.arraylength, 1) := by decide +kernel
theorem dX4_read_20 : decode cX4_read 20 = .ok (.iconst 1, 1) := by decide +kernel
theorem dX4_read_21 : decode cX4_read 21 = .ok (.isub, 1) := by decide +kernel
theorem dX4_read_22 : decode cX4_read 22 = .ok (.invokestatic 38, 3) := by decide +kernel
theorem dX4_read_25 : decode cX4_read 25 = .ok (.invokestatic 44, 3) := by decide +kernel
theorem dX4_read_28 : decode cX4_read 28 = .ok (.putfield 15, 3) := by decide +kernel
theorem dX4_read_31 : decode cX4_read 31 = .ok (.iconst 0, 1) := by decide +kernel
theorem dX4_read_32 : decode cX4_read 32 = .ok (.istore_n 3, 1) := by decide +kernel
theorem dX4_read_33 : decode cX4_read 33 = .ok (.iload_n 3, 1) := by decide +kernel
theorem dX4_read_34 : decode cX4_read 34 = .ok (.aload_n 0, 1) := by decide +kernel
theorem dX4_read_35 : decode cX4_read 35 = .ok (.getfield 15, 3) := by decide +kernel
theorem dX4_read_38 : decode cX4_read 38 = .ok (.if_icmp .ge 23, 3) := by decide +kernel
theorem dX4_read_41 : decode cX4_read 41 = .ok (.aload_n 0, 1) := by decide +kernel
theorem dX4_read_42 : decode cX4_read 42 = .ok (.getfield 9, 3) := by decide +kernel
theorem dX4_read_45 : decode cX4_read 45 = .ok (.iload_n 3, 1) := by decide +kernel
theorem dX4_read_46 : decode cX4_read 46 = .ok (.aload_n 0, 1) := by decide +kernel
theorem dX4_read_47 : decode cX4_read 47 = .ok (.getfield 25, 3) := by decide +kernel
theorem dX4_read_50 : decode cX4_read 50 = .ok (.iload_n 3, 1) := by decide +kernel
theorem dX4_read_51 : decode cX4_read 51 = .ok (.invokevirtual 47, 3) := by decide +kernel
theorem dX4_read_54 : decode cX4_read 54 = .ok (.iastore, 1) := by decide +kernel
theorem dX4_read_55 : decode cX4_read 55 = .ok (.iinc 3 1, 3) := by decide +kernel
theorem dX4_read_58 : decode cX4_read 58 = .ok (.goto (-25), 3) := by decide +kernel
theorem dX4_read_61 : decode cX4_read 61 = .ok (.aload_n 0, 1) := by decide +kernel
theorem dX4_read_62 : decode cX4_read 62 = .ok (.getfield 9, 3) := by decide +kernel
theorem dX4_read_65 : decode cX4_read 65 = .ok (.aload_n 0, 1) := by decide +kernel
theorem dX4_read_66 : decode cX4_read 66 = .ok (.getfield 15, 3) := by decide +kernel
theorem dX4_read_69 : decode cX4_read 69 = .ok (.iconst (-1), 1) := by decide +kernel
theorem dX4_read_70 : decode cX4_read 70 = .ok (.iastore, 1) := by decide +kernel
theorem dX4_read_71 : decode cX4_read 71 = .ok (.aload_n 0, 1) := by decide +kernel
theorem dX4_read_72 : decode cX4_read 72 = .ok (.iconst 0, 1) := by decide +kernel
theorem dX4_read_73 : decode cX4_read 73 = .ok (.putfield 19, 3) := by decide +kernel
theorem dX4_read_76 : decode cX4_read 76 = .ok (.aload_n 0, 1) := by decide +kernel
theorem dX4_read_77 : decode cX4_read 77 = .ok (.aload_n 0, 1) := by decide +kernel
theorem dX4_read_78 : decode cX4_read 78 = .ok (.getfield 9, 3) := by decide +kernel
theorem dX4_read_81 : decode cX4_read 81 = .ok (.iconst 0, 1) := by decide +kernel
theorem dX4_read_82 : decode cX4_read 82 = .ok (.iaload, 1) := by decide +kernel
theorem dX4_read_83 : decode cX4_read 83 = .ok (.putfield 22, 3) := by decide +kernel
theorem dX4_read_86 : decode cX4_read 86 = .ok (.iconst 0, 1) := by decide +kernel
theorem dX4_read_87 : decode cX4_read 87 = .ok (.istore_n 3, 1) := by decide +kernel
theorem dX4_read_88 : decode cX4_read 88 = .ok (.iload_n 3, 1) := by decide +kernel
theorem dX4_read_89 : decode cX4_read 89 = .ok (.bipush 16, 2) := by decide +kernel
theorem dX4_read_91 : decode cX4_read 91 = .ok (.if_icmp .gt 50, 3) := by decide +kernel
theorem dX4_read_94 : decode cX4_read 94 = .ok (.aload_n 0, 1) := by decide +kernel
theorem dX4_read_95 : decode cX4_read 95 = .ok (.invokevirtual 53, 3) := by decide +kernel
theorem dX4_read_98 : decode cX4_read 98 = .ok (.istore 4, 2) := by decide +kernel
theorem dX4_read_100 : decode cX4_read 100 = .ok (.iload 4, 2) := by decide +kernel
theorem dX4_read_102 : decode cX4_read 102 = .ok (.ifCond .ne 14, 3) := by decide +kernel
theorem dX4_read_105 : decode cX4_read 105 = .ok (.aload_n 0, 1) := by decide +kernel
theorem dX4_read_106 : decode cX4_read 106 = .ok (.getfield 19, 3) := by decide +kernel
theorem dX4_read_109 : decode cX4_read 109 = .ok (.aload_n 0, 1) := by decide +kernel
theorem dX4_read_110 : decode cX4_read 110 = .ok (.getfield 15, 3) := by decide +kernel
theorem dX4_read_113 : decode cX4_read 113 = .ok (.if_icmp .ne 6, 3) := by decide +kernel
theorem dX4_read_116 : decode cX4_read 116 = .ok (.iload 4, 2) := by decide +kernel
theorem dX4_read_118 : decode cX4_read 118 = .ok (.ireturn, 1) := by decide +kernel
theorem dX4_read_119 : decode cX4_read 119 = .ok (.aload_n 0, 1) := by decide +kernel
theorem dX4_read_120 : decode cX4_read 120 = .ok (.bipush 59, 2) := by decide +kernel
theorem dX4_read_122 : decode cX4_read 122 = .ok (.invokevirtual 57, 3) := by decide +kernel
theorem dX4_read_125 : decode cX4_read 125 = .ok (.istore 4, 2) := by decide +kernel
theorem dX4_read_127 : decode cX4_read 127 = .ok (.iload 4, 2) := by decide +kernel
theorem dX4_read_129 : decode cX4_read 129 = .ok (.ifCond .eq 6, 3) := by decide +kernel
theorem dX4_read_132 : decode cX4_read 132 = .ok (.iload 4, 2) := by decide +kernel
theorem dX4_read_134 : decode cX4_read 134 = .ok (.ireturn, 1) := by decide +kernel
theorem dX4_read_135 : decode cX4_read 135 = .ok (.iinc 3 1, 3) := by decide +kernel
theorem dX4_read_138 : decode cX4_read 138 = .ok (.goto (-50), 3) := by decide +kernel
theorem dX4_read_141 : decode cX4_read 141 = .ok (.iconst 4, 1) := by decide +kernel
theorem dX4_read_142 : decode cX4_read 142 = .ok (.aload_n 0, 1) := by decide +kernel
theorem dX4_read_143 : decode cX4_read 143 = .ok (.getfield 19, 3) := by decide +kernel
theorem dX4_read_146 : decode cX4_read 146 = .ok (.invokestatic 60, 3) := by decide +kernel
theorem dX4_read_149 : decode cX4_read 149 = .ok (.ireturn, 1) := by decide +kernel
theorem rX4_read : (∀ (d : Nat) (a1 a2 a3 a4 : Value) (x : Nat) (st : List Value) (h : fk_H), fk_ev d qX4_read 0 [.ref x, a1, a2, a3, a4] st h = fk_ev d qX4_read 1 [.ref x, a1, a2, a3, a4] (.ref x :: st) h) ∧
  (∀ (d : Nat) (a0 a1 a3 a4 : Value) (x : Nat) (st : List Value) (h : fk_H), fk_ev d qX4_read 1 [a0, a1, .ref x, a3, a4] st h = fk_ev d qX4_read 2 [a0, a1, .ref x, a3, a4] (.ref x :: st) h) ∧
  (∀ (d : Nat) (L st : List Value) (N : Nat) (y : Nat → Nat → Int32) (l : Nat → Nat → Int64) (v : Nat), v < 2 ^ 31 → fk_ev d qX4_read 2 L (.ref v :: .ref 28 :: st) (fk_E N y l) = fk_ev d qX4_read 5 L st (fk_E N (fk_u y 28 2 (nI v)) l)) ∧
  (∀ (d : Nat) (a1 a2 a3 a4 : Value) (x : Nat) (st : List Value) (h : fk_H), fk_ev d qX4_read 5 [.ref x, a1, a2, a3, a4] st h = fk_ev d qX4_read 6 [.ref x, a1, a2, a3, a4] (.ref x :: st) h) ∧
  (∀ (d : Nat) (L st : List Value) (N : Nat) (y : Nat → Nat → Int32) (l : Nat → Nat → Int64), fk_ev d qX4_read 6 L (.ref 28 :: st) (fk_E N y l) = fk_ev d qX4_read 9 L (.ref (y 28 2).toNatClampNeg :: st) (fk_E N y l)) ∧
  (∀ (d : Nat) (L : List Value)   (N : Nat) (y : Nat → Nat → Int32) (l : Nat → Nat → Int64) (c : Nat), fk_at c 3 → fk_ev (d + 1) qX4_read 9 L (.ref c :: []) (fk_E N y l) = (fk_ev d qX3_clear 0 [.ref c] [] (fk_E N y l)).bind fun o => fk_ev (d + 1) qX4_read 12 L (o.1.toList ++ []) o.2) ∧
  (∀ (d : Nat) (a1 a2 a3 a4 : Value) (x : Nat) (st : List Value) (h : fk_H), fk_ev d qX4_read 12 [.ref x, a1, a2, a3, a4] st h = fk_ev d qX4_read 13 [.ref x, a1, a2, a3, a4] (.ref x :: st) h) ∧
  (∀ (d : Nat) (L st : List Value) (h : fk_H), fk_ev d qX4_read 13 L st h = fk_ev d qX4_read 14 L (.int (nI 0) :: st) h) ∧
  (∀ (d : Nat) (a0 a2 a3 a4 : Value) (x : Int32) (st : List Value) (h : fk_H), fk_ev d qX4_read 14 [a0, .int x, a2, a3, a4] st h = fk_ev d qX4_read 15 [a0, .int x, a2, a3, a4] (.int x :: st) h) ∧
  (∀ (d : Nat) (a1 a2 a3 a4 : Value) (x : Nat) (st : List Value) (h : fk_H), fk_ev d qX4_read 15 [.ref x, a1, a2, a3, a4] st h = fk_ev d qX4_read 16 [.ref x, a1, a2, a3, a4] (.ref x :: st) h) ∧
  (∀ (d : Nat) (L st : List Value) (N : Nat) (y : Nat → Nat → Int32) (l : Nat → Nat → Int64), fk_ev d qX4_read 16 L (.ref 28 :: st) (fk_E N y l) = fk_ev d qX4_read 19 L (.ref 29 :: st) (fk_E N y l)) ∧
  (∀ (d : Nat) (L st : List Value) (N : Nat) (y : Nat → Nat → Int32) (l : Nat → Nat → Int64), fk_ev d qX4_read 19 L (.ref 29 :: st) (fk_E N y l) = fk_ev d qX4_read 20 L (.int (nI 241) :: st) (fk_E N y l)) ∧
  (∀ (d : Nat) (L st : List Value) (h : fk_H), fk_ev d qX4_read 20 L st h = fk_ev d qX4_read 21 L (.int (nI 1) :: st) h) ∧
  (∀ (d : Nat) (L : List Value) (x y : Int32) (st : List Value) (h : fk_H), fk_ev d qX4_read 21 L (.int y :: .int x :: st) h = fk_ev d qX4_read 22 L (.int (x - y) :: st) h) ∧
  (∀ (d : Nat) (L : List Value) (x y : Int32) (w0 w1 : Value) (h : fk_H), fk_ev d qX4_read 22 L (.int y :: .int x :: [w0, w1]) h = fk_ev d qX4_read 25 L (.int (if y < x then y else x) :: [w0, w1]) h) ∧
  (∀ (d : Nat) (L : List Value) (x y : Int32) (w0 : Value) (h : fk_H), fk_ev d qX4_read 25 L (.int y :: .int x :: [w0]) h = fk_ev d qX4_read 28 L (.int (if x < y then y else x) :: [w0]) h) ∧
  (∀ (d : Nat) (L st : List Value) (N : Nat) (y : Nat → Nat → Int32) (l : Nat → Nat → Int64) (v : Int32), fk_ev d qX4_read 28 L (.int v :: .ref 28 :: st) (fk_E N y l) = fk_ev d qX4_read 31 L st (fk_E N (fk_u y 28 3 v) l)) ∧
  (∀ (d : Nat) (L st : List Value) (h : fk_H), fk_ev d qX4_read 31 L st h = fk_ev d qX4_read 32 L (.int (nI 0) :: st) h) ∧
  (∀ (d : Nat) (a0 a1 a2 a3 a4 : Value) (x : Int32) (st : List Value) (h : fk_H), fk_ev d qX4_read 32 [a0, a1, a2, a3, a4] (.int x :: st) h = fk_ev d qX4_read 33 [a0, a1, a2, .int x, a4] st h) ∧
  (∀ (d : Nat) (a1 a2 a3 a4 : Value) (x : Nat) (st : List Value) (h : fk_H), fk_ev d qX4_read 34 [.ref x, a1, a2, a3, a4] st h = fk_ev d qX4_read 35 [.ref x, a1, a2, a3, a4] (.ref x :: st) h) ∧
  (∀ (d : Nat) (L st : List Value) (N : Nat) (y : Nat → Nat → Int32) (l : Nat → Nat → Int64), fk_ev d qX4_read 35 L (.ref 28 :: st) (fk_E N y l) = fk_ev d qX4_read 38 L (.int (y 28 3) :: st) (fk_E N y l)) ∧
  (∀ (d : Nat) (L : List Value) (x y : Int32) (st : List Value) (h : fk_H), fk_ev d qX4_read 38 L (.int y :: .int x :: st) h = if y ≤ x then fk_ev d qX4_read 61 L st h else fk_ev d qX4_read 41 L st h) ∧
  (∀ (d : Nat) (a1 a2 a3 a4 : Value) (x : Nat) (st : List Value) (h : fk_H), fk_ev d qX4_read 41 [.ref x, a1, a2, a3, a4] st h = fk_ev d qX4_read 42 [.ref x, a1, a2, a3, a4] (.ref x :: st) h) ∧
  (∀ (d : Nat) (L st : List Value) (N : Nat) (y : Nat → Nat → Int32) (l : Nat → Nat → Int64), fk_ev d qX4_read 42 L (.ref 28 :: st) (fk_E N y l) = fk_ev d qX4_read 45 L (.ref 29 :: st) (fk_E N y l)) ∧
  (∀ (d : Nat) (a0 a1 a2 a4 : Value) (x : Int32) (st : List Value) (h : fk_H), fk_ev d qX4_read 45 [a0, a1, a2, .int x, a4] st h = fk_ev d qX4_read 46 [a0, a1, a2, .int x, a4] (.int x :: st) h) ∧
  (∀ (d : Nat) (a1 a2 a3 a4 : Value) (x : Nat) (st : List Value) (h : fk_H), fk_ev d qX4_read 46 [.ref x, a1, a2, a3, a4] st h = fk_ev d qX4_read 47 [.ref x, a1, a2, a3, a4] (.ref x :: st) h) ∧
  (∀ (d : Nat) (L st : List Value) (N : Nat) (y : Nat → Nat → Int32) (l : Nat → Nat → Int64), fk_ev d qX4_read 47 L (.ref 28 :: st) (fk_E N y l) = fk_ev d qX4_read 50 L (.ref 26 :: st) (fk_E N y l)) ∧
  (∀ (d : Nat) (a0 a1 a2 a4 : Value) (x : Int32) (st : List Value) (h : fk_H), fk_ev d qX4_read 50 [a0, a1, a2, .int x, a4] st h = fk_ev d qX4_read 51 [a0, a1, a2, .int x, a4] (.int x :: st) h) ∧
  (∀ (d : Nat) (L : List Value) (x0 : Int32) (w0 w1 : Value) (N : Nat) (y : Nat → Nat → Int32) (l : Nat → Nat → Int64), fk_ev (d + 1) qX4_read 51 L (.int x0 :: .ref 26 :: [w0, w1]) (fk_E N y l) = (fk_ev d qX10_byteAt 0 [.ref 26, .int x0] [] (fk_E N y l)).bind fun o => fk_ev (d + 1) qX4_read 54 L (o.1.toList ++ [w0, w1]) o.2) ∧
  (∀ (d : Nat) (L st : List Value) (N : Nat) (y : Nat → Nat → Int32) (l : Nat → Nat → Int64) (i : Nat) (v : Int32), i < 241 → fk_ev d qX4_read 54 L (.int v :: .int (nI i) :: .ref 29 :: st) (fk_E N y l) = fk_ev d qX4_read 55 L st (fk_E N (fk_u y 29 i v) l)) ∧
  (∀ (d : Nat) (a0 a1 a2 a4 : Value) (x : Int32) (st : List Value) (h : fk_H), fk_ev d qX4_read 55 [a0, a1, a2, .int x, a4] st h = fk_ev d qX4_read 58 [a0, a1, a2, .int (x + nI 1), a4] st h) ∧
  (∀ (d : Nat) (L st : List Value) (h : fk_H), fk_ev d qX4_read 58 L st h = fk_ev d qX4_read 33 L st h) ∧
  (∀ (d : Nat) (a1 a2 a3 a4 : Value) (x : Nat) (st : List Value) (h : fk_H), fk_ev d qX4_read 61 [.ref x, a1, a2, a3, a4] st h = fk_ev d qX4_read 62 [.ref x, a1, a2, a3, a4] (.ref x :: st) h) ∧
  (∀ (d : Nat) (L st : List Value) (N : Nat) (y : Nat → Nat → Int32) (l : Nat → Nat → Int64), fk_ev d qX4_read 62 L (.ref 28 :: st) (fk_E N y l) = fk_ev d qX4_read 65 L (.ref 29 :: st) (fk_E N y l)) ∧
  (∀ (d : Nat) (a1 a2 a3 a4 : Value) (x : Nat) (st : List Value) (h : fk_H), fk_ev d qX4_read 65 [.ref x, a1, a2, a3, a4] st h = fk_ev d qX4_read 66 [.ref x, a1, a2, a3, a4] (.ref x :: st) h) ∧
  (∀ (d : Nat) (L st : List Value) (N : Nat) (y : Nat → Nat → Int32) (l : Nat → Nat → Int64), fk_ev d qX4_read 66 L (.ref 28 :: st) (fk_E N y l) = fk_ev d qX4_read 69 L (.int (y 28 3) :: st) (fk_E N y l)) ∧
  (∀ (d : Nat) (L st : List Value) (h : fk_H), fk_ev d qX4_read 69 L st h = fk_ev d qX4_read 70 L (.int ((-1 : Int32)) :: st) h) ∧
  (∀ (d : Nat) (L st : List Value) (N : Nat) (y : Nat → Nat → Int32) (l : Nat → Nat → Int64) (i : Nat) (v : Int32), i < 241 → fk_ev d qX4_read 70 L (.int v :: .int (nI i) :: .ref 29 :: st) (fk_E N y l) = fk_ev d qX4_read 71 L st (fk_E N (fk_u y 29 i v) l)) ∧
  (∀ (d : Nat) (a1 a2 a3 a4 : Value) (x : Nat) (st : List Value) (h : fk_H), fk_ev d qX4_read 71 [.ref x, a1, a2, a3, a4] st h = fk_ev d qX4_read 72 [.ref x, a1, a2, a3, a4] (.ref x :: st) h) ∧
  (∀ (d : Nat) (L st : List Value) (h : fk_H), fk_ev d qX4_read 72 L st h = fk_ev d qX4_read 73 L (.int (nI 0) :: st) h) ∧
  (∀ (d : Nat) (L st : List Value) (N : Nat) (y : Nat → Nat → Int32) (l : Nat → Nat → Int64) (v : Int32), fk_ev d qX4_read 73 L (.int v :: .ref 28 :: st) (fk_E N y l) = fk_ev d qX4_read 76 L st (fk_E N (fk_u y 28 4 v) l)) ∧
  (∀ (d : Nat) (a1 a2 a3 a4 : Value) (x : Nat) (st : List Value) (h : fk_H), fk_ev d qX4_read 76 [.ref x, a1, a2, a3, a4] st h = fk_ev d qX4_read 77 [.ref x, a1, a2, a3, a4] (.ref x :: st) h) ∧
  (∀ (d : Nat) (a1 a2 a3 a4 : Value) (x : Nat) (st : List Value) (h : fk_H), fk_ev d qX4_read 77 [.ref x, a1, a2, a3, a4] st h = fk_ev d qX4_read 78 [.ref x, a1, a2, a3, a4] (.ref x :: st) h) ∧
  (∀ (d : Nat) (L st : List Value) (N : Nat) (y : Nat → Nat → Int32) (l : Nat → Nat → Int64), fk_ev d qX4_read 78 L (.ref 28 :: st) (fk_E N y l) = fk_ev d qX4_read 81 L (.ref 29 :: st) (fk_E N y l)) ∧
  (∀ (d : Nat) (L st : List Value) (h : fk_H), fk_ev d qX4_read 81 L st h = fk_ev d qX4_read 82 L (.int (nI 0) :: st) h) ∧
  (∀ (d : Nat) (L st : List Value) (N : Nat) (y : Nat → Nat → Int32) (l : Nat → Nat → Int64) (i : Nat), i < 241 → fk_ev d qX4_read 82 L (.int (nI i) :: .ref 29 :: st) (fk_E N y l) = fk_ev d qX4_read 83 L (.int (y 29 i) :: st) (fk_E N y l)) ∧
  (∀ (d : Nat) (L st : List Value) (N : Nat) (y : Nat → Nat → Int32) (l : Nat → Nat → Int64) (v : Int32), fk_ev d qX4_read 83 L (.int v :: .ref 28 :: st) (fk_E N y l) = fk_ev d qX4_read 86 L st (fk_E N (fk_u y 28 5 v) l)) ∧
  (∀ (d : Nat) (L st : List Value) (h : fk_H), fk_ev d qX4_read 86 L st h = fk_ev d qX4_read 87 L (.int (nI 0) :: st) h) ∧
  (∀ (d : Nat) (a0 a1 a2 a3 a4 : Value) (x : Int32) (st : List Value) (h : fk_H), fk_ev d qX4_read 87 [a0, a1, a2, a3, a4] (.int x :: st) h = fk_ev d qX4_read 88 [a0, a1, a2, .int x, a4] st h) ∧
  (∀ (d : Nat) (L st : List Value) (h : fk_H), fk_ev d qX4_read 89 L st h = fk_ev d qX4_read 91 L (.int (nI 16) :: st) h) ∧
  (∀ (d : Nat) (L : List Value) (x y : Int32) (st : List Value) (h : fk_H), fk_ev d qX4_read 91 L (.int y :: .int x :: st) h = if y < x then fk_ev d qX4_read 141 L st h else fk_ev d qX4_read 94 L st h) ∧
  (∀ (d : Nat) (a1 a2 a3 a4 : Value) (x : Nat) (st : List Value) (h : fk_H), fk_ev d qX4_read 94 [.ref x, a1, a2, a3, a4] st h = fk_ev d qX4_read 95 [.ref x, a1, a2, a3, a4] (.ref x :: st) h) ∧
  (∀ (d : Nat) (L : List Value)   (N : Nat) (y : Nat → Nat → Int32) (l : Nat → Nat → Int64), fk_ev (d + 1) qX4_read 95 L (.ref 28 :: []) (fk_E N y l) = (fk_ev d qX4_clause 0 [.ref 28, .null, .null] [] (fk_E N y l)).bind fun o => fk_ev (d + 1) qX4_read 98 L (o.1.toList ++ []) o.2) ∧
  (∀ (d : Nat) (a0 a1 a2 a3 a4 : Value) (x : Int32) (st : List Value) (h : fk_H), fk_ev d qX4_read 98 [a0, a1, a2, a3, a4] (.int x :: st) h = fk_ev d qX4_read 100 [a0, a1, a2, a3, .int x] st h) ∧
  (∀ (d : Nat) (a0 a1 a2 a3 : Value) (x : Int32) (st : List Value) (h : fk_H), fk_ev d qX4_read 100 [a0, a1, a2, a3, .int x] st h = fk_ev d qX4_read 102 [a0, a1, a2, a3, .int x] (.int x :: st) h) ∧
  (∀ (d : Nat) (L : List Value) (x : Int32) (st : List Value) (h : fk_H), fk_ev d qX4_read 102 L (.int x :: st) h = if ¬ x = nI 0 then fk_ev d qX4_read 116 L st h else fk_ev d qX4_read 105 L st h) ∧
  (∀ (d : Nat) (a1 a2 a3 a4 : Value) (x : Nat) (st : List Value) (h : fk_H), fk_ev d qX4_read 105 [.ref x, a1, a2, a3, a4] st h = fk_ev d qX4_read 106 [.ref x, a1, a2, a3, a4] (.ref x :: st) h) ∧
  (∀ (d : Nat) (L st : List Value) (N : Nat) (y : Nat → Nat → Int32) (l : Nat → Nat → Int64), fk_ev d qX4_read 106 L (.ref 28 :: st) (fk_E N y l) = fk_ev d qX4_read 109 L (.int (y 28 4) :: st) (fk_E N y l)) ∧
  (∀ (d : Nat) (a1 a2 a3 a4 : Value) (x : Nat) (st : List Value) (h : fk_H), fk_ev d qX4_read 109 [.ref x, a1, a2, a3, a4] st h = fk_ev d qX4_read 110 [.ref x, a1, a2, a3, a4] (.ref x :: st) h) ∧
  (∀ (d : Nat) (L st : List Value) (N : Nat) (y : Nat → Nat → Int32) (l : Nat → Nat → Int64), fk_ev d qX4_read 110 L (.ref 28 :: st) (fk_E N y l) = fk_ev d qX4_read 113 L (.int (y 28 3) :: st) (fk_E N y l)) ∧
  (∀ (d : Nat) (L : List Value) (x y : Int32) (st : List Value) (h : fk_H), fk_ev d qX4_read 113 L (.int y :: .int x :: st) h = if ¬ x = y then fk_ev d qX4_read 119 L st h else fk_ev d qX4_read 116 L st h) ∧
  (∀ (d : Nat) (a0 a1 a2 a3 : Value) (x : Int32) (st : List Value) (h : fk_H), fk_ev d qX4_read 116 [a0, a1, a2, a3, .int x] st h = fk_ev d qX4_read 118 [a0, a1, a2, a3, .int x] (.int x :: st) h) ∧
  (∀ (d : Nat) (L : List Value) (x : Int32) (h : fk_H), fk_ev d qX4_read 118 L [.int x] h = some (some (.int x), h)) ∧
  (∀ (d : Nat) (a1 a2 a3 a4 : Value) (x : Nat) (st : List Value) (h : fk_H), fk_ev d qX4_read 119 [.ref x, a1, a2, a3, a4] st h = fk_ev d qX4_read 120 [.ref x, a1, a2, a3, a4] (.ref x :: st) h) ∧
  (∀ (d : Nat) (L st : List Value) (h : fk_H), fk_ev d qX4_read 120 L st h = fk_ev d qX4_read 122 L (.int (nI 59) :: st) h) ∧
  (∀ (d : Nat) (L : List Value) (x0 : Int32)  (N : Nat) (y : Nat → Nat → Int32) (l : Nat → Nat → Int64), fk_ev (d + 1) qX4_read 122 L (.int x0 :: .ref 28 :: []) (fk_E N y l) = (fk_ev d qX4_sign 0 [.ref 28, .int x0] [] (fk_E N y l)).bind fun o => fk_ev (d + 1) qX4_read 125 L (o.1.toList ++ []) o.2) ∧
  (∀ (d : Nat) (a0 a1 a2 a3 a4 : Value) (x : Int32) (st : List Value) (h : fk_H), fk_ev d qX4_read 125 [a0, a1, a2, a3, a4] (.int x :: st) h = fk_ev d qX4_read 127 [a0, a1, a2, a3, .int x] st h) ∧
  (∀ (d : Nat) (a0 a1 a2 a3 : Value) (x : Int32) (st : List Value) (h : fk_H), fk_ev d qX4_read 127 [a0, a1, a2, a3, .int x] st h = fk_ev d qX4_read 129 [a0, a1, a2, a3, .int x] (.int x :: st) h) ∧
  (∀ (d : Nat) (L : List Value) (x : Int32) (st : List Value) (h : fk_H), fk_ev d qX4_read 129 L (.int x :: st) h = if x = nI 0 then fk_ev d qX4_read 135 L st h else fk_ev d qX4_read 132 L st h) ∧
  (∀ (d : Nat) (a0 a1 a2 a3 : Value) (x : Int32) (st : List Value) (h : fk_H), fk_ev d qX4_read 132 [a0, a1, a2, a3, .int x] st h = fk_ev d qX4_read 134 [a0, a1, a2, a3, .int x] (.int x :: st) h) ∧
  (∀ (d : Nat) (L : List Value) (x : Int32) (h : fk_H), fk_ev d qX4_read 134 L [.int x] h = some (some (.int x), h)) ∧
  (∀ (d : Nat) (a0 a1 a2 a4 : Value) (x : Int32) (st : List Value) (h : fk_H), fk_ev d qX4_read 135 [a0, a1, a2, .int x, a4] st h = fk_ev d qX4_read 138 [a0, a1, a2, .int (x + nI 1), a4] st h) ∧
  (∀ (d : Nat) (L st : List Value) (h : fk_H), fk_ev d qX4_read 138 L st h = fk_ev d qX4_read 88 L st h) ∧
  (∀ (d : Nat) (L st : List Value) (h : fk_H), fk_ev d qX4_read 141 L st h = fk_ev d qX4_read 142 L (.int (nI 4) :: st) h) ∧
  (∀ (d : Nat) (a1 a2 a3 a4 : Value) (x : Nat) (st : List Value) (h : fk_H), fk_ev d qX4_read 142 [.ref x, a1, a2, a3, a4] st h = fk_ev d qX4_read 143 [.ref x, a1, a2, a3, a4] (.ref x :: st) h) ∧
  (∀ (d : Nat) (L st : List Value) (N : Nat) (y : Nat → Nat → Int32) (l : Nat → Nat → Int64), fk_ev d qX4_read 143 L (.ref 28 :: st) (fk_E N y l) = fk_ev d qX4_read 146 L (.int (y 28 4) :: st) (fk_E N y l)) ∧
  (∀ (d : Nat) (L : List Value) (x0 : Int32) (x1 : Int32)  (h : fk_H), fk_ev (d + 1) qX4_read 146 L (.int x1 :: .int x0 :: []) h = (fk_ev d qX11_faultAt 0 [.int x0, .int x1] [] h).bind fun o => fk_ev (d + 1) qX4_read 149 L (o.1.toList ++ []) o.2) ∧
  (∀ (d : Nat) (L : List Value) (x : Int32) (h : fk_H), fk_ev d qX4_read 149 L [.int x] h = some (some (.int x), h)) := ⟨fun d a1 a2 a3 a4 x st h => fk_w_aloadn 0 [.ref x, a1, a2, a3, a4] dX4_read_0 rfl,
  fun d a0 a1 a3 a4 x st h => fk_w_aloadn 2 [a0, a1, .ref x, a3, a4] dX4_read_1 rfl,
  fun d L st N y l v hv => fk_g_putM rfl lf_4_29 (by decide) dX4_read_2 rfl hv fk_at_28,
  fun d a1 a2 a3 a4 x st h => fk_w_aloadn 0 [.ref x, a1, a2, a3, a4] dX4_read_5 rfl,
  fun d L st N y l => fk_g_getM rfl lf_4_29 (by decide) dX4_read_6 fk_at_28,
  fun d L  N y l c hc => fk_g_call [] [] rfl lm_4_33 dX4_read_9 rfl ⟨rfl, by decide⟩ (by simp) hc,
  fun d a1 a2 a3 a4 x st h => fk_w_aloadn 0 [.ref x, a1, a2, a3, a4] dX4_read_12 rfl,
  fun d L st h => fk_w_iconst dX4_read_13 (by decide),
  fun d a0 a2 a3 a4 x st h => fk_w_iloadn 1 [a0, .int x, a2, a3, a4] dX4_read_14 rfl,
  fun d a1 a2 a3 a4 x st h => fk_w_aloadn 0 [.ref x, a1, a2, a3, a4] dX4_read_15 rfl,
  fun d L st N y l => fk_g_getC rfl lf_4_9 (by decide) rfl dX4_read_16 fk_at_28,
  fun d L st N y l => fk_g_alen fk_at_29 fk_ln_29 dX4_read_19,
  fun d L st h => fk_w_iconst dX4_read_20 (by decide),
  fun d L x y st h => fk_r_isub dX4_read_21,
  fun d L x y w0 w1 h => fk_p_min dX4_read_22 ln_4_38 lp_4_38 (by simp),
  fun d L x y w0 h => fk_p_max dX4_read_25 ln_4_44 lp_4_44 (by simp),
  fun d L st N y l v => fk_g_putI rfl lf_4_15 (by decide) dX4_read_28 rfl fk_at_28,
  fun d L st h => fk_w_iconst dX4_read_31 (by decide),
  fun d a0 a1 a2 a3 a4 x st h => fk_w_istoren 3 5 [] [a0, a1, a2, a3, a4] [a0, a1, a2, .int x, a4] dX4_read_32 rfl rfl (by decide) rfl,
  fun d a1 a2 a3 a4 x st h => fk_w_aloadn 0 [.ref x, a1, a2, a3, a4] dX4_read_34 rfl,
  fun d L st N y l => fk_g_getI rfl lf_4_15 (by decide) dX4_read_35 fk_at_28,
  fun d L x y st h => fk_r_icmp_ge dX4_read_38 (by decide),
  fun d a1 a2 a3 a4 x st h => fk_w_aloadn 0 [.ref x, a1, a2, a3, a4] dX4_read_41 rfl,
  fun d L st N y l => fk_g_getC rfl lf_4_9 (by decide) rfl dX4_read_42 fk_at_28,
  fun d a0 a1 a2 a4 x st h => fk_w_iloadn 3 [a0, a1, a2, .int x, a4] dX4_read_45 rfl,
  fun d a1 a2 a3 a4 x st h => fk_w_aloadn 0 [.ref x, a1, a2, a3, a4] dX4_read_46 rfl,
  fun d L st N y l => fk_g_getC rfl lf_4_25 (by decide) rfl dX4_read_47 fk_at_28,
  fun d a0 a1 a2 a4 x st h => fk_w_iloadn 3 [a0, a1, a2, .int x, a4] dX4_read_50 rfl,
  fun d L x0 w0 w1 N y l  => fk_g_call [.int x0] [w0, w1] rfl lm_4_47 dX4_read_51 rfl ⟨rfl, by decide⟩ (by simp) fk_at_26,
  fun d L st N y l i v hi => fk_g_iast fk_at_29 fk_ln_29 (by decide) dX4_read_54 hi,
  fun d a0 a1 a2 a4 x st h => fk_w_iinc 3 5 (1) [] [a0, a1, a2, .int x, a4] [a0, a1, a2, .int (x + nI 1), a4] dX4_read_55 rfl rfl rfl (by decide) rfl,
  fun d L st h => fk_r_goto dX4_read_58 (by decide),
  fun d a1 a2 a3 a4 x st h => fk_w_aloadn 0 [.ref x, a1, a2, a3, a4] dX4_read_61 rfl,
  fun d L st N y l => fk_g_getC rfl lf_4_9 (by decide) rfl dX4_read_62 fk_at_28,
  fun d a1 a2 a3 a4 x st h => fk_w_aloadn 0 [.ref x, a1, a2, a3, a4] dX4_read_65 rfl,
  fun d L st N y l => fk_g_getI rfl lf_4_15 (by decide) dX4_read_66 fk_at_28,
  fun d L st h => fk_w_iconst dX4_read_69 (by decide),
  fun d L st N y l i v hi => fk_g_iast fk_at_29 fk_ln_29 (by decide) dX4_read_70 hi,
  fun d a1 a2 a3 a4 x st h => fk_w_aloadn 0 [.ref x, a1, a2, a3, a4] dX4_read_71 rfl,
  fun d L st h => fk_w_iconst dX4_read_72 (by decide),
  fun d L st N y l v => fk_g_putI rfl lf_4_19 (by decide) dX4_read_73 rfl fk_at_28,
  fun d a1 a2 a3 a4 x st h => fk_w_aloadn 0 [.ref x, a1, a2, a3, a4] dX4_read_76 rfl,
  fun d a1 a2 a3 a4 x st h => fk_w_aloadn 0 [.ref x, a1, a2, a3, a4] dX4_read_77 rfl,
  fun d L st N y l => fk_g_getC rfl lf_4_9 (by decide) rfl dX4_read_78 fk_at_28,
  fun d L st h => fk_w_iconst dX4_read_81 (by decide),
  fun d L st N y l i hi => fk_g_iald fk_at_29 fk_ln_29 (by decide) dX4_read_82 hi,
  fun d L st N y l v => fk_g_putI rfl lf_4_22 (by decide) dX4_read_83 rfl fk_at_28,
  fun d L st h => fk_w_iconst dX4_read_86 (by decide),
  fun d a0 a1 a2 a3 a4 x st h => fk_w_istoren 3 5 [] [a0, a1, a2, a3, a4] [a0, a1, a2, .int x, a4] dX4_read_87 rfl rfl (by decide) rfl,
  fun d L st h => fk_w_bipush dX4_read_89 (by decide),
  fun d L x y st h => fk_r_icmp_gt dX4_read_91 (by decide),
  fun d a1 a2 a3 a4 x st h => fk_w_aloadn 0 [.ref x, a1, a2, a3, a4] dX4_read_94 rfl,
  fun d L  N y l  => fk_g_call [] [] rfl lm_4_53 dX4_read_95 rfl ⟨rfl, by decide⟩ (by simp) fk_at_28,
  fun d a0 a1 a2 a3 a4 x st h => fk_w_istore 4 5 [] [a0, a1, a2, a3, a4] [a0, a1, a2, a3, .int x] dX4_read_98 rfl rfl (by decide) rfl,
  fun d a0 a1 a2 a3 x st h => fk_w_iload 4 [a0, a1, a2, a3, .int x] dX4_read_100 rfl,
  fun d L x st h => fk_r_if_ne dX4_read_102 (by decide),
  fun d a1 a2 a3 a4 x st h => fk_w_aloadn 0 [.ref x, a1, a2, a3, a4] dX4_read_105 rfl,
  fun d L st N y l => fk_g_getI rfl lf_4_19 (by decide) dX4_read_106 fk_at_28,
  fun d a1 a2 a3 a4 x st h => fk_w_aloadn 0 [.ref x, a1, a2, a3, a4] dX4_read_109 rfl,
  fun d L st N y l => fk_g_getI rfl lf_4_15 (by decide) dX4_read_110 fk_at_28,
  fun d L x y st h => fk_r_icmp_ne dX4_read_113 (by decide),
  fun d a0 a1 a2 a3 x st h => fk_w_iload 4 [a0, a1, a2, a3, .int x] dX4_read_116 rfl,
  fun d L x h => fk_r_ret dX4_read_118 (Or.inl rfl),
  fun d a1 a2 a3 a4 x st h => fk_w_aloadn 0 [.ref x, a1, a2, a3, a4] dX4_read_119 rfl,
  fun d L st h => fk_w_bipush dX4_read_120 (by decide),
  fun d L x0 N y l  => fk_g_call [.int x0] [] rfl lm_4_57 dX4_read_122 rfl ⟨rfl, by decide⟩ (by simp) fk_at_28,
  fun d a0 a1 a2 a3 a4 x st h => fk_w_istore 4 5 [] [a0, a1, a2, a3, a4] [a0, a1, a2, a3, .int x] dX4_read_125 rfl rfl (by decide) rfl,
  fun d a0 a1 a2 a3 x st h => fk_w_iload 4 [a0, a1, a2, a3, .int x] dX4_read_127 rfl,
  fun d L x st h => fk_r_if_eq dX4_read_129 (by decide),
  fun d a0 a1 a2 a3 x st h => fk_w_iload 4 [a0, a1, a2, a3, .int x] dX4_read_132 rfl,
  fun d L x h => fk_r_ret dX4_read_134 (Or.inl rfl),
  fun d a0 a1 a2 a4 x st h => fk_w_iinc 3 5 (1) [] [a0, a1, a2, .int x, a4] [a0, a1, a2, .int (x + nI 1), a4] dX4_read_135 rfl rfl rfl (by decide) rfl,
  fun d L st h => fk_r_goto dX4_read_138 (by decide),
  fun d L st h => fk_w_iconst dX4_read_141 (by decide),
  fun d a1 a2 a3 a4 x st h => fk_w_aloadn 0 [.ref x, a1, a2, a3, a4] dX4_read_142 rfl,
  fun d L st N y l => fk_g_getI rfl lf_4_19 (by decide) dX4_read_143 fk_at_28,
  fun d L x0 x1 h => fk_g_calls [.int x0, .int x1] [] rfl lm_4_60 dX4_read_146 rfl ⟨rfl, by decide⟩ (by simp),
  fun d L x h => fk_r_ret dX4_read_149 (Or.inl rfl)⟩
theorem hX4_read_33 : ∀ (d : Nat) (a0 a1 a2 a4 : Value) (x : Int32) (st : List Value) (h : fk_H), fk_ev d qX4_read 33 [a0, a1, a2, .int x, a4] st h = fk_ev d qX4_read 34 [a0, a1, a2, .int x, a4] (.int x :: st) h := fun d a0 a1 a2 a4 x st h => fk_w_iloadn 3 [a0, a1, a2, .int x, a4] dX4_read_33 rfl
theorem hX4_read_88 : ∀ (d : Nat) (a0 a1 a2 a4 : Value) (x : Int32) (st : List Value) (h : fk_H), fk_ev d qX4_read 88 [a0, a1, a2, .int x, a4] st h = fk_ev d qX4_read 89 [a0, a1, a2, .int x, a4] (.int x :: st) h := fun d a0 a1 a2 a4 x st h => fk_w_iloadn 3 [a0, a1, a2, .int x, a4] dX4_read_88 rfl
