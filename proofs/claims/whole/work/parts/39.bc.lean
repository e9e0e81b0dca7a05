/-! Integer.bitCount -/
theorem ck_and (a b : Nat) : nI a &&& nI b = nI (a &&& b) := by
  apply fk_tb_ext
  intro k hk
  rw [fk_tb_and, fk_tb_nI hk, fk_tb_nI hk, fk_tb_nI hk, Nat.testBit_and]
def ck_bc (x : Int32) : Int32 :=
  let u (z s : Int32) : Int32 := (z.toUInt32 >>> (s.toUInt32 &&& Int32.toUInt32 31)).toInt32
  let a := x - (u x (nI 1) &&& nI 1431655765)
  let b := (a &&& nI 858993459) + (u a (nI 2) &&& nI 858993459)
  let e := (b + u b (nI 4)) &&& nI 252645135
  let f := e + u e (nI 8)
  let g := f + u f (nI 16)
  g &&& nI 63
def ck_bcn (n : Nat) : Nat :=
  let a := n - (n / 2 &&& 1431655765)
  let b := (a &&& 858993459) + (a / 4 &&& 858993459)
  let e := (b + b / 16) &&& 252645135
  let f := e + e / 256
  let g := f + f / 65536
  g &&& 63
def ck_pc (n : Nat) : Nat := n % 2 + n / 2 % 2 + n / 4 % 2 + n / 8 % 2 + n / 16 % 2 + n / 32 % 2 + n / 64 % 2 + n / 128 % 2 + n / 256 % 2 + n / 512 % 2 + n / 1024 % 2 + n / 2048 % 2 + n / 4096 % 2 + n / 8192 % 2 + n / 16384 % 2 + n / 32768 % 2
theorem ck_bc_all : (List.range 256).all (fun a => (List.range 256).all fun b => Nat.beq (ck_bcn (256 * a + b)) (ck_pc (256 * a + b))) = true := by decide +kernel
theorem ck_bcn_pc {n : Nat} (h : n < 65536) : ck_bcn n = ck_pc n := by
  have h1 := List.all_eq_true.mp ck_bc_all (n / 256) (List.mem_range.mpr (by omega))
  have h2 := List.all_eq_true.mp h1 (n % 256) (List.mem_range.mpr (by omega))
  rw [show 256 * (n / 256) + n % 256 = n by omega] at h2
  exact Nat.eq_of_beq_eq_true h2
theorem ck_u {n : Nat} (h : n < 2 ^ 32) (s : Int32) (k : Nat) (hs : ((s.toUInt32 &&& Int32.toUInt32 31).toBitVec % 32).toNat = k) : ((nI n).toUInt32 >>> (s.toUInt32 &&& Int32.toUInt32 31)).toInt32 = nI (n / 2 ^ k) := pk_ushrN h s k hs
theorem ck_bc_n {n : Nat} (h : n < 65536) : ck_bc (nI n) = nI (ck_bcn n) := by
  unfold ck_bc ck_bcn
  dsimp only
  rw [ck_u (show n < 2 ^ 32 by omega) (nI 1) 1 (by decide), ck_and]
  have h1 : (n / 2 ^ 1 &&& 1431655765) ≤ n := Nat.le_trans Nat.and_le_left (by omega)
  rw [pk_sub h1, show (2 : Nat) ^ 1 = 2 from rfl] at *
  have ha : n - (n / 2 &&& 1431655765) < 65536 := by omega
  generalize n - (n / 2 &&& 1431655765) = a at ha ⊢
  rw [ck_u (show a < 2 ^ 32 by omega) (nI 2) 2 (by decide), ck_and, ck_and, nI_add, show (2 : Nat) ^ 2 = 4 from rfl]
  have hb : (a &&& 858993459) + (a / 4 &&& 858993459) < 131072 := by
    have := Nat.and_le_left (n := a) (m := 858993459)
    have := Nat.and_le_left (n := a / 4) (m := 858993459)
    omega
  generalize (a &&& 858993459) + (a / 4 &&& 858993459) = b at hb ⊢
  rw [ck_u (show b < 2 ^ 32 by omega) (nI 4) 4 (by decide), nI_add, ck_and, show (2 : Nat) ^ 4 = 16 from rfl]
  have he : (b + b / 16 &&& 252645135) < 262144 := by
    have := Nat.and_le_left (n := b + b / 16) (m := 252645135)
    omega
  generalize (b + b / 16 &&& 252645135) = e at he ⊢
  rw [ck_u (show e < 2 ^ 32 by omega) (nI 8) 8 (by decide), nI_add, show (2 : Nat) ^ 8 = 256 from rfl]
  have hf : e + e / 256 < 524288 := by omega
  generalize e + e / 256 = f at hf ⊢
  rw [ck_u (show f < 2 ^ 32 by omega) (nI 16) 16 (by decide), nI_add, ck_and, show (2 : Nat) ^ 16 = 65536 from rfl]
theorem ck_has_n {n k : Nat} (h : n < 65536) (hk : k < 32) : nI n >>> (nI k &&& 31) &&& nI 1 = nI (n / 2 ^ k % 2) := by
  rw [fk_has hk, fk_tb_nI hk, Nat.testBit_eq_decide_div_mod_eq]
  rcases Nat.mod_two_eq_zero_or_one (n / 2 ^ k) with e | e
  · rw [e]; rfl
  · rw [e]; rfl
theorem ck_bits_n {n : Nat} (h : n < 65536) : fk_bits (nI n) = nI (ck_pc n) := by
  unfold fk_bits ck_pc
  simp only [fk_it]
  simp (disch := first | assumption | omega) only [ck_has_n, nI_add]
  congr 1
  simp only [Nat.zero_add, Nat.reduceAdd, Nat.reducePow, Nat.div_one]
theorem ck_of16 {x : Int32} (h : ∀ k, fk_tb x k = true → k < 16) : ∃ n : Nat, n < 65536 ∧ x = nI n := by
  refine ⟨x.toBitVec.toNat, ?_, ?_⟩
  · apply Nat.lt_pow_two_of_testBit (n := 16)
    intro i hi
    cases e : x.toBitVec.toNat.testBit i
    · rfl
    · exact absurd (h i e) (by omega)
  · apply fk_tb_ext
    intro k hk
    rw [fk_tb_nI hk]
    rfl
theorem ck_bc_16 {x : Int32} (h : ∀ k, fk_tb x k = true → k < 16) : ck_bc x = fk_bits x := by
  obtain ⟨n, hn, rfl⟩ := ck_of16 h
  rw [ck_bc_n hn, ck_bits_n hn, ck_bcn_pc hn]
theorem mJ6_bitCount {d : Nat} {h : fk_H} {x : Int32} : fk_ev d qJ6_bitCount_0f7a4 0 [.int x] [] h = some (some (.int ((ck_bc x))), h) := by
  simp only [rJ6_bitCount_0f7a4]
  rfl
