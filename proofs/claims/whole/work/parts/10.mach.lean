/-! THE SMALL MACHINE: what the claim's bytecode does to numbered cells. A cell has a kind (0 to 12: an object of that class of vwCl; 20 int[], 21 byte[], 22 boolean[], 23 long[], 24 Half[], 30 the script) and a length; cell 0 is the script. -/
/-- how many cells there are (the script too), slots of those that were made, kinds and lengths, contents -/
abbrev fk_H : Type := Nat × Nat × (Nat → Nat × Nat) × (Nat → Nat → Value)
/-- what an instruction leads to: on with the next one; the end; a call (who, arguments, where it goes on, the stack below) -/
abbrev fk_R : Type := (Nat × List Value × List Value × fk_H) ⊕ (Option Value × fk_H) ⊕ (fk_Me × List Value × Nat × List Value)
def fk_nx (pc : Nat) (L st : List Value) (h : fk_H) : Option fk_R := some (.inl (pc, L, st, h))
def fk_put (h : fk_H) (c i : Nat) (v : Value) : fk_H := (h.1, h.2.1, h.2.2.1, va_up h.2.2.2 c (va_up (h.2.2.2 c) i v))
def fk_new (h : fk_H) (k n : Nat) (f : Nat → Value) : fk_H := (h.1 + 1, h.2.1 + n, va_up h.2.2.1 h.1 (k, n), va_up h.2.2.2 h.1 f)
def fk_cpy (h : fk_H) (a0 sp a dp n : Nat) : fk_H := (h.1, h.2.1, h.2.2.1, va_up h.2.2.2 a (va_cpy (h.2.2.2 a0) (h.2.2.2 a) sp dp n))
def fk_iv (v : Value) : Int32 := match v with
  | .int x => x
  | _ => 0
def fk_lv (v : Value) : Int64 := match v with
  | .long x => x
  | _ => 0
abbrev fk_is (h : fk_H) (c k : Nat) : Prop := 0 < c ∧ c < h.1 ∧ (h.2.2.1 c).1 = k
abbrev fk_in (i : Int32) (n : Nat) : Prop := ¬ (i < 0 ∨ n ≤ i.toNatClampNeg)
def fk_okv (ty : FieldType) (v : Value) : Bool := match ty, v with
  | .int, .int _ => true
  | .boolean, .int x => x == 0 || x == 1
  | .object _, .ref _ => true
  | .array _, .ref _ => true
  | _, _ => false
/-- an argument: an int or a cell -/
def fk_arg (v : Value) : Bool := match v with
  | .int _ => true
  | .ref _ => true
  | .retAddr _ => true
  | _ => false
/-- the bytes of a String constant; constant i is .retAddr (2 * i), its array .retAddr (2 * i + 1) -/
def fk_sb (j : Nat) : List Int32 := fk_sbt.getD (j / 2) []
section FKI
variable {α : Type}
def fk_i1 (st : List Value) (k : Int32 → List Value → Option α) : Option α := match st with
  | .int x :: r => k x r
  | _ => none
def fk_i2 (st : List Value) (k : Int32 → Int32 → List Value → Option α) : Option α := match st with
  | .int y :: .int x :: r => k x y r
  | _ => none
def fk_l1 (st : List Value) (k : Int64 → List Value → Option α) : Option α := match st with
  | .long x :: r => k x r
  | _ => none
def fk_l2 (st : List Value) (k : Int64 → Int64 → List Value → Option α) : Option α := match st with
  | .long y :: .long x :: r => k x y r
  | _ => none
def fk_r1 (st : List Value) (k : Nat → List Value → Option α) : Option α := match st with
  | .ref x :: r => k x r
  | _ => none
def fk_ix (st : List Value) (k : Nat → Int32 → List Value → Option α) : Option α := match st with
  | .int i :: .ref c :: r => k c i r
  | _ => none
def fk_v1 (st : List Value) (k : Value → List Value → Option α) : Option α := match st with
  | v :: r => k v r
  | _ => none
def fk_ldi (L : List Value) (i : Nat) (k : Int32 → Option α) : Option α := match L[i]? with
  | some (.int x) => k x
  | _ => none
def fk_ldr (L : List Value) (i : Nat) (k : Nat → Option α) : Option α := match L[i]? with
  | some (.ref x) => k x
  | _ => none
def fk_ldl (L : List Value) (i : Nat) (k : Int64 → Option α) : Option α := match L[i]? with
  | some (.long x) => k x
  | _ => none
def fk_lda (L : List Value) (i : Nat) (k : Value → Option α) : Option α := match L[i]? with
  | some (.ref x) => k (.ref x)
  | some (.retAddr x) => k (.retAddr x)
  | _ => none
def fk_ra (st : List Value) (k : Nat → List Value → Option α) (k2 : Nat → List Value → Option α) : Option α := match st with
  | .ref x :: r => k x r
  | .retAddr x :: r => k2 x r
  | _ => none
def fk_ixa (st : List Value) (k : Nat → Int32 → List Value → Option α) (k2 : Nat → Int32 → List Value → Option α) : Option α := match st with
  | .int i :: .ref c :: r => k c i r
  | .int i :: .retAddr c :: r => k2 c i r
  | _ => none
def fk_if (p : Prop) [Decidable p] (k : Option α) : Option α := if p then k else none
def fk_so {β : Type} (o : Option β) (k : β → Option α) : Option α := match o with
  | some x => k x
  | none => none
def fk_jp (pc : Nat) (off : Int) (k : Nat → Option α) : Option α := if 0 ≤ (pc : Int) + off then k ((pc : Int) + off).toNat else none
theorem fk_i1_s {st : List Value} {k : Int32 → List Value → Option α} {o : α} (h : fk_i1 st k = some o) : ∃ x r, st = .int x :: r ∧ k x r = some o := by
  unfold fk_i1 at h
  split at h
  next x r => exact ⟨x, r, rfl, h⟩
  next => cases h
theorem fk_i2_s {st : List Value} {k : Int32 → Int32 → List Value → Option α} {o : α} (h : fk_i2 st k = some o) : ∃ x y r, st = .int y :: .int x :: r ∧ k x y r = some o := by
  unfold fk_i2 at h
  split at h
  next y x r => exact ⟨x, y, r, rfl, h⟩
  next => cases h
theorem fk_l1_s {st : List Value} {k : Int64 → List Value → Option α} {o : α} (h : fk_l1 st k = some o) : ∃ x r, st = .long x :: r ∧ k x r = some o := by
  unfold fk_l1 at h
  split at h
  next x r => exact ⟨x, r, rfl, h⟩
  next => cases h
theorem fk_l2_s {st : List Value} {k : Int64 → Int64 → List Value → Option α} {o : α} (h : fk_l2 st k = some o) : ∃ x y r, st = .long y :: .long x :: r ∧ k x y r = some o := by
  unfold fk_l2 at h
  split at h
  next y x r => exact ⟨x, y, r, rfl, h⟩
  next => cases h
theorem fk_r1_s {st : List Value} {k : Nat → List Value → Option α} {o : α} (h : fk_r1 st k = some o) : ∃ x r, st = .ref x :: r ∧ k x r = some o := by
  unfold fk_r1 at h
  split at h
  next x r => exact ⟨x, r, rfl, h⟩
  next => cases h
theorem fk_ix_s {st : List Value} {k : Nat → Int32 → List Value → Option α} {o : α} (h : fk_ix st k = some o) : ∃ c i r, st = .int i :: .ref c :: r ∧ k c i r = some o := by
  unfold fk_ix at h
  split at h
  next i c r => exact ⟨c, i, r, rfl, h⟩
  next => cases h
theorem fk_v1_s {st : List Value} {k : Value → List Value → Option α} {o : α} (h : fk_v1 st k = some o) : ∃ v r, st = v :: r ∧ k v r = some o := by
  unfold fk_v1 at h
  split at h
  next v r => exact ⟨v, r, rfl, h⟩
  next => cases h
theorem fk_ldi_s {L : List Value} {i : Nat} {k : Int32 → Option α} {o : α} (h : fk_ldi L i k = some o) : ∃ x, L[i]? = some (.int x) ∧ k x = some o := by
  unfold fk_ldi at h
  split at h
  next x hx => exact ⟨x, hx, h⟩
  next => cases h
theorem fk_ldr_s {L : List Value} {i : Nat} {k : Nat → Option α} {o : α} (h : fk_ldr L i k = some o) : ∃ x, L[i]? = some (.ref x) ∧ k x = some o := by
  unfold fk_ldr at h
  split at h
  next x hx => exact ⟨x, hx, h⟩
  next => cases h
theorem fk_ldl_s {L : List Value} {i : Nat} {k : Int64 → Option α} {o : α} (h : fk_ldl L i k = some o) : ∃ x, L[i]? = some (.long x) ∧ k x = some o := by
  unfold fk_ldl at h
  split at h
  next x hx => exact ⟨x, hx, h⟩
  next => cases h
theorem fk_lda_s {L : List Value} {i : Nat} {k : Value → Option α} {o : α} (h : fk_lda L i k = some o) : (∃ x, L[i]? = some (.ref x) ∧ k (.ref x) = some o) ∨ ∃ x, L[i]? = some (.retAddr x) ∧ k (.retAddr x) = some o := by
  unfold fk_lda at h
  split at h
  next x hx => exact Or.inl ⟨x, hx, h⟩
  next x hx => exact Or.inr ⟨x, hx, h⟩
  next => cases h
theorem fk_ra_s {st : List Value} {k k2 : Nat → List Value → Option α} {o : α} (h : fk_ra st k k2 = some o) : (∃ x r, st = .ref x :: r ∧ k x r = some o) ∨ ∃ x r, st = .retAddr x :: r ∧ k2 x r = some o := by
  unfold fk_ra at h
  split at h
  next x r => exact Or.inl ⟨x, r, rfl, h⟩
  next x r => exact Or.inr ⟨x, r, rfl, h⟩
  next => cases h
theorem fk_ixa_s {st : List Value} {k k2 : Nat → Int32 → List Value → Option α} {o : α} (h : fk_ixa st k k2 = some o) : (∃ c i r, st = .int i :: .ref c :: r ∧ k c i r = some o) ∨ ∃ c i r, st = .int i :: .retAddr c :: r ∧ k2 c i r = some o := by
  unfold fk_ixa at h
  split at h
  next i c r => exact Or.inl ⟨c, i, r, rfl, h⟩
  next i c r => exact Or.inr ⟨c, i, r, rfl, h⟩
  next => cases h
theorem fk_if_s {p : Prop} [Decidable p] {k : Option α} {o : α} (h : fk_if p k = some o) : p ∧ k = some o := by
  unfold fk_if at h
  split at h
  next hp => exact ⟨hp, h⟩
  next => cases h
theorem fk_so_s {β : Type} {q : Option β} {k : β → Option α} {o : α} (h : fk_so q k = some o) : ∃ x, q = some x ∧ k x = some o := by
  unfold fk_so at h
  split at h
  next x => exact ⟨x, rfl, h⟩
  next => cases h
theorem fk_jp_s {pc : Nat} {off : Int} {k : Nat → Option α} {o : α} (h : fk_jp pc off k = some o) : ∃ t : Nat, (pc : Int) + off = (t : Int) ∧ k t = some o := by
  unfold fk_jp at h
  split at h
  next hp => exact ⟨_, (Int.toNat_of_nonneg hp).symm, h⟩
  next => cases h
end FKI
/-- a store into a local: not into the second half of a long -/
def fk_sto {α : Type} (me : fk_Me) (L : List Value) (i : Nat) (v : Value) (k : List Value → Option α) : Option α := fk_if (i < L.length ∧ i ∉ me.2.2.2.2.2) (k (L.set i v))
def fk_sto2 {α : Type} (me : fk_Me) (L : List Value) (i : Nat) (v : Value) (k : List Value → Option α) : Option α := fk_if (i + 1 < L.length ∧ i ∉ me.2.2.2.2.2 ∧ i + 1 ∈ me.2.2.2.2.2 ∧ L[i + 1]? = some .null) (k (L.set i v))
/-- a branch -/
def fk_br (p : Prop) [Decidable p] (pc : Nat) (off : Int) (L st : List Value) (h : fk_H) : Option fk_R := fk_jp pc off fun t => if p then fk_nx t L st h else fk_nx (pc + 3) L st h
def fk_icmp (cd : ClassFile.Cond) (x y : Int32) (pc : Nat) (off : Int) (L st : List Value) (h : fk_H) : Option fk_R := match cd with
  | .eq => fk_br (x = y) pc off L st h
  | .ne => fk_br (¬ x = y) pc off L st h
  | .lt => fk_br (x < y) pc off L st h
  | .ge => fk_br (y ≤ x) pc off L st h
  | .gt => fk_br (y < x) pc off L st h
  | .le => fk_br (x ≤ y) pc off L st h
def fk_kd (ty : ArrayType) : Option (Nat × Value) := match ty with
  | .int => some (20, .int 0)
  | .byte => some (21, .int 0)
  | .boolean => some (22, .int 0)
  | .long => some (23, .long 0)
  | _ => none
/-- a call: n arguments on the stack, below them the receiver (kinds 0, 4), all of them ints and cells -/
def fk_call (kd : Nat) (q : fk_Me) (n : Nat) (pc : Nat) (st : List Value) (h : fk_H) : Option fk_R :=
  fk_if (n ≤ st.length ∧ (st.take n).all fk_arg = true) <|
  if kd = 2 then fk_if (2 * (st.drop n).length ≤ 8 ∧ n ≤ q.2.2.2.1) (some (.inr (.inr (q, (st.take n).reverse, pc + 3, st.drop n))))
  else if kd = 8 then fk_ra (st.drop n) (fun _ _ => none) fun j r => fk_if (2 * r.length ≤ 8 ∧ n + 1 ≤ q.2.2.2.1 ∧ j % 2 = 0 ∧ j / 2 < 4) (some (.inr (.inr (q, .retAddr j :: (st.take n).reverse, pc + 3, r))))
  else fk_r1 (st.drop n) fun c r => fk_if (2 * r.length ≤ 8 ∧ n + 1 ≤ q.2.2.2.1 ∧ fk_is h c q.1) (some (.inr (.inr (q, .ref c :: (st.take n).reverse, pc + 3, r))))
def fk_prim (k : Nat) (pc : Nat) (L st : List Value) (h : fk_H) : Option fk_R :=
  if k = 6 then fk_r1 st fun _ r => fk_if (2 * r.length ≤ 8) (fk_nx (pc + 3) L r h)
  else if k = 7 then fk_i2 st fun x y r => fk_if (2 * r.length ≤ 8) (fk_nx (pc + 3) L (.int (if x < y then y else x) :: r) h)
  else if k = 8 then fk_i2 st fun x y r => fk_if (2 * r.length ≤ 8) (fk_nx (pc + 3) L (.int (if y < x then y else x) :: r) h)
  else if k = 9 then fk_i2 st fun dp n r => fk_r1 r fun a r1 => fk_ix r1 fun a0 sp r2 => fk_if (2 * r2.length ≤ 8 ∧ fk_is h a 20 ∧ fk_is h a0 20 ∧ ¬ sp < 0 ∧ ¬ dp < 0 ∧ ¬ n < 0 ∧ sp.toNatClampNeg + n.toNatClampNeg ≤ (h.2.2.1 a0).2 ∧ dp.toNatClampNeg + n.toNatClampNeg ≤ (h.2.2.1 a).2) (fk_nx (pc + 3) L r2 (fk_cpy h a0 sp.toNatClampNeg a dp.toNatClampNeg n.toNatClampNeg))
  else none
def fk_inv (me : fk_Me) (ok : Nat → Bool) (pr : Nat → Bool) (ix pc : Nat) (L st : List Value) (h : fk_H) : Option fk_R := match fk_ml me.1 ix with
  | some e => fk_if (ok e.2.1 = true) (fk_call e.2.1 e.2.2.1 e.2.2.2 pc st h)
  | none => fk_so (fk_pl me.1 ix) fun k => fk_if (pr k = true) (fk_prim k pc L st h)
/-- what an instruction does -/
def fk_ins (me : fk_Me) (i : Instr) (pc : Nat) (L st : List Value) (h : fk_H) : Option fk_R := match i with
  | .iconst n => fk_nx (pc + 1) L (.int (Int32.ofInt n) :: st) h
  | .bipush n => fk_nx (pc + 2) L (.int (Int8.ofInt n).toInt32 :: st) h
  | .sipush n => fk_nx (pc + 3) L (.int (Int16.ofInt n).toInt32 :: st) h
  | .lconst n => fk_nx (pc + 1) L (.long (Int64.ofNat (n : Nat)) :: st) h
  | .ldc ix => match fk_ct me.1 ix with
    | some v => fk_nx (pc + 2) L (.int v :: st) h
    | none => fk_so (fk_sx me.1 ix) fun i => fk_nx (pc + 2) L (.retAddr (2 * i) :: st) h
  | .ldc_w ix => fk_so (fk_ct me.1 ix) fun v => fk_nx (pc + 3) L (.int v :: st) h
  | .ldc2_w ix => fk_so (fk_lt me.1 ix) fun v => fk_nx (pc + 3) L (.long v :: st) h
  | .iload k => fk_ldi L k fun x => fk_nx (pc + 2) L (.int x :: st) h
  | .iload_n k => fk_ldi L (k : Nat) fun x => fk_nx (pc + 1) L (.int x :: st) h
  | .aload k => fk_lda L k fun v => fk_nx (pc + 2) L (v :: st) h
  | .aload_n k => fk_lda L (k : Nat) fun v => fk_nx (pc + 1) L (v :: st) h
  | .lload k => fk_ldl L k fun x => fk_nx (pc + 2) L (.long x :: st) h
  | .lload_n k => fk_ldl L (k : Nat) fun x => fk_nx (pc + 1) L (.long x :: st) h
  | .istore k => fk_i1 st fun x r => fk_sto me L k (.int x) fun L1 => fk_nx (pc + 2) L1 r h
  | .istore_n k => fk_i1 st fun x r => fk_sto me L (k : Nat) (.int x) fun L1 => fk_nx (pc + 1) L1 r h
  | .astore k => fk_r1 st fun x r => fk_sto me L k (.ref x) fun L1 => fk_nx (pc + 2) L1 r h
  | .astore_n k => fk_r1 st fun x r => fk_sto me L (k : Nat) (.ref x) fun L1 => fk_nx (pc + 1) L1 r h
  | .lstore k => fk_l1 st fun x r => fk_sto2 me L k (.long x) fun L1 => fk_nx (pc + 2) L1 r h
  | .lstore_n k => fk_l1 st fun x r => fk_sto2 me L (k : Nat) (.long x) fun L1 => fk_nx (pc + 1) L1 r h
  | .iinc k n => fk_ldi L k fun x => fk_sto me L k (.int (x + Int32.ofInt n)) fun L1 => fk_nx (pc + 3) L1 st h
  | .iadd => fk_i2 st fun x y r => fk_nx (pc + 1) L (.int (x + y) :: r) h
  | .isub => fk_i2 st fun x y r => fk_nx (pc + 1) L (.int (x - y) :: r) h
  | .imul => fk_i2 st fun x y r => fk_nx (pc + 1) L (.int (x * y) :: r) h
  | .iand => fk_i2 st fun x y r => fk_nx (pc + 1) L (.int (x &&& y) :: r) h
  | .ior => fk_i2 st fun x y r => fk_nx (pc + 1) L (.int (x ||| y) :: r) h
  | .ixor => fk_i2 st fun x y r => fk_nx (pc + 1) L (.int (x ^^^ y) :: r) h
  | .ishl => fk_i2 st fun x y r => fk_nx (pc + 1) L (.int (x <<< (y &&& 31)) :: r) h
  | .ishr => fk_i2 st fun x y r => fk_nx (pc + 1) L (.int (x >>> (y &&& 31)) :: r) h
  | .iushr => fk_i2 st fun x y r => fk_nx (pc + 1) L (.int ((x.toUInt32 >>> (y.toUInt32 &&& Int32.toUInt32 31)).toInt32) :: r) h
  | .idiv => fk_i2 st fun x y r => fk_if (¬ y = 0) (fk_nx (pc + 1) L (.int (x / y) :: r) h)
  | .irem => fk_i2 st fun x y r => fk_if (¬ y = 0) (fk_nx (pc + 1) L (.int (x - x / y * y) :: r) h)
  | .ineg => fk_i1 st fun x r => fk_nx (pc + 1) L (.int (-x) :: r) h
  | .i2b => fk_i1 st fun x r => fk_nx (pc + 1) L (.int x.toInt8.toInt32 :: r) h
  | .i2c => fk_i1 st fun x r => fk_nx (pc + 1) L (.int (x.toUInt32 % 65536).toInt32 :: r) h
  | .ladd => fk_l2 st fun x y r => fk_nx (pc + 1) L (.long (x + y) :: r) h
  | .lcmp => fk_l2 st fun x y r => fk_nx (pc + 1) L (.int (lg_cmp x y) :: r) h
  | .dup => fk_v1 st fun v r => fk_if (fk_arg v = true) (fk_nx (pc + 1) L (v :: v :: r) h)
  | .dup2 => fk_v1 st fun v r1 => fk_v1 r1 fun w r => fk_if (fk_arg v = true ∧ fk_arg w = true) (fk_nx (pc + 1) L (v :: w :: v :: w :: r) h)
  | .pop => fk_v1 st fun v r => fk_if (fk_arg v = true) (fk_nx (pc + 1) L r h)
  | .goto off => fk_jp pc off fun t => fk_nx t L st h
  | .ifCond cd off => fk_i1 st fun x r => fk_icmp cd x 0 pc off L r h
  | .if_icmp cd off => fk_i2 st fun x y r => fk_icmp cd x y pc off L r h
  | .tableswitch dflt lo hi offs => fk_i1 st fun x r => if x.toInt < lo ∨ hi < x.toInt then fk_jp pc dflt fun t => fk_nx t L r h else fk_so offs[(x.toInt - lo).toNat]? fun off => fk_jp pc off fun t => fk_nx t L r h
  | .lookupswitch dflt ps => fk_i1 st fun x r => fk_if ((ps.toList.zip (ps.toList.drop 1)).all (fun (a, next) => a.1 < next.1) = true) (fk_jp pc (Op.lookupswitch.offset ps.toList dflt x.toInt) fun t => fk_nx t L r h)
  | .getfield ix => fk_ra st (fun c r => fk_so (fk_fl me.1 ix) fun f => fk_if (fk_is h c f.1) (fk_nx (pc + 3) L (h.2.2.2 c f.2.1 :: r) h)) fun j r => fk_so (fk_kf me.1 ix) fun kd => fk_if (j % 2 = 0 ∧ j / 2 < 4 ∧ kd < 2) (fk_nx (pc + 3) L ((if kd = 0 then .retAddr (j + 1) else .int 0) :: r) h)
  | .getstatic ix => fk_so (fk_kf me.1 ix) fun kd => fk_if (kd = 2) (fk_nx (pc + 3) L (.int 1 :: st) h)
  | .putfield ix => fk_v1 st fun v r1 => fk_r1 r1 fun c r => fk_so (fk_fl me.1 ix) fun f => fk_if (fk_is h c f.1 ∧ fk_okv (fk_ty f.1 f.2.1) v = true ∧ f.2.2 ≠ 3 ∧ (f.2.2 = 2 → me.2.1.name = "<init>")) (fk_nx (pc + 3) L r (fk_put h c f.2.1 v))
  | .iaload => fk_ix st fun c i r => fk_if ((fk_is h c 20 ∨ (c = 0 ∧ (h.2.2.1 c).1 = 30)) ∧ fk_in i (h.2.2.1 c).2) (fk_nx (pc + 1) L (.int (fk_iv (h.2.2.2 c i.toNatClampNeg)) :: r) h)
  | .baload => fk_ixa st (fun c i r => fk_if ((fk_is h c 21 ∨ fk_is h c 22) ∧ fk_in i (h.2.2.1 c).2) (fk_nx (pc + 1) L (.int (fk_iv (h.2.2.2 c i.toNatClampNeg)) :: r) h)) fun j i r => fk_if (j % 2 = 1 ∧ j / 2 < 4 ∧ fk_in i (fk_sb j).length) (fk_nx (pc + 1) L (.int ((fk_sb j).getD i.toNatClampNeg 0) :: r) h)
  | .laload => fk_ix st fun c i r => fk_if (fk_is h c 23 ∧ fk_in i (h.2.2.1 c).2) (fk_nx (pc + 1) L (.long (fk_lv (h.2.2.2 c i.toNatClampNeg)) :: r) h)
  | .aaload => fk_ix st fun c i r => fk_if (fk_is h c 24 ∧ fk_in i (h.2.2.1 c).2) (fk_r1 [h.2.2.2 c i.toNatClampNeg] fun v _ => fk_nx (pc + 1) L (.ref v :: r) h)
  | .iastore => fk_i1 st fun x r1 => fk_ix r1 fun c i r => fk_if (fk_is h c 20 ∧ fk_in i (h.2.2.1 c).2) (fk_nx (pc + 1) L r (fk_put h c i.toNatClampNeg (.int x)))
  | .bastore => fk_i1 st fun x r1 => fk_ix r1 fun c i r => fk_if ((fk_is h c 21 ∨ fk_is h c 22) ∧ fk_in i (h.2.2.1 c).2) (fk_nx (pc + 1) L r (fk_put h c i.toNatClampNeg (.int (vp_nar (if (h.2.2.1 c).1 = 21 then .byte else .boolean) x))))
  | .lastore => fk_l1 st fun x r1 => fk_ix r1 fun c i r => fk_if (fk_is h c 23 ∧ fk_in i (h.2.2.1 c).2) (fk_nx (pc + 1) L r (fk_put h c i.toNatClampNeg (.long x)))
  | .aastore => fk_r1 st fun v r1 => fk_ix r1 fun c i r => fk_if (fk_is h c 24 ∧ fk_is h v 0 ∧ fk_in i (h.2.2.1 c).2) (fk_nx (pc + 1) L r (fk_put h c i.toNatClampNeg (.ref v)))
  | .arraylength => fk_ra st (fun c r => fk_if (fk_is h c 20 ∨ (c = 0 ∧ (h.2.2.1 c).1 = 30)) (fk_nx (pc + 1) L (.int (Int32.ofNat (h.2.2.1 c).2) :: r) h)) fun j r => fk_if (j % 2 = 1 ∧ j / 2 < 4) (fk_nx (pc + 1) L (.int (Int32.ofNat (fk_sb j).length) :: r) h)
  | .new ix => fk_so (fk_nw me.1 ix) fun ci => fk_nx (pc + 3) L (.ref h.1 :: st) (fk_new h ci (fk_nf ci) (fun k => defaultValue (fk_ty ci k)))
  | .newarray ty => fk_i1 st fun n r => fk_so (fk_kd ty) fun k => fk_if (¬ n < 0 ∧ n.toNatClampNeg ≤ 65536) (fk_nx (pc + 2) L (.ref h.1 :: r) (fk_new h k.1 n.toNatClampNeg (fun _ => k.2)))
  | .anewarray ix => fk_i1 st fun n r => fk_if (fk_nw me.1 ix = some 0 ∧ ¬ n < 0 ∧ n.toNatClampNeg ≤ 65536) (fk_nx (pc + 3) L (.ref h.1 :: r) (fk_new h 24 n.toNatClampNeg (fun _ => .null)))
  | .invokevirtual ix => fk_inv me (fun k => k == 0 || k == 8) (fun _ => false) ix pc L st h
  | .invokestatic ix => fk_inv me (fun k => k == 2) (fun k => k == 7 || k == 8 || k == 9) ix pc L st h
  | .invokespecial ix => fk_inv me (fun k => k == 4) (fun k => k == 6) ix pc L st h
  | .ireturn => fk_i1 st fun x r => fk_if (r = [] ∧ (me.2.2.2.2.1 = some .int ∨ (me.2.2.2.2.1 = some .boolean ∧ (x = 0 ∨ x = 1)) ∨ (me.2.2.2.2.1 = some .byte ∧ x = 0))) (some (.inr (.inl (some (.int x), h))))
  | .lreturn => fk_l1 st fun x r => fk_if (r = [] ∧ me.2.2.2.2.1 = some .long) (some (.inr (.inl (some (.long x), h))))
  | .return_ => fk_if (st = [] ∧ me.2.2.2.2.1 = none) (some (.inr (.inl (none, h))))
  | _ => none
/-- how long an instruction is, as the laws ask it (0: as it is) -/
def fk_len (i : Instr) : Nat := match i with
  | .bipush _ => 2
  | .sipush _ => 3
  | .ldc _ => 2
  | .ldc_w _ => 3
  | .ldc2_w _ => 3
  | .iload _ => 2
  | .aload _ => 2
  | .lload _ => 2
  | .istore _ => 2
  | .astore _ => 2
  | .lstore _ => 2
  | .iinc _ _ => 3
  | .goto _ => 3
  | .ifCond _ _ => 3
  | .if_icmp _ _ => 3
  | .getfield _ => 3
  | .getstatic _ => 3
  | .putfield _ => 3
  | .new _ => 3
  | .newarray _ => 2
  | .anewarray _ => 3
  | .invokevirtual _ => 3
  | .invokestatic _ => 3
  | .invokespecial _ => 3
  | .tableswitch _ _ _ _ => 0
  | .lookupswitch _ _ => 0
  | _ => 1
def fk_step (me : fk_Me) (pc : Nat) (L st : List Value) (h : fk_H) : Option fk_R := match decode me.2.2.1 pc with
  | .ok (i, len) => fk_if (fk_len i = 0 ∨ len = fk_len i) (fk_ins me i pc L st h)
  | _ => none
/-- the locals at a method's start -/
def fk_loc (me : fk_Me) (as : List Value) : List Value := as ++ List.replicate (me.2.2.2.1 - as.length) .null
/-- n instructions at most, calls at most d deep -/
def fk_run : Nat → Nat → fk_Me → Nat → List Value → List Value → fk_H → Option (Option Value × fk_H)
  | 0, _, _, _, _, _, _ => none
  | n + 1, d, me, pc, L, st, h => match fk_step me pc L st h with
    | some (.inl x) => fk_run n d me x.1 x.2.1 x.2.2.1 x.2.2.2
    | some (.inr (.inl o)) => some o
    | some (.inr (.inr q)) => match d with
      | 0 => none
      | d' + 1 => match fk_run n d' q.1 0 (fk_loc q.1 q.2.1) [] h with
        | some o => fk_run n (d' + 1) me q.2.2.1 L (o.1.toList ++ q.2.2.2) o.2
        | none => none
    | none => none
