/-! THE CONSTRUCTORS: the small machine over cells that are data -/
/-- how many cells, how many slots, kinds and lengths from cell 1 on, what was written (the newest first) -/
abbrev ds_D : Type := Nat × Nat × List (Nat × Nat) × List ((Nat × Nat) × Value)
abbrev ds_R : Type := (Nat × List Value × List Value × ds_D) ⊕ (Option Value × ds_D) ⊕ (fk_Me × List Value × Nat × List Value)
def ds_k (N : Nat) (D : ds_D) (c : Nat) : Nat × Nat := if c = 0 then (30, N) else D.2.2.1.getD (c - 1) (99, 0)
def ds_l (D : ds_D) (c i : Nat) : Option Value := (D.2.2.2.find? (fun w => w.1.1 == c && w.1.2 == i)).map Prod.snd
def ds_v (xs : Nat → Int32) (k i : Nat) : Value := if k < 13 then defaultValue (fk_ty k i) else if k = 23 then .long 0 else if k = 24 then .null else if k = 20 ∨ k = 21 ∨ k = 22 then .int 0 else .int (xs i)
def ds_H (N : Nat) (xs : Nat → Int32) (D : ds_D) : fk_H := (D.1, D.2.1, ds_k N D, fun c i => (ds_l D c i).getD (ds_v xs (ds_k N D c).1 i))
def ds_nx (pc : Nat) (L st : List Value) (D : ds_D) : Option ds_R := some (.inl (pc, L, st, D))
def ds_put (D : ds_D) (c i : Nat) (v : Value) : ds_D := (D.1, D.2.1, D.2.2.1, ((c, i), v) :: D.2.2.2)
def ds_new (D : ds_D) (k n : Nat) : ds_D := (D.1 + 1, D.2.1 + n, D.2.2.1 ++ [(k, n)], D.2.2.2)
abbrev ds_is (D : ds_D) (c k : Nat) : Prop := 0 < c ∧ c < D.1 ∧ (ds_k 0 D c).1 = k
def ds_call (kd : Nat) (q : fk_Me) (n : Nat) (pc : Nat) (st : List Value) (D : ds_D) : Option ds_R :=
  fk_if (n ≤ st.length ∧ (st.take n).all fk_arg = true) <|
  if kd = 2 then fk_if (2 * (st.drop n).length ≤ 8 ∧ n ≤ q.2.2.2.1) (some (.inr (.inr (q, (st.take n).reverse, pc + 3, st.drop n))))
  else if kd = 8 then none
  else fk_r1 (st.drop n) fun c r => fk_if (2 * r.length ≤ 8 ∧ n + 1 ≤ q.2.2.2.1 ∧ ds_is D c q.1) (some (.inr (.inr (q, .ref c :: (st.take n).reverse, pc + 3, r))))
def ds_ins (me : fk_Me) (i : Instr) (pc : Nat) (L st : List Value) (D : ds_D) : Option ds_R := match i with
  | .iconst n => ds_nx (pc + 1) L (.int (Int32.ofInt n) :: st) D
  | .bipush n => ds_nx (pc + 2) L (.int (Int8.ofInt n).toInt32 :: st) D
  | .sipush n => ds_nx (pc + 3) L (.int (Int16.ofInt n).toInt32 :: st) D
  | .iload_n k => fk_ldi L (k : Nat) fun x => ds_nx (pc + 1) L (.int x :: st) D
  | .aload_n k => fk_lda L (k : Nat) fun v => ds_nx (pc + 1) L (v :: st) D
  | .istore_n k => fk_i1 st fun x r => fk_sto me L (k : Nat) (.int x) fun L1 => ds_nx (pc + 1) L1 r D
  | .iinc k n => fk_ldi L k fun x => fk_sto me L k (.int (x + Int32.ofInt n)) fun L1 => ds_nx (pc + 3) L1 st D
  | .astore_n k => fk_r1 st fun x r => fk_sto me L (k : Nat) (.ref x) fun L1 => ds_nx (pc + 1) L1 r D
  | .dup => fk_v1 st fun v r => fk_if (fk_arg v = true) (ds_nx (pc + 1) L (v :: v :: r) D)
  | .goto off => fk_jp pc off fun t => ds_nx t L st D
  | .if_icmp cd off => fk_i2 st fun x y r => match cd with
    | .ge => fk_jp pc off fun t => if y ≤ x then ds_nx t L r D else ds_nx (pc + 3) L r D
    | _ => none
  | .getfield ix => fk_r1 st fun c r => fk_so (fk_fl me.1 ix) fun f => fk_if (ds_is D c f.1 ∧ f.1 < 13) (ds_nx (pc + 3) L ((ds_l D c f.2.1).getD (ds_v (fun _ => 0) f.1 f.2.1) :: r) D)
  | .putfield ix => fk_v1 st fun v r1 => fk_r1 r1 fun c r => fk_so (fk_fl me.1 ix) fun f => fk_if (ds_is D c f.1 ∧ fk_okv (fk_ty f.1 f.2.1) v = true ∧ f.2.2 ≠ 3 ∧ (f.2.2 = 2 → me.2.1.name = "<init>")) (ds_nx (pc + 3) L r (ds_put D c f.2.1 v))
  | .iastore => fk_i1 st fun x r1 => fk_ix r1 fun c i r => fk_if (ds_is D c 20 ∧ fk_in i (ds_k 0 D c).2) (ds_nx (pc + 1) L r (ds_put D c i.toNatClampNeg (.int x)))
  | .aastore => fk_r1 st fun v r1 => fk_ix r1 fun c i r => fk_if (ds_is D c 24 ∧ ds_is D v 0 ∧ fk_in i (ds_k 0 D c).2) (ds_nx (pc + 1) L r (ds_put D c i.toNatClampNeg (.ref v)))
  | .arraylength => fk_r1 st fun c r => fk_if (ds_is D c 20) (ds_nx (pc + 1) L (.int (Int32.ofNat (ds_k 0 D c).2) :: r) D)
  | .new ix => fk_so (fk_nw me.1 ix) fun ci => fk_if (ci < 13) (ds_nx (pc + 3) L (.ref D.1 :: st) (ds_new D ci (fk_nf ci)))
  | .newarray ty => fk_i1 st fun n r => fk_so (fk_kd ty) fun k => fk_if (¬ n < 0 ∧ n.toNatClampNeg ≤ 65536) (ds_nx (pc + 2) L (.ref D.1 :: r) (ds_new D k.1 n.toNatClampNeg))
  | .anewarray ix => fk_i1 st fun n r => fk_if (fk_nw me.1 ix = some 0 ∧ ¬ n < 0 ∧ n.toNatClampNeg ≤ 65536) (ds_nx (pc + 3) L (.ref D.1 :: r) (ds_new D 24 n.toNatClampNeg))
  | .invokestatic ix => fk_so (fk_ml me.1 ix) fun e => fk_if ((e.2.1 == 2) = true) (ds_call e.2.1 e.2.2.1 e.2.2.2 pc st D)
  | .invokespecial ix => match fk_ml me.1 ix with
    | some e => fk_if ((e.2.1 == 4) = true) (ds_call e.2.1 e.2.2.1 e.2.2.2 pc st D)
    | none => fk_so (fk_pl me.1 ix) fun k => fk_if (k = 6) (fk_r1 st fun _ r => fk_if (2 * r.length ≤ 8) (ds_nx (pc + 3) L r D))
  | .return_ => fk_if (st = [] ∧ me.2.2.2.2.1 = none) (some (.inr (.inl (none, D))))
  | _ => none
def ds_step (me : fk_Me) (pc : Nat) (L st : List Value) (D : ds_D) : Option ds_R := match decode me.2.2.1 pc with
  | .ok (i, len) => fk_if (fk_len i = 0 ∨ len = fk_len i) (ds_ins me i pc L st D)
  | _ => none
def ds_run : Nat → Nat → fk_Me → Nat → List Value → List Value → ds_D → Option (Option Value × ds_D)
  | 0, _, _, _, _, _, _ => none
  | n + 1, d, me, pc, L, st, D => match ds_step me pc L st D with
    | some (.inl x) => ds_run n d me x.1 x.2.1 x.2.2.1 x.2.2.2
    | some (.inr (.inl o)) => some o
    | some (.inr (.inr q)) => match d with
      | 0 => none
      | d' + 1 => match ds_run n d' q.1 0 (fk_loc q.1 q.2.1) [] D with
        | some o => ds_run n (d' + 1) me q.2.2.1 L (o.1.toList ++ q.2.2.2) o.2
        | none => none
    | none => none
/-- until a place of the method itself -/
def ds_upto (stop : Nat) : Nat → Nat → fk_Me → Nat → List Value → List Value → ds_D → Option (List Value × List Value × ds_D)
  | 0, _, _, _, _, _, _ => none
  | n + 1, d, me, pc, L, st, D => if pc = stop then some (L, st, D) else match ds_step me pc L st D with
    | some (.inl x) => ds_upto stop n d me x.1 x.2.1 x.2.2.1 x.2.2.2
    | some (.inr (.inl _)) => none
    | some (.inr (.inr q)) => match d with
      | 0 => none
      | d' + 1 => match ds_run n d' q.1 0 (fk_loc q.1 q.2.1) [] D with
        | some o => ds_upto stop n (d' + 1) me q.2.2.1 L (o.1.toList ++ q.2.2.2) o.2
        | none => none
    | none => none
section DS0
variable {N : Nat} {xs : Nat → Int32} {D : ds_D} {me : fk_Me} {pc : Nat} {L st : List Value}
def ds_wf (D : ds_D) : Prop := D.2.2.1.length + 1 = D.1 ∧ ∀ w ∈ D.2.2.2, w.1.1 < D.1
def ds_W (r : ds_R) : Prop := match r with
  | .inl x => ds_wf x.2.2.2
  | .inr (.inl o) => ds_wf o.2
  | .inr (.inr _) => True
def ds_f (N : Nat) (xs : Nat → Int32) (r : ds_R) : fk_R := match r with
  | .inl x => .inl (x.1, x.2.1, x.2.2.1, ds_H N xs x.2.2.2)
  | .inr (.inl o) => .inr (.inl (o.1, ds_H N xs o.2))
  | .inr (.inr q) => .inr (.inr q)
def ds_Q (N : Nat) (xs : Nat → Int32) (o : Option ds_R) (o' : Option fk_R) : Prop := ∀ r, o = some r → o' = some (ds_f N xs r) ∧ ds_W r
theorem ds_Q_nx (h : ds_wf D) : ds_Q N xs (ds_nx pc L st D) (fk_nx pc L st (ds_H N xs D)) := fun r e => by
  cases e
  exact ⟨rfl, h⟩
theorem ds_Q_i1 {k : Int32 → List Value → Option ds_R} {k' : Int32 → List Value → Option fk_R} (h : ∀ x r, ds_Q N xs (k x r) (k' x r)) : ds_Q N xs (fk_i1 st k) (fk_i1 st k') := fun r e => by
  obtain ⟨x, t, rfl, e2⟩ := fk_i1_s e
  exact h x t r e2
theorem ds_Q_i2 {k : Int32 → Int32 → List Value → Option ds_R} {k' : Int32 → Int32 → List Value → Option fk_R} (h : ∀ x y r, ds_Q N xs (k x y r) (k' x y r)) : ds_Q N xs (fk_i2 st k) (fk_i2 st k') := fun r e => by
  obtain ⟨x, y, t, rfl, e2⟩ := fk_i2_s e
  exact h x y t r e2
theorem ds_Q_v1 {k : Value → List Value → Option ds_R} {k' : Value → List Value → Option fk_R} (h : ∀ x r, ds_Q N xs (k x r) (k' x r)) : ds_Q N xs (fk_v1 st k) (fk_v1 st k') := fun r e => by
  obtain ⟨x, t, rfl, e2⟩ := fk_v1_s e
  exact h x t r e2
theorem ds_Q_r1 {k : Nat → List Value → Option ds_R} {k' : Nat → List Value → Option fk_R} (h : ∀ x r, ds_Q N xs (k x r) (k' x r)) : ds_Q N xs (fk_r1 st k) (fk_r1 st k') := fun r e => by
  obtain ⟨x, t, rfl, e2⟩ := fk_r1_s e
  exact h x t r e2
theorem ds_Q_ra {k : Nat → List Value → Option ds_R} {k' k2 : Nat → List Value → Option fk_R} (h : ∀ x r, ds_Q N xs (k x r) (k' x r)) : ds_Q N xs (fk_r1 st k) (fk_ra st k' k2) := fun r e => by
  obtain ⟨x, t, rfl, e2⟩ := fk_r1_s e
  exact h x t r e2
theorem ds_Q_ix {k : Nat → Int32 → List Value → Option ds_R} {k' : Nat → Int32 → List Value → Option fk_R} (h : ∀ c i r, ds_Q N xs (k c i r) (k' c i r)) : ds_Q N xs (fk_ix st k) (fk_ix st k') := fun r e => by
  obtain ⟨c, i, t, rfl, e2⟩ := fk_ix_s e
  exact h c i t r e2
theorem ds_Q_ldi {i : Nat} {k : Int32 → Option ds_R} {k' : Int32 → Option fk_R} (h : ∀ x, ds_Q N xs (k x) (k' x)) : ds_Q N xs (fk_ldi L i k) (fk_ldi L i k') := fun r e => by
  obtain ⟨x, e1, e2⟩ := fk_ldi_s e
  have := h x r e2
  unfold fk_ldi
  rw [e1]
  exact this
theorem ds_Q_lda {i : Nat} {k : Value → Option ds_R} {k' : Value → Option fk_R} (h : ∀ x, ds_Q N xs (k x) (k' x)) : ds_Q N xs (fk_lda L i k) (fk_lda L i k') := fun r e => by
  rcases fk_lda_s e with ⟨x, e1, e2⟩ | ⟨x, e1, e2⟩
  · have := h _ r e2
    unfold fk_lda
    rw [e1]
    exact this
  · have := h _ r e2
    unfold fk_lda
    rw [e1]
    exact this
theorem ds_Q_so {β : Type} {o : Option β} {k : β → Option ds_R} {k' : β → Option fk_R} (h : ∀ x, ds_Q N xs (k x) (k' x)) : ds_Q N xs (fk_so o k) (fk_so o k') := fun r e => by
  obtain ⟨x, e1, e2⟩ := fk_so_s e
  rw [e1]
  exact h x r e2
theorem ds_Q_if {p p' : Prop} [Decidable p] [Decidable p'] {k : Option ds_R} {k' : Option fk_R} (hp : p → p') (h : p → ds_Q N xs k k') : ds_Q N xs (fk_if p k) (fk_if p' k') := fun r e => by
  obtain ⟨e1, e2⟩ := fk_if_s e
  unfold fk_if
  rw [if_pos (hp e1)]
  exact h e1 r e2
theorem ds_Q_ifx {p : Prop} [Decidable p] {k : Option ds_R} {k' : Option fk_R} (h : p → ds_Q N xs k k') : ds_Q N xs (fk_if p k) k' := fun r e => by
  obtain ⟨e1, e2⟩ := fk_if_s e
  exact h e1 r e2
theorem ds_Q_jp {off : Int} {k : Nat → Option ds_R} {k' : Nat → Option fk_R} (h : ∀ t, ds_Q N xs (k t) (k' t)) : ds_Q N xs (fk_jp pc off k) (fk_jp pc off k') := fun r e => by
  obtain ⟨t, e1, e2⟩ := fk_jp_s e
  have := h t r e2
  unfold fk_jp
  rw [if_pos (by rw [e1]; exact Int.natCast_nonneg t), e1]
  exact this
theorem ds_Q_sto {i : Nat} {v : Value} {k : List Value → Option ds_R} {k' : List Value → Option fk_R} (h : ∀ L1, ds_Q N xs (k L1) (k' L1)) : ds_Q N xs (fk_sto me L i v k) (fk_sto me L i v k') := ds_Q_if (fun p => p) fun _ => h _
theorem ds_k_0 {c : Nat} (h : 0 < c) : ds_k N D c = ds_k 0 D c := by
  unfold ds_k
  rw [if_neg (by omega), if_neg (by omega)]
theorem ds_is_f {c k : Nat} (h : ds_is D c k) : fk_is (ds_H N xs D) c k := ⟨h.1, h.2.1, by show (ds_k N D c).1 = k; rw [ds_k_0 h.1]; exact h.2.2⟩
theorem ds_wf_put {c i : Nat} {v : Value} (h : ds_wf D) (hc : c < D.1) : ds_wf (ds_put D c i v) := ⟨h.1, fun w hw => (List.mem_cons.mp hw).elim (fun e => by rw [e]; exact hc) (h.2 w)⟩
theorem ds_wf_new {k n : Nat} (h : ds_wf D) : ds_wf (ds_new D k n) := ⟨by show (D.2.2.1 ++ [(k, n)]).length + 1 = D.1 + 1; rw [List.length_append, ← h.1]; rfl, fun w hw => Nat.lt_succ_of_lt (h.2 w hw)⟩
theorem ds_l_put {c i : Nat} {v : Value} (c' i' : Nat) : ds_l (ds_put D c i v) c' i' = if c' = c ∧ i' = i then some v else ds_l D c' i' := by
  unfold ds_l ds_put
  dsimp only
  rw [List.find?_cons]
  by_cases e : c' = c ∧ i' = i
  · rw [if_pos e, e.1, e.2]
    simp
  · rw [if_neg e]
    have : ((c == c') && (i == i')) = false := by
      rw [Bool.and_eq_false_iff]
      by_cases e1 : c = c'
      · exact Or.inr (beq_false_of_ne fun z => e ⟨e1.symm, z.symm⟩)
      · exact Or.inl (beq_false_of_ne e1)
    rw [this]
theorem ds_H_put {c i : Nat} {v : Value} : fk_put (ds_H N xs D) c i v = ds_H N xs (ds_put D c i v) := by
  unfold fk_put ds_H
  have e : va_up (fun c i => (ds_l D c i).getD (ds_v xs (ds_k N D c).1 i)) c (va_up ((fun c i => (ds_l D c i).getD (ds_v xs (ds_k N D c).1 i)) c) i v) = fun c' i' => (ds_l (ds_put D c i v) c' i').getD (ds_v xs (ds_k N (ds_put D c i v) c').1 i') := by
    funext c' i'
    rw [ds_l_put]
    show (if c' = c then va_up ((fun c i => (ds_l D c i).getD (ds_v xs (ds_k N D c).1 i)) c) i v else (fun c i => (ds_l D c i).getD (ds_v xs (ds_k N D c).1 i)) c') i' = _
    by_cases e1 : c' = c
    · rw [if_pos e1]
      show (if i' = i then v else (ds_l D c i').getD (ds_v xs (ds_k N D c).1 i')) = _
      by_cases e2 : i' = i
      · rw [if_pos e2, if_pos ⟨e1, e2⟩]
        rfl
      · rw [if_neg e2, if_neg (fun z => e2 z.2), e1]
        rfl
    · rw [if_neg e1, if_neg (fun z => e1 z.1)]
      rfl
  dsimp only at e ⊢
  rw [e]
  rfl
theorem ds_l_no {c i : Nat} (h : ∀ w ∈ D.2.2.2, w.1.1 ≠ c) : ds_l D c i = none := by
  unfold ds_l
  rw [List.find?_eq_none.mpr]
  · rfl
  · intro w hw
    rw [Bool.and_eq_true, beq_iff_eq]
    exact fun z => h w hw z.1
theorem ds_k_new {k n c : Nat} (h : ds_wf D) : ds_k N (ds_new D k n) c = if c = D.1 then (k, n) else ds_k N D c := by
  unfold ds_k ds_new
  dsimp only
  have hl := h.1
  by_cases c0 : c = 0
  · rw [if_pos c0, if_pos c0, if_neg (by omega)]
  · rw [if_neg c0, if_neg c0, List.getD_eq_getElem?_getD, List.getD_eq_getElem?_getD]
    by_cases e : c = D.1
    · rw [if_pos e, List.getElem?_append_right (by omega), show c - 1 - D.2.2.1.length = 0 by omega]
      rfl
    · rw [if_neg e]
      by_cases e2 : c - 1 < D.2.2.1.length
      · rw [List.getElem?_append_left e2]
      · rw [List.getElem?_append_right (by omega), List.getElem?_eq_none (by show [(k, n)].length ≤ _; show 1 ≤ _; omega), List.getElem?_eq_none (by omega)]
theorem ds_H_new {k n : Nat} {f : Nat → Value} (h : ds_wf D) (hf : ∀ i, f i = ds_v xs k i) : fk_new (ds_H N xs D) k n f = ds_H N xs (ds_new D k n) := by
  unfold fk_new ds_H
  have e1 : va_up (ds_k N D) D.1 (k, n) = ds_k N (ds_new D k n) := by
    funext c
    rw [ds_k_new h]
    rfl
  have e2 : va_up (fun c i => (ds_l D c i).getD (ds_v xs (ds_k N D c).1 i)) D.1 f = fun c i => (ds_l (ds_new D k n) c i).getD (ds_v xs (ds_k N (ds_new D k n) c).1 i) := by
    funext c i
    show (if c = D.1 then f else fun i => (ds_l D c i).getD (ds_v xs (ds_k N D c).1 i)) i = (ds_l D c i).getD (ds_v xs (ds_k N (ds_new D k n) c).1 i)
    rw [ds_k_new h]
    by_cases e : c = D.1
    · rw [if_pos e, if_pos e, ds_l_no (fun w hw z => by have := h.2 w hw; omega), hf i]
      rfl
    · rw [if_neg e, if_neg e]
  dsimp only
  rw [e1, e2]
  rfl
theorem ds_kd_v {ty : ArrayType} {k : Nat × Value} (h : fk_kd ty = some k) (i : Nat) : k.2 = ds_v xs k.1 i := by
  cases ty <;> first | (cases h; rfl) | (exact nomatch (show (none : Option (Nat × Value)) = some k from h))
theorem ds_so_c {β : Type} {o : Option β} {k : β → Option ds_R} {k' : β → Option fk_R} (h : ∀ x, o = some x → ds_Q N xs (k x) (k' x)) : ds_Q N xs (fk_so o k) (fk_so o k') := fun r e => by
  obtain ⟨x, e1, e2⟩ := fk_so_s e
  have := h x e1 r e2
  rw [e1]
  exact this
theorem ds_Q_call {kd n : Nat} {q : fk_Me} : ds_Q N xs (ds_call kd q n pc st D) (fk_call kd q n pc st (ds_H N xs D)) := by
  unfold ds_call fk_call
  refine ds_Q_if (fun p => p) fun _ => ?_
  by_cases k2 : kd = 2
  · rw [if_pos k2, if_pos k2]
    exact ds_Q_if (fun p => p) fun _ r e => by cases e; exact ⟨rfl, trivial⟩
  · rw [if_neg k2, if_neg k2]
    by_cases k8 : kd = 8
    · rw [if_pos k8]
      exact fun r e => by cases e
    · rw [if_neg k8, if_neg k8]
      exact ds_Q_r1 fun c r => ds_Q_if (fun p => ⟨p.1, p.2.1, ds_is_f p.2.2⟩) fun _ r e => by cases e; exact ⟨rfl, trivial⟩
theorem ds_v_13 {k i : Nat} (h : k < 13) : ds_v xs k i = ds_v (fun _ => 0) k i := by
  unfold ds_v
  rw [if_pos h, if_pos h]
theorem ds_ins_ok (h : ds_wf D) (i : Instr) : ds_Q N xs (ds_ins me i pc L st D) (fk_ins me i pc L st (ds_H N xs D)) := by
  cases i
  case iconst n => exact ds_Q_nx h
  case bipush n => exact ds_Q_nx h
  case sipush n => exact ds_Q_nx h
  case iload_n k => exact ds_Q_ldi fun x => ds_Q_nx h
  case aload_n k => exact ds_Q_lda (k := fun v => ds_nx (pc + 1) L (v :: st) D) (k' := fun v => fk_nx (pc + 1) L (v :: st) (ds_H N xs D)) fun x => ds_Q_nx h
  case istore_n k => exact ds_Q_i1 fun x r => ds_Q_sto fun L1 => ds_Q_nx h
  case astore_n k => exact ds_Q_r1 fun x r => ds_Q_sto fun L1 => ds_Q_nx h
  case iinc k n => exact ds_Q_ldi fun x => ds_Q_sto fun L1 => ds_Q_nx h
  case dup => exact ds_Q_v1 fun v r => ds_Q_if (fun p => p) fun _ => ds_Q_nx h
  case goto off => exact ds_Q_jp fun t => ds_Q_nx h
  case if_icmp cd off =>
    refine ds_Q_i2 fun x y r => ?_
    cases cd
    case ge =>
      show ds_Q N xs (fk_jp pc off fun t => if y ≤ x then ds_nx t L r D else ds_nx (pc + 3) L r D) (fk_jp pc off fun t => if y ≤ x then fk_nx t L r (ds_H N xs D) else fk_nx (pc + 3) L r (ds_H N xs D))
      refine ds_Q_jp fun t => ?_
      by_cases c : y ≤ x
      · rw [if_pos c, if_pos c]; exact ds_Q_nx h
      · rw [if_neg c, if_neg c]; exact ds_Q_nx h
    all_goals exact fun r e => nomatch (show (none : Option ds_R) = some r from e)
  case getfield ix =>
    refine ds_Q_ra fun c r => ds_Q_so fun f => ds_Q_if (fun p => ds_is_f p.1) fun p => ?_
    have e : (ds_H N xs D).2.2.2 c f.2.1 = (ds_l D c f.2.1).getD (ds_v (fun _ => 0) f.1 f.2.1) := by
      show (ds_l D c f.2.1).getD (ds_v xs (ds_k N D c).1 f.2.1) = _
      rw [ds_k_0 p.1.1, p.1.2.2, ds_v_13 p.2]
    rw [e]
    exact ds_Q_nx h
  case putfield ix =>
    refine ds_Q_v1 fun v r1 => ds_Q_r1 fun c r => ds_Q_so fun f => ds_Q_if (fun p => ⟨ds_is_f p.1, p.2⟩) fun p => ?_
    rw [ds_H_put]
    exact ds_Q_nx (ds_wf_put h p.1.2.1)
  case iastore =>
    refine ds_Q_i1 fun x r1 => ds_Q_ix fun c i r => ds_Q_if (fun p => ⟨ds_is_f p.1, by show fk_in i (ds_k N D c).2; rw [ds_k_0 p.1.1]; exact p.2⟩) fun p => ?_
    rw [ds_H_put]
    exact ds_Q_nx (ds_wf_put h p.1.2.1)
  case aastore =>
    refine ds_Q_r1 fun v r1 => ds_Q_ix fun c i r => ds_Q_if (fun p => ⟨ds_is_f p.1, ds_is_f p.2.1, by show fk_in i (ds_k N D c).2; rw [ds_k_0 p.1.1]; exact p.2.2⟩) fun p => ?_
    rw [ds_H_put]
    exact ds_Q_nx (ds_wf_put h p.1.2.1)
  case arraylength =>
    refine ds_Q_ra fun c r => ds_Q_if (fun p => Or.inl (ds_is_f p)) fun p => ?_
    show ds_Q N xs _ (fk_nx (pc + 1) L (.int (Int32.ofNat (ds_k N D c).2) :: r) (ds_H N xs D))
    rw [ds_k_0 (N := N) p.1]
    exact ds_Q_nx h
  case new ix =>
    refine ds_Q_so fun ci => ds_Q_ifx fun p => ?_
    rw [ds_H_new h (fun i => by unfold ds_v; rw [if_pos p])]
    exact ds_Q_nx (ds_wf_new h)
  case newarray ty =>
    refine ds_Q_i1 fun n r => ds_so_c fun k hk => ds_Q_if (fun p => p) fun p => ?_
    rw [ds_H_new h (fun i => ds_kd_v hk i)]
    exact ds_Q_nx (ds_wf_new h)
  case anewarray ix =>
    refine ds_Q_i1 fun n r => ds_Q_if (fun p => p) fun p => ?_
    rw [ds_H_new (k := 24) (f := fun _ => Value.null) h (fun i => rfl)]
    exact ds_Q_nx (ds_wf_new h)
  case invokestatic ix =>
    intro r e
    obtain ⟨q, e1, e2⟩ := fk_so_s (show fk_so (fk_ml me.1 ix) _ = some r from e)
    have := (ds_Q_if (N := N) (xs := xs) (p := (q.2.1 == 2) = true) (p' := ((fun k => k == 2) q.2.1) = true) (fun p => p) (fun _ => ds_Q_call)) r e2
    show fk_inv me (fun k => k == 2) (fun k => k == 7 || k == 8 || k == 9) ix pc L st (ds_H N xs D) = _ ∧ _
    unfold fk_inv
    rw [e1]
    exact this
  case invokespecial ix =>
    intro r e
    show fk_inv me (fun k => k == 4) (fun k => k == 6) ix pc L st (ds_H N xs D) = _ ∧ _
    unfold fk_inv
    have e : (match fk_ml me.1 ix with
      | some e => fk_if ((e.2.1 == 4) = true) (ds_call e.2.1 e.2.2.1 e.2.2.2 pc st D)
      | none => fk_so (fk_pl me.1 ix) fun k => fk_if (k = 6) (fk_r1 st fun _ r => fk_if (2 * r.length ≤ 8) (ds_nx (pc + 3) L r D))) = some r := e
    cases em : fk_ml me.1 ix with
    | some q =>
      rw [em] at e
      exact (ds_Q_if (N := N) (xs := xs) (p := (q.2.1 == 4) = true) (p' := ((fun k => k == 4) q.2.1) = true) (fun p => p) (fun _ => ds_Q_call)) r e
    | none =>
      rw [em] at e
      obtain ⟨k, e1, e2⟩ := fk_so_s e
      obtain ⟨rfl, e3⟩ := fk_if_s e2
      dsimp only
      rw [fk_so_of e1, fk_if_of (show ((6 : Nat) == 6) = true from rfl)]
      unfold fk_prim
      rw [if_pos rfl]
      exact (ds_Q_r1 (N := N) (xs := xs) fun c t => ds_Q_if (fun p => p) fun _ => ds_Q_nx h) r e3
  case return_ => exact ds_Q_if (fun p => p) fun _ r e => by cases e; exact ⟨rfl, h⟩
  all_goals exact fun r e => nomatch (show (none : Option ds_R) = some r from e)
theorem ds_step_ok (h : ds_wf D) : ds_Q N xs (ds_step me pc L st D) (fk_step me pc L st (ds_H N xs D)) := by
  unfold ds_step fk_step
  cases e : decode me.2.2.1 pc with
  | error z => exact fun r h => nomatch (show (none : Option ds_R) = some r from h)
  | ok v =>
    obtain ⟨i, len⟩ := v
    exact ds_Q_if (p := fk_len i = 0 ∨ len = fk_len i) (p' := fk_len i = 0 ∨ len = fk_len i) (fun p => p) fun _ => ds_ins_ok h i
theorem ds_run_ok : ∀ n d (me : fk_Me) pc L st (D : ds_D) o, ds_wf D → ds_run n d me pc L st D = some o → fk_run n d me pc L st (ds_H N xs D) = some (o.1, ds_H N xs o.2) ∧ ds_wf o.2 := by
  intro n
  induction n with
  | zero => intro d me pc L st D o _ e; cases e
  | succ n ih =>
    intro d me pc L st D o hw e
    unfold ds_run at e
    unfold fk_run
    have hs := ds_step_ok (N := N) (xs := xs) (me := me) (pc := pc) (L := L) (st := st) hw
    cases es : ds_step me pc L st D with
    | none => rw [es] at e; cases e
    | some r =>
      obtain ⟨h1, h2⟩ := hs r es
      rw [es] at e
      rw [h1]
      match r, e, h2 with
      | .inl x, e, h2 => exact ih _ _ _ _ _ _ _ h2 e
      | .inr (.inl p), e, h2 =>
        cases e
        exact ⟨rfl, h2⟩
      | .inr (.inr q), e, _ =>
        cases d with
        | zero => cases e
        | succ d =>
          have e : (match ds_run n d q.1 0 (fk_loc q.1 q.2.1) [] D with
            | some o => ds_run n (d + 1) me q.2.2.1 L (o.1.toList ++ q.2.2.2) o.2
            | none => none) = some o := e
          show (match fk_run n d q.1 0 (fk_loc q.1 q.2.1) [] (ds_H N xs D) with
            | some o => fk_run n (d + 1) me q.2.2.1 L (o.1.toList ++ q.2.2.2) o.2
            | none => none) = _ ∧ _
          cases e1 : ds_run n d q.1 0 (fk_loc q.1 q.2.1) [] D with
          | none => rw [e1] at e; cases e
          | some p =>
            rw [e1] at e
            obtain ⟨g1, g2⟩ := ih _ _ _ _ _ _ _ hw e1
            rw [g1]
            exact ih _ _ _ _ _ _ _ g2 e
theorem ds_upto_ok {stop : Nat} : ∀ n d (me : fk_Me) pc L st (D : ds_D) o, ds_wf D → ds_upto stop n d me pc L st D = some o → fk_ev d me pc L st (ds_H N xs D) = fk_ev d me stop o.1 o.2.1 (ds_H N xs o.2.2) ∧ ds_wf o.2.2 := by
  intro n
  induction n with
  | zero => intro d me pc L st D o _ e; cases e
  | succ n ih =>
    intro d me pc L st D o hw e
    unfold ds_upto at e
    by_cases c : pc = stop
    · rw [if_pos c] at e
      cases e
      exact ⟨by rw [c], hw⟩
    · rw [if_neg c] at e
      have hs := ds_step_ok (N := N) (xs := xs) (me := me) (pc := pc) (L := L) (st := st) hw
      cases es : ds_step me pc L st D with
      | none => rw [es] at e; cases e
      | some r =>
        obtain ⟨h1, h2⟩ := hs r es
        rw [es] at e
        match r, e, h1, h2 with
        | .inl x, e, h1, h2 =>
          rw [fk_ev_next h1]
          exact ih _ _ _ _ _ _ _ h2 e
        | .inr (.inl p), e, _, _ => cases e
        | .inr (.inr q), e, h1, _ =>
          cases d with
          | zero => cases e
          | succ d =>
            have e : (match ds_run n d q.1 0 (fk_loc q.1 q.2.1) [] D with
              | some o => ds_upto stop n (d + 1) me q.2.2.1 L (o.1.toList ++ q.2.2.2) o.2
              | none => none) = some o := e
            cases e1 : ds_run n d q.1 0 (fk_loc q.1 q.2.1) [] D with
            | none => rw [e1] at e; cases e
            | some p =>
              rw [e1] at e
              obtain ⟨g1, g2⟩ := ds_run_ok (N := N) (xs := xs) _ _ _ _ _ _ _ _ hw e1
              rw [fk_ev_call h1, fk_ev_iff.mpr ⟨_, g1⟩]
              exact ih _ _ _ _ _ _ _ g2 e
end DS0
