section FKM
/-- cells and slots grow only -/
def fk_mo (h : fk_H) (o : Option fk_R) : Prop := ∀ x, o = some x → match x with
  | .inl y => h.1 ≤ y.2.2.2.1 ∧ h.2.1 ≤ y.2.2.2.2.1
  | .inr (.inl y) => y.2 = h
  | .inr (.inr _) => True
variable {h : fk_H}
theorem fk_mo_nx {h' : fk_H} {pc : Nat} {L st : List Value} (a : h.1 ≤ h'.1) (b : h.2.1 ≤ h'.2.1) : fk_mo h (fk_nx pc L st h') := fun x hx => by
  cases Option.some.inj hx
  exact ⟨a, b⟩
theorem fk_mo_none : fk_mo h none := fun x hx => by cases hx
theorem fk_mo_end {r : Option Value} : fk_mo h (some (.inr (.inl (r, h)))) := fun x hx => by
  cases hx
  exact rfl
theorem fk_mo_call {q : fk_Me × List Value × Nat × List Value} : fk_mo h (some (.inr (.inr q))) := fun x hx => by
  cases hx
  exact trivial
theorem fk_mo_i1 {st : List Value} {k : Int32 → List Value → Option fk_R} (kk : ∀ x r, fk_mo h (k x r)) : fk_mo h (fk_i1 st k) := fun x hx => by
  obtain ⟨_, _, -, e⟩ := fk_i1_s hx
  exact kk _ _ x e
theorem fk_mo_i2 {st : List Value} {k : Int32 → Int32 → List Value → Option fk_R} (kk : ∀ x y r, fk_mo h (k x y r)) : fk_mo h (fk_i2 st k) := fun x hx => by
  obtain ⟨_, _, _, -, e⟩ := fk_i2_s hx
  exact kk _ _ _ x e
theorem fk_mo_l1 {st : List Value} {k : Int64 → List Value → Option fk_R} (kk : ∀ x r, fk_mo h (k x r)) : fk_mo h (fk_l1 st k) := fun x hx => by
  obtain ⟨_, _, -, e⟩ := fk_l1_s hx
  exact kk _ _ x e
theorem fk_mo_l2 {st : List Value} {k : Int64 → Int64 → List Value → Option fk_R} (kk : ∀ x y r, fk_mo h (k x y r)) : fk_mo h (fk_l2 st k) := fun x hx => by
  obtain ⟨_, _, _, -, e⟩ := fk_l2_s hx
  exact kk _ _ _ x e
theorem fk_mo_r1 {st : List Value} {k : Nat → List Value → Option fk_R} (kk : ∀ x r, fk_mo h (k x r)) : fk_mo h (fk_r1 st k) := fun x hx => by
  obtain ⟨_, _, -, e⟩ := fk_r1_s hx
  exact kk _ _ x e
theorem fk_mo_v1 {st : List Value} {k : Value → List Value → Option fk_R} (kk : ∀ x r, fk_mo h (k x r)) : fk_mo h (fk_v1 st k) := fun x hx => by
  obtain ⟨_, _, -, e⟩ := fk_v1_s hx
  exact kk _ _ x e
theorem fk_mo_ix {st : List Value} {k : Nat → Int32 → List Value → Option fk_R} (kk : ∀ x y r, fk_mo h (k x y r)) : fk_mo h (fk_ix st k) := fun x hx => by
  obtain ⟨_, _, _, -, e⟩ := fk_ix_s hx
  exact kk _ _ _ x e
theorem fk_mo_ldi {L : List Value} {i : Nat} {k : Int32 → Option fk_R} (kk : ∀ x, fk_mo h (k x)) : fk_mo h (fk_ldi L i k) := fun x hx => by
  obtain ⟨_, -, e⟩ := fk_ldi_s hx
  exact kk _ x e
theorem fk_mo_ldr {L : List Value} {i : Nat} {k : Nat → Option fk_R} (kk : ∀ x, fk_mo h (k x)) : fk_mo h (fk_ldr L i k) := fun x hx => by
  obtain ⟨_, -, e⟩ := fk_ldr_s hx
  exact kk _ x e
theorem fk_mo_ldl {L : List Value} {i : Nat} {k : Int64 → Option fk_R} (kk : ∀ x, fk_mo h (k x)) : fk_mo h (fk_ldl L i k) := fun x hx => by
  obtain ⟨_, -, e⟩ := fk_ldl_s hx
  exact kk _ x e
theorem fk_mo_lda {L : List Value} {i : Nat} {k : Value → Option fk_R} (kk : ∀ x, fk_mo h (k x)) : fk_mo h (fk_lda L i k) := fun x hx => by
  rcases fk_lda_s hx with ⟨_, -, e⟩ | ⟨_, -, e⟩
  · exact kk _ x e
  · exact kk _ x e
theorem fk_mo_ra {st : List Value} {k k2 : Nat → List Value → Option fk_R} (kk : ∀ x r, fk_mo h (k x r)) (kk2 : ∀ x r, fk_mo h (k2 x r)) : fk_mo h (fk_ra st k k2) := fun x hx => by
  rcases fk_ra_s hx with ⟨_, _, -, e⟩ | ⟨_, _, -, e⟩
  · exact kk _ _ x e
  · exact kk2 _ _ x e
theorem fk_mo_ixa {st : List Value} {k k2 : Nat → Int32 → List Value → Option fk_R} (kk : ∀ x y r, fk_mo h (k x y r)) (kk2 : ∀ x y r, fk_mo h (k2 x y r)) : fk_mo h (fk_ixa st k k2) := fun x hx => by
  rcases fk_ixa_s hx with ⟨_, _, _, -, e⟩ | ⟨_, _, _, -, e⟩
  · exact kk _ _ _ x e
  · exact kk2 _ _ _ x e
theorem fk_mo_if {p : Prop} [Decidable p] {k : Option fk_R} (kk : fk_mo h k) : fk_mo h (fk_if p k) := fun x hx => kk x (fk_if_s hx).2
theorem fk_mo_ite {p : Prop} [Decidable p] {k k' : Option fk_R} (kk : fk_mo h k) (kk' : fk_mo h k') : fk_mo h (if p then k else k') := by
  split
  · exact kk
  · exact kk'
theorem fk_mo_so {β : Type} {q : Option β} {k : β → Option fk_R} (kk : ∀ x, fk_mo h (k x)) : fk_mo h (fk_so q k) := fun x hx => by
  obtain ⟨_, -, e⟩ := fk_so_s hx
  exact kk _ x e
theorem fk_mo_jp {pc : Nat} {off : Int} {k : Nat → Option fk_R} (kk : ∀ x, fk_mo h (k x)) : fk_mo h (fk_jp pc off k) := fun x hx => by
  obtain ⟨_, -, e⟩ := fk_jp_s hx
  exact kk _ x e
theorem fk_mo_sto {me : fk_Me} {L : List Value} {i : Nat} {v : Value} {k : List Value → Option fk_R} (kk : ∀ x, fk_mo h (k x)) : fk_mo h (fk_sto me L i v k) := fk_mo_if (kk _)
theorem fk_mo_sto2 {me : fk_Me} {L : List Value} {i : Nat} {v : Value} {k : List Value → Option fk_R} (kk : ∀ x, fk_mo h (k x)) : fk_mo h (fk_sto2 me L i v k) := fk_mo_if (kk _)
theorem fk_mo_icmp {cd : ClassFile.Cond} {x y : Int32} {pc : Nat} {off : Int} {L st : List Value} : fk_mo h (fk_icmp cd x y pc off L st h) := by
  cases cd <;> exact fk_mo_jp fun _ => fk_mo_ite (fk_mo_nx (Nat.le_refl _) (Nat.le_refl _)) (fk_mo_nx (Nat.le_refl _) (Nat.le_refl _))
theorem fk_mo_cl {kd : Nat} {q : fk_Me} {n pc : Nat} {st : List Value} : fk_mo h (fk_call kd q n pc st h) := fk_mo_if (fk_mo_ite (fk_mo_if fk_mo_call) (fk_mo_ite (fk_mo_ra (fun _ _ => fk_mo_none) fun _ _ => fk_mo_if fk_mo_call) (fk_mo_r1 fun _ _ => fk_mo_if fk_mo_call)))
theorem fk_mo_prim {k pc : Nat} {L st : List Value} : fk_mo h (fk_prim k pc L st h) := fk_mo_ite (fk_mo_r1 fun _ _ => fk_mo_if (fk_mo_nx (Nat.le_refl _) (Nat.le_refl _))) (fk_mo_ite (fk_mo_i2 fun _ _ _ => fk_mo_if (fk_mo_nx (Nat.le_refl _) (Nat.le_refl _))) (fk_mo_ite (fk_mo_i2 fun _ _ _ => fk_mo_if (fk_mo_nx (Nat.le_refl _) (Nat.le_refl _))) (fk_mo_ite (fk_mo_i2 fun _ _ _ => fk_mo_r1 fun _ _ => fk_mo_ix fun _ _ _ => fk_mo_if (fk_mo_nx (Nat.le_refl _) (Nat.le_refl _))) fk_mo_none)))
theorem fk_mo_inv {me : fk_Me} {ok pr : Nat → Bool} {ix pc : Nat} {L st : List Value} : fk_mo h (fk_inv me ok pr ix pc L st h) := by
  unfold fk_inv
  split
  · exact fk_mo_if fk_mo_cl
  · exact fk_mo_so fun _ => fk_mo_if fk_mo_prim
theorem fk_mo_ldc {me : fk_Me} {ix pc : Nat} {L st : List Value} : fk_mo h (fk_ins me (.ldc ix) pc L st h) := by
  show fk_mo h (match fk_ct me.1 ix with
    | some v => fk_nx (pc + 2) L (.int v :: st) h
    | none => fk_so (fk_sx me.1 ix) fun i => fk_nx (pc + 2) L (.retAddr (2 * i) :: st) h)
  split
  · exact fk_mo_nx (Nat.le_refl _) (Nat.le_refl _)
  · exact fk_mo_so fun _ => fk_mo_nx (Nat.le_refl _) (Nat.le_refl _)
theorem fk_mo_ins (me : fk_Me) (i : Instr) (pc : Nat) (L st : List Value) : fk_mo h (fk_ins me i pc L st h) := by
  cases i <;> first
    | exact fk_mo_none
    | exact fk_mo_ldc
    | exact fk_mo_lda (k := fun v => fk_nx (pc + 2) L (v :: st) h) fun _ => fk_mo_nx (Nat.le_refl _) (Nat.le_refl _)
    | exact fk_mo_lda (k := fun v => fk_nx (pc + 1) L (v :: st) h) fun _ => fk_mo_nx (Nat.le_refl _) (Nat.le_refl _)
    | exact fk_mo_inv (ok := fun k => k == 0 || k == 8) (pr := fun _ => false)
    | exact fk_mo_inv (ok := fun k => k == 2) (pr := fun k => k == 7 || k == 8 || k == 9)
    | exact fk_mo_inv (ok := fun k => k == 4) (pr := fun k => k == 6)
    | (repeat (first
        | exact fk_mo_none
        | exact fk_mo_end
        | exact fk_mo_icmp
        | exact fk_mo_nx (Nat.le_refl _) (Nat.le_refl _)
        | exact fk_mo_nx (Nat.le_succ _) (Nat.le_add_right _ _)
        | (refine fk_mo_i1 fun _ _ => ?_)
        | (refine fk_mo_i2 fun _ _ _ => ?_)
        | (refine fk_mo_l1 fun _ _ => ?_)
        | (refine fk_mo_l2 fun _ _ _ => ?_)
        | (refine fk_mo_r1 fun _ _ => ?_)
        | (refine fk_mo_v1 fun _ _ => ?_)
        | (refine fk_mo_ix fun _ _ _ => ?_)
        | (refine fk_mo_lda fun _ => ?_)
        | (refine fk_mo_ra (fun _ _ => ?_) fun _ _ => ?_)
        | (refine fk_mo_ixa (fun _ _ _ => ?_) fun _ _ _ => ?_)
        | (refine fk_mo_ldi fun _ => ?_)
        | (refine fk_mo_ldr fun _ => ?_)
        | (refine fk_mo_ldl fun _ => ?_)
        | (refine fk_mo_sto fun _ => ?_)
        | (refine fk_mo_sto2 fun _ => ?_)
        | (refine fk_mo_jp fun _ => ?_)
        | (refine fk_mo_so fun _ => ?_)
        | (refine fk_mo_if ?_)
        | (refine fk_mo_ite ?_ ?_)))
theorem fk_step_s {me : fk_Me} {pc : Nat} {L st : List Value} {o : fk_R} (hs : fk_step me pc L st h = some o) : ∃ i len, decode me.2.2.1 pc = .ok (i, len) ∧ (fk_len i = 0 ∨ len = fk_len i) ∧ fk_ins me i pc L st h = some o := by
  unfold fk_step at hs
  split at hs
  next i len hd =>
    obtain ⟨h1, h2⟩ := fk_if_s hs
    exact ⟨i, len, hd, h1, h2⟩
  next => cases hs
end FKM
theorem fk_mono : ∀ (n d : Nat) (me : fk_Me) (pc : Nat) (L st : List Value) (h : fk_H) (o : Option Value × fk_H), fk_run n d me pc L st h = some o → h.1 ≤ o.2.1 ∧ h.2.1 ≤ o.2.2.1 := by
  intro n
  induction n with
  | zero => intro d me pc L st h o ho; cases ho
  | succ n ih =>
    intro d me pc L st h o ho
    unfold fk_run at ho
    split at ho
    next x hx =>
      obtain ⟨i, len, -, -, h3⟩ := fk_step_s hx
      have m1 := fk_mo_ins me i pc L st _ h3
      have m2 := ih _ _ _ _ _ _ _ ho
      dsimp only at m1
      exact ⟨Nat.le_trans m1.1 m2.1, Nat.le_trans m1.2 m2.2⟩
    next x hx =>
      obtain ⟨i, len, -, -, h3⟩ := fk_step_s hx
      have m1 := fk_mo_ins me i pc L st _ h3
      dsimp only at m1
      cases ho
      rw [m1]
      exact ⟨Nat.le_refl _, Nat.le_refl _⟩
    next q hx =>
      cases d with
      | zero => cases ho
      | succ d' =>
        dsimp only at ho
        split at ho
        next o1 ho1 =>
          have m1 := ih _ _ _ _ _ _ _ ho1
          have m2 := ih _ _ _ _ _ _ _ ho
          exact ⟨Nat.le_trans m1.1 m2.1, Nat.le_trans m1.2 m2.2⟩
        next => cases ho
    next => cases ho
