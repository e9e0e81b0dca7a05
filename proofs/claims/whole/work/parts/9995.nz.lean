section FKNZ
/-- the script stays as it is -/
def fk_kz (h : fk_H) (o : Option fk_R) : Prop := ∀ x, o = some x → match x with
  | .inl y => 0 < h.1 → 0 < y.2.2.2.1 ∧ y.2.2.2.2.2.2 0 = h.2.2.2 0
  | .inr (.inl y) => y.2 = h
  | .inr (.inr _) => True
variable {h : fk_H}
theorem fk_kz_nx {pc : Nat} {L st : List Value} : fk_kz h (fk_nx pc L st h) := fun x hx => by
  cases Option.some.inj hx
  exact fun z => ⟨z, rfl⟩
theorem fk_kz_put {pc : Nat} {L st : List Value} {c i : Nat} {v : Value} (hc : 0 < c) : fk_kz h (fk_nx pc L st (fk_put h c i v)) := fun x hx => by
  cases Option.some.inj hx
  exact fun z => ⟨z, if_neg (by omega)⟩
theorem fk_kz_new {pc : Nat} {L st : List Value} {k n : Nat} {f : Nat → Value} : fk_kz h (fk_nx pc L st (fk_new h k n f)) := fun x hx => by
  cases Option.some.inj hx
  exact fun z => ⟨Nat.succ_pos _, if_neg (by omega)⟩
theorem fk_kz_cpy {pc : Nat} {L st : List Value} {a0 sp a dp n : Nat} (ha : 0 < a) : fk_kz h (fk_nx pc L st (fk_cpy h a0 sp a dp n)) := fun x hx => by
  cases Option.some.inj hx
  exact fun z => ⟨z, if_neg (by omega)⟩
theorem fk_kz_none : fk_kz h none := fun x hx => by cases hx
theorem fk_kz_end {r : Option Value} : fk_kz h (some (.inr (.inl (r, h)))) := fun x hx => by
  cases hx
  exact rfl
theorem fk_kz_call {q : fk_Me × List Value × Nat × List Value} : fk_kz h (some (.inr (.inr q))) := fun x hx => by
  cases hx
  exact trivial
theorem fk_kz_i1 {st : List Value} {k : Int32 → List Value → Option fk_R} (kk : ∀ x r, fk_kz h (k x r)) : fk_kz h (fk_i1 st k) := fun x hx => by
  obtain ⟨_, _, -, e⟩ := fk_i1_s hx
  exact kk _ _ x e
theorem fk_kz_i2 {st : List Value} {k : Int32 → Int32 → List Value → Option fk_R} (kk : ∀ x y r, fk_kz h (k x y r)) : fk_kz h (fk_i2 st k) := fun x hx => by
  obtain ⟨_, _, _, -, e⟩ := fk_i2_s hx
  exact kk _ _ _ x e
theorem fk_kz_l1 {st : List Value} {k : Int64 → List Value → Option fk_R} (kk : ∀ x r, fk_kz h (k x r)) : fk_kz h (fk_l1 st k) := fun x hx => by
  obtain ⟨_, _, -, e⟩ := fk_l1_s hx
  exact kk _ _ x e
theorem fk_kz_l2 {st : List Value} {k : Int64 → Int64 → List Value → Option fk_R} (kk : ∀ x y r, fk_kz h (k x y r)) : fk_kz h (fk_l2 st k) := fun x hx => by
  obtain ⟨_, _, _, -, e⟩ := fk_l2_s hx
  exact kk _ _ _ x e
theorem fk_kz_r1 {st : List Value} {k : Nat → List Value → Option fk_R} (kk : ∀ x r, fk_kz h (k x r)) : fk_kz h (fk_r1 st k) := fun x hx => by
  obtain ⟨_, _, -, e⟩ := fk_r1_s hx
  exact kk _ _ x e
theorem fk_kz_v1 {st : List Value} {k : Value → List Value → Option fk_R} (kk : ∀ x r, fk_kz h (k x r)) : fk_kz h (fk_v1 st k) := fun x hx => by
  obtain ⟨_, _, -, e⟩ := fk_v1_s hx
  exact kk _ _ x e
theorem fk_kz_ix {st : List Value} {k : Nat → Int32 → List Value → Option fk_R} (kk : ∀ x y r, fk_kz h (k x y r)) : fk_kz h (fk_ix st k) := fun x hx => by
  obtain ⟨_, _, _, -, e⟩ := fk_ix_s hx
  exact kk _ _ _ x e
theorem fk_kz_ldi {L : List Value} {i : Nat} {k : Int32 → Option fk_R} (kk : ∀ x, fk_kz h (k x)) : fk_kz h (fk_ldi L i k) := fun x hx => by
  obtain ⟨_, -, e⟩ := fk_ldi_s hx
  exact kk _ x e
theorem fk_kz_ldr {L : List Value} {i : Nat} {k : Nat → Option fk_R} (kk : ∀ x, fk_kz h (k x)) : fk_kz h (fk_ldr L i k) := fun x hx => by
  obtain ⟨_, -, e⟩ := fk_ldr_s hx
  exact kk _ x e
theorem fk_kz_ldl {L : List Value} {i : Nat} {k : Int64 → Option fk_R} (kk : ∀ x, fk_kz h (k x)) : fk_kz h (fk_ldl L i k) := fun x hx => by
  obtain ⟨_, -, e⟩ := fk_ldl_s hx
  exact kk _ x e
theorem fk_kz_lda {L : List Value} {i : Nat} {k : Value → Option fk_R} (kk : ∀ x, fk_kz h (k x)) : fk_kz h (fk_lda L i k) := fun x hx => by
  rcases fk_lda_s hx with ⟨_, -, e⟩ | ⟨_, -, e⟩
  · exact kk _ x e
  · exact kk _ x e
theorem fk_kz_ra {st : List Value} {k k2 : Nat → List Value → Option fk_R} (kk : ∀ x r, fk_kz h (k x r)) (kk2 : ∀ x r, fk_kz h (k2 x r)) : fk_kz h (fk_ra st k k2) := fun x hx => by
  rcases fk_ra_s hx with ⟨_, _, -, e⟩ | ⟨_, _, -, e⟩
  · exact kk _ _ x e
  · exact kk2 _ _ x e
theorem fk_kz_ixa {st : List Value} {k k2 : Nat → Int32 → List Value → Option fk_R} (kk : ∀ x y r, fk_kz h (k x y r)) (kk2 : ∀ x y r, fk_kz h (k2 x y r)) : fk_kz h (fk_ixa st k k2) := fun x hx => by
  rcases fk_ixa_s hx with ⟨_, _, _, -, e⟩ | ⟨_, _, _, -, e⟩
  · exact kk _ _ _ x e
  · exact kk2 _ _ _ x e
theorem fk_kz_if {p : Prop} [Decidable p] {k : Option fk_R} (kk : p → fk_kz h k) : fk_kz h (fk_if p k) := fun x hx => kk (fk_if_s hx).1 x (fk_if_s hx).2
theorem fk_kz_ite {p : Prop} [Decidable p] {k k' : Option fk_R} (kk : fk_kz h k) (kk' : fk_kz h k') : fk_kz h (if p then k else k') := by
  split
  · exact kk
  · exact kk'
theorem fk_kz_so {β : Type} {q : Option β} {k : β → Option fk_R} (kk : ∀ x, fk_kz h (k x)) : fk_kz h (fk_so q k) := fun x hx => by
  obtain ⟨_, -, e⟩ := fk_so_s hx
  exact kk _ x e
theorem fk_kz_jp {pc : Nat} {off : Int} {k : Nat → Option fk_R} (kk : ∀ x, fk_kz h (k x)) : fk_kz h (fk_jp pc off k) := fun x hx => by
  obtain ⟨_, -, e⟩ := fk_jp_s hx
  exact kk _ x e
theorem fk_kz_sto {me : fk_Me} {L : List Value} {i : Nat} {v : Value} {k : List Value → Option fk_R} (kk : ∀ x, fk_kz h (k x)) : fk_kz h (fk_sto me L i v k) := fk_kz_if fun _ => kk _
theorem fk_kz_sto2 {me : fk_Me} {L : List Value} {i : Nat} {v : Value} {k : List Value → Option fk_R} (kk : ∀ x, fk_kz h (k x)) : fk_kz h (fk_sto2 me L i v k) := fk_kz_if fun _ => kk _
theorem fk_kz_icmp {cd : ClassFile.Cond} {x y : Int32} {pc : Nat} {off : Int} {L st : List Value} : fk_kz h (fk_icmp cd x y pc off L st h) := by
  cases cd <;> exact fk_kz_jp fun _ => fk_kz_ite fk_kz_nx fk_kz_nx
theorem fk_kz_cl {kd : Nat} {q : fk_Me} {n pc : Nat} {st : List Value} : fk_kz h (fk_call kd q n pc st h) := fk_kz_if fun _ => (fk_kz_ite (fk_kz_if fun _ => fk_kz_call) (fk_kz_ite (fk_kz_ra (fun _ _ => fk_kz_none) fun _ _ => fk_kz_if fun _ => fk_kz_call) (fk_kz_r1 fun _ _ => fk_kz_if fun _ => fk_kz_call)))
theorem fk_kz_prim {k pc : Nat} {L st : List Value} : fk_kz h (fk_prim k pc L st h) := fk_kz_ite (fk_kz_r1 fun _ _ => fk_kz_if fun _ => fk_kz_nx) (fk_kz_ite (fk_kz_i2 fun _ _ _ => fk_kz_if fun _ => fk_kz_nx) (fk_kz_ite (fk_kz_i2 fun _ _ _ => fk_kz_if fun _ => fk_kz_nx) (fk_kz_ite (fk_kz_i2 fun _ _ _ => fk_kz_r1 fun _ _ => fk_kz_ix fun _ _ _ => fk_kz_if fun hp => fk_kz_cpy hp.2.1.1) fk_kz_none)))
theorem fk_kz_inv {me : fk_Me} {ok pr : Nat → Bool} {ix pc : Nat} {L st : List Value} : fk_kz h (fk_inv me ok pr ix pc L st h) := by
  unfold fk_inv
  split
  · exact fk_kz_if fun _ => fk_kz_cl
  · exact fk_kz_so fun _ => fk_kz_if fun _ => fk_kz_prim
theorem fk_kz_ldc {me : fk_Me} {ix pc : Nat} {L st : List Value} : fk_kz h (fk_ins me (.ldc ix) pc L st h) := by
  show fk_kz h (match fk_ct me.1 ix with
    | some v => fk_nx (pc + 2) L (.int v :: st) h
    | none => fk_so (fk_sx me.1 ix) fun i => fk_nx (pc + 2) L (.retAddr (2 * i) :: st) h)
  split
  · exact fk_kz_nx
  · exact fk_kz_so fun _ => fk_kz_nx
theorem fk_kz_ins (me : fk_Me) (i : Instr) (pc : Nat) (L st : List Value) : fk_kz h (fk_ins me i pc L st h) := by
  cases i <;> first
    | exact fk_kz_none
    | exact fk_kz_ldc
    | exact fk_kz_lda (k := fun v => fk_nx (pc + 2) L (v :: st) h) fun _ => fk_kz_nx
    | exact fk_kz_lda (k := fun v => fk_nx (pc + 1) L (v :: st) h) fun _ => fk_kz_nx
    | exact fk_kz_inv (ok := fun k => k == 0 || k == 8) (pr := fun _ => false)
    | exact fk_kz_inv (ok := fun k => k == 2) (pr := fun k => k == 7 || k == 8 || k == 9)
    | exact fk_kz_inv (ok := fun k => k == 4) (pr := fun k => k == 6)
    | (repeat (first
        | exact fk_kz_none
        | exact fk_kz_end
        | exact fk_kz_icmp
        | exact fk_kz_nx
        | exact fk_kz_new
        | (refine fk_kz_i1 fun _ _ => ?_)
        | (refine fk_kz_i2 fun _ _ _ => ?_)
        | (refine fk_kz_l1 fun _ _ => ?_)
        | (refine fk_kz_l2 fun _ _ _ => ?_)
        | (refine fk_kz_r1 fun _ _ => ?_)
        | (refine fk_kz_v1 fun _ _ => ?_)
        | (refine fk_kz_ix fun _ _ _ => ?_)
        | (refine fk_kz_lda fun _ => ?_)
        | (refine fk_kz_ra (fun _ _ => ?_) fun _ _ => ?_)
        | (refine fk_kz_ixa (fun _ _ _ => ?_) fun _ _ _ => ?_)
        | (refine fk_kz_ldi fun _ => ?_)
        | (refine fk_kz_ldr fun _ => ?_)
        | (refine fk_kz_ldl fun _ => ?_)
        | (refine fk_kz_sto fun _ => ?_)
        | (refine fk_kz_sto2 fun _ => ?_)
        | (refine fk_kz_jp fun _ => ?_)
        | (refine fk_kz_so fun _ => ?_)
        | (refine fk_kz_if fun hp => ?_; first | exact fk_kz_nx | exact fk_kz_end | exact fk_kz_new | exact fk_kz_put hp.1.1 | exact fk_kz_put (hp.1.elim (fun z => z.1) (fun z => z.1)) | skip)
        | (refine fk_kz_ite ?_ ?_)))
end FKNZ
theorem fk_zero : ∀ (n d : Nat) (me : fk_Me) (pc : Nat) (L st : List Value) (h : fk_H) (o : Option Value × fk_H), 0 < h.1 → fk_run n d me pc L st h = some o → 0 < o.2.1 ∧ o.2.2.2.2 0 = h.2.2.2 0 := by
  intro n
  induction n with
  | zero => intro d me pc L st h o _ ho; cases ho
  | succ n ih =>
    intro d me pc L st h o h0 ho
    unfold fk_run at ho
    split at ho
    next x hx =>
      obtain ⟨i, len, -, -, h3⟩ := fk_step_s hx
      have m1 := fk_kz_ins me i pc L st _ h3
      dsimp only at m1
      have m2 := ih _ _ _ _ _ _ _ (m1 h0).1 ho
      exact ⟨m2.1, m2.2.trans (m1 h0).2⟩
    next x hx =>
      obtain ⟨i, len, -, -, h3⟩ := fk_step_s hx
      have m1 := fk_kz_ins me i pc L st _ h3
      dsimp only at m1
      cases ho
      rw [m1]
      exact ⟨h0, rfl⟩
    next q hx =>
      cases d with
      | zero => cases ho
      | succ d' =>
        dsimp only at ho
        split at ho
        next o1 ho1 =>
          have m1 := ih _ _ _ _ _ _ _ h0 ho1
          have m2 := ih _ _ _ _ _ _ _ m1.1 ho
          exact ⟨m2.1, m2.2.trans m1.2⟩
        next => cases ho
    next => cases ho
section FKZ2
variable {N d pc : Nat} {y y1 : Nat → Nat → Int32} {l l1 : Nat → Nat → Int64} {me : fk_Me} {L st : List Value} {r : Option Value}
/-- no call changes the script -/
theorem fk_y0 (h : fk_ev d me pc L st (fk_E N y l) = some (r, fk_E N y1 l1)) : y1 0 = y 0 := by
  obtain ⟨n, hn⟩ := fk_ev_iff.mp h
  have := (fk_zero _ _ _ _ _ _ _ _ (show 0 < (fk_E N y l).1 from Nat.succ_pos _) hn).2
  funext i
  have e := congrFun this i
  have e : fk_G y1 l1 0 i = fk_G y l 0 i := e
  rw [fk_G_a (c := 0) (k := 30) rfl (Or.inr (Or.inr (Or.inr rfl))), fk_G_a (c := 0) (k := 30) rfl (Or.inr (Or.inr (Or.inr rfl)))] at e
  exact Value.int.inj e
end FKZ2
