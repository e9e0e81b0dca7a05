/-! WHAT THE SMALL MACHINE COMES TO, without counting its steps -/
theorem fk_run_up : ∀ (n d : Nat) (me : fk_Me) (pc : Nat) (L st : List Value) (h : fk_H) (o : Option Value × fk_H), fk_run n d me pc L st h = some o → fk_run (n + 1) d me pc L st h = some o := by
  intro n
  induction n with
  | zero => intro d me pc L st h o ho; cases ho
  | succ n ih =>
    intro d me pc L st h o ho
    unfold fk_run at ho ⊢
    split at ho
    next x hx => exact ih _ _ _ _ _ _ _ ho
    next x hx => exact ho
    next q hx =>
      cases d with
      | zero => cases ho
      | succ d' =>
        dsimp only at ho ⊢
        split at ho
        next o1 ho1 =>
          rw [ih _ _ _ _ _ _ _ ho1]
          exact ih _ _ _ _ _ _ _ ho
        next => cases ho
    next => cases ho
theorem fk_run_le {n m d : Nat} {me : fk_Me} {pc : Nat} {L st : List Value} {h : fk_H} {o : Option Value × fk_H} (hnm : n ≤ m) (ho : fk_run n d me pc L st h = some o) : fk_run m d me pc L st h = some o := by
  induction m with
  | zero =>
    rw [show n = 0 by omega] at ho
    exact ho
  | succ m ih =>
    by_cases hc : n ≤ m
    · exact fk_run_up _ _ _ _ _ _ _ _ (ih hc)
    · rw [show n = m + 1 by omega] at ho
      exact ho
noncomputable def fk_ev (d : Nat) (me : fk_Me) (pc : Nat) (L st : List Value) (h : fk_H) : Option (Option Value × fk_H) :=
  @dite _ (∃ o, ∃ n, fk_run n d me pc L st h = some o) (Classical.propDecidable _) (fun H => some H.choose) (fun _ => none)
theorem fk_ev_iff {d : Nat} {me : fk_Me} {pc : Nat} {L st : List Value} {h : fk_H} {o : Option Value × fk_H} : fk_ev d me pc L st h = some o ↔ ∃ n, fk_run n d me pc L st h = some o := by
  unfold fk_ev
  constructor
  · intro he
    split at he
    next H =>
      cases he
      exact H.choose_spec
    next => cases he
  · rintro ⟨n, hn⟩
    have H : ∃ o, ∃ n, fk_run n d me pc L st h = some o := ⟨o, n, hn⟩
    rw [dif_pos H]
    obtain ⟨m, hm⟩ := H.choose_spec
    have h1 := fk_run_le (Nat.le_max_left n m) hn
    have h2 := fk_run_le (Nat.le_max_right n m) hm
    rw [h1] at h2
    exact h2.symm
theorem fk_opt {α : Type} {a b : Option α} (h : ∀ o, a = some o ↔ b = some o) : a = b := by
  cases a with
  | none =>
    cases b with
    | none => rfl
    | some y => exact absurd ((h y).mpr rfl) (by intro z; cases z)
  | some x => exact ((h x).mp rfl).symm
theorem fk_ev_next {d : Nat} {me : fk_Me} {pc : Nat} {L st : List Value} {h : fk_H} {x : Nat × List Value × List Value × fk_H} (hs : fk_step me pc L st h = some (.inl x)) : fk_ev d me pc L st h = fk_ev d me x.1 x.2.1 x.2.2.1 x.2.2.2 := by
  refine fk_opt fun o => ?_
  rw [fk_ev_iff, fk_ev_iff]
  constructor
  · rintro ⟨n, hn⟩
    cases n with
    | zero => cases hn
    | succ n =>
      unfold fk_run at hn
      rw [hs] at hn
      exact ⟨n, hn⟩
  · rintro ⟨n, hn⟩
    refine ⟨n + 1, ?_⟩
    unfold fk_run
    rw [hs]
    exact hn
theorem fk_ev_end {d : Nat} {me : fk_Me} {pc : Nat} {L st : List Value} {h : fk_H} {o : Option Value × fk_H} (hs : fk_step me pc L st h = some (.inr (.inl o))) : fk_ev d me pc L st h = some o := by
  refine fk_ev_iff.mpr ⟨1, ?_⟩
  unfold fk_run
  rw [hs]
theorem fk_ev_none {d : Nat} {me : fk_Me} {pc : Nat} {L st : List Value} {h : fk_H} (hs : fk_step me pc L st h = none) : fk_ev d me pc L st h = none := by
  refine fk_opt fun o => ?_
  rw [fk_ev_iff]
  constructor
  · rintro ⟨n, hn⟩
    cases n with
    | zero => cases hn
    | succ n =>
      unfold fk_run at hn
      rw [hs] at hn
      cases hn
  · intro z; cases z
theorem fk_ev_call {d : Nat} {me : fk_Me} {pc : Nat} {L st : List Value} {h : fk_H} {q : fk_Me × List Value × Nat × List Value} (hs : fk_step me pc L st h = some (.inr (.inr q))) : fk_ev (d + 1) me pc L st h = (fk_ev d q.1 0 (fk_loc q.1 q.2.1) [] h).bind fun o => fk_ev (d + 1) me q.2.2.1 L (o.1.toList ++ q.2.2.2) o.2 := by
  refine fk_opt fun o => ?_
  rw [fk_ev_iff, Option.bind_eq_some_iff]
  constructor
  · rintro ⟨n, hn⟩
    cases n with
    | zero => cases hn
    | succ n =>
      unfold fk_run at hn
      rw [hs] at hn
      dsimp only at hn
      split at hn
      next o1 ho1 => exact ⟨o1, fk_ev_iff.mpr ⟨n, ho1⟩, fk_ev_iff.mpr ⟨n, hn⟩⟩
      next => cases hn
  · rintro ⟨o1, h1, h2⟩
    obtain ⟨n, hn⟩ := fk_ev_iff.mp h1
    obtain ⟨m, hm⟩ := fk_ev_iff.mp h2
    refine ⟨max n m + 1, ?_⟩
    unfold fk_run
    rw [hs]
    dsimp only
    rw [fk_run_le (Nat.le_max_left n m) hn]
    exact fk_run_le (Nat.le_max_right n m) hm
theorem fk_step_of {me : fk_Me} {pc len : Nat} {i : Instr} {L st : List Value} {h : fk_H} {o : Option fk_R} (hd : decode me.2.2.1 pc = .ok (i, len)) (hl : fk_len i = 0 ∨ len = fk_len i) (hi : fk_ins me i pc L st h = o) : fk_step me pc L st h = o := by
  unfold fk_step
  rw [hd]
  dsimp only
  unfold fk_if
  rw [if_pos hl]
  exact hi
theorem fk_ev_go {d : Nat} {me : fk_Me} {pc len pc' : Nat} {i : Instr} {L st L' st' : List Value} {h h' : fk_H} (hd : decode me.2.2.1 pc = .ok (i, len)) (hl : fk_len i = 0 ∨ len = fk_len i) (hi : fk_ins me i pc L st h = some (.inl (pc', L', st', h'))) : fk_ev d me pc L st h = fk_ev d me pc' L' st' h' := fk_ev_next (x := (pc', L', st', h')) (fk_step_of hd hl hi)
section FKR
variable {d pc : Nat} {me : fk_Me} {L st r : List Value} {h : fk_H}
theorem fk_r_iconst {n : Int} (hd : decode me.2.2.1 pc = .ok (.iconst n, 1)) : fk_ev d me pc L st h = fk_ev d me (pc + 1) L (.int (Int32.ofInt n) :: st) h := fk_ev_go hd (Or.inr rfl) rfl
theorem fk_r_bipush {n : Int} (hd : decode me.2.2.1 pc = .ok (.bipush n, 2)) : fk_ev d me pc L st h = fk_ev d me (pc + 2) L (.int (Int8.ofInt n).toInt32 :: st) h := fk_ev_go hd (Or.inr rfl) rfl
theorem fk_r_sipush {n : Int} (hd : decode me.2.2.1 pc = .ok (.sipush n, 3)) : fk_ev d me pc L st h = fk_ev d me (pc + 3) L (.int (Int16.ofInt n).toInt32 :: st) h := fk_ev_go hd (Or.inr rfl) rfl
theorem fk_r_lconst {n : Fin 2} (hd : decode me.2.2.1 pc = .ok (.lconst n, 1)) : fk_ev d me pc L st h = fk_ev d me (pc + 1) L (.long (Int64.ofNat (n : Nat)) :: st) h := fk_ev_go hd (Or.inr rfl) rfl
theorem fk_r_ldc {ix : Nat} {v : Int32} (hd : decode me.2.2.1 pc = .ok (.ldc ix, 2)) (hv : fk_ct me.1 ix = some v) : fk_ev d me pc L st h = fk_ev d me (pc + 2) L (.int v :: st) h := fk_ev_go hd (Or.inr rfl) (by show (match fk_ct me.1 ix with | some v => _ | none => _) = _; rw [hv]; rfl)
theorem fk_r_ldcs {ix i : Nat} (hd : decode me.2.2.1 pc = .ok (.ldc ix, 2)) (h0 : fk_ct me.1 ix = none) (hv : fk_sx me.1 ix = some i) : fk_ev d me pc L st h = fk_ev d me (pc + 2) L (.retAddr (2 * i) :: st) h := fk_ev_go hd (Or.inr rfl) (by show (match fk_ct me.1 ix with | some v => _ | none => fk_so (fk_sx me.1 ix) _) = _; rw [h0, hv]; rfl)
theorem fk_r_ldcw {ix : Nat} {v : Int32} (hd : decode me.2.2.1 pc = .ok (.ldc_w ix, 3)) (hv : fk_ct me.1 ix = some v) : fk_ev d me pc L st h = fk_ev d me (pc + 3) L (.int v :: st) h := fk_ev_go hd (Or.inr rfl) (by show fk_so (fk_ct me.1 ix) _ = _; rw [hv]; rfl)
theorem fk_r_ldc2 {ix : Nat} {v : Int64} (hd : decode me.2.2.1 pc = .ok (.ldc2_w ix, 3)) (hv : fk_lt me.1 ix = some v) : fk_ev d me pc L st h = fk_ev d me (pc + 3) L (.long v :: st) h := fk_ev_go hd (Or.inr rfl) (by show fk_so (fk_lt me.1 ix) _ = _; rw [hv]; rfl)
theorem fk_r_iload {i : Nat} {x : Int32} (hd : decode me.2.2.1 pc = .ok (.iload i, 2)) (hx : L[i]? = some (.int x)) : fk_ev d me pc L st h = fk_ev d me (pc + 2) L (.int x :: st) h := fk_ev_go hd (Or.inr rfl) (by show fk_ldi L i _ = _; unfold fk_ldi; rw [hx]; rfl)
theorem fk_r_iloadn {i : Fin 4} {x : Int32} (hd : decode me.2.2.1 pc = .ok (.iload_n i, 1)) (hx : L[(i : Nat)]? = some (.int x)) : fk_ev d me pc L st h = fk_ev d me (pc + 1) L (.int x :: st) h := fk_ev_go hd (Or.inr rfl) (by show fk_ldi L (i : Nat) _ = _; unfold fk_ldi; rw [hx]; rfl)
theorem fk_r_lload {i : Nat} {x : Int64} (hd : decode me.2.2.1 pc = .ok (.lload i, 2)) (hx : L[i]? = some (.long x)) : fk_ev d me pc L st h = fk_ev d me (pc + 2) L (.long x :: st) h := fk_ev_go hd (Or.inr rfl) (by show fk_ldl L i _ = _; unfold fk_ldl; rw [hx]; rfl)
theorem fk_r_lloadn {i : Fin 4} {x : Int64} (hd : decode me.2.2.1 pc = .ok (.lload_n i, 1)) (hx : L[(i : Nat)]? = some (.long x)) : fk_ev d me pc L st h = fk_ev d me (pc + 1) L (.long x :: st) h := fk_ev_go hd (Or.inr rfl) (by show fk_ldl L (i : Nat) _ = _; unfold fk_ldl; rw [hx]; rfl)
theorem fk_r_aload {i x : Nat} (hd : decode me.2.2.1 pc = .ok (.aload i, 2)) (hx : L[i]? = some (.ref x)) : fk_ev d me pc L st h = fk_ev d me (pc + 2) L (.ref x :: st) h := fk_ev_go hd (Or.inr rfl) (by show fk_lda L i (fun v => fk_nx (pc + 2) L (v :: st) h) = _; unfold fk_lda; rw [hx]; rfl)
theorem fk_r_aloadn {i : Fin 4} {x : Nat} (hd : decode me.2.2.1 pc = .ok (.aload_n i, 1)) (hx : L[(i : Nat)]? = some (.ref x)) : fk_ev d me pc L st h = fk_ev d me (pc + 1) L (.ref x :: st) h := fk_ev_go hd (Or.inr rfl) (by show fk_lda L (i : Nat) (fun v => fk_nx (pc + 1) L (v :: st) h) = _; unfold fk_lda; rw [hx]; rfl)
theorem fk_r_aloads {i x : Nat} (hd : decode me.2.2.1 pc = .ok (.aload i, 2)) (hx : L[i]? = some (.retAddr x)) : fk_ev d me pc L st h = fk_ev d me (pc + 2) L (.retAddr x :: st) h := fk_ev_go hd (Or.inr rfl) (by show fk_lda L i (fun v => fk_nx (pc + 2) L (v :: st) h) = _; unfold fk_lda; rw [hx]; rfl)
theorem fk_r_aloadsn {i : Fin 4} {x : Nat} (hd : decode me.2.2.1 pc = .ok (.aload_n i, 1)) (hx : L[(i : Nat)]? = some (.retAddr x)) : fk_ev d me pc L st h = fk_ev d me (pc + 1) L (.retAddr x :: st) h := fk_ev_go hd (Or.inr rfl) (by show fk_lda L (i : Nat) (fun v => fk_nx (pc + 1) L (v :: st) h) = _; unfold fk_lda; rw [hx]; rfl)
theorem fk_r_istore {i : Nat} {x : Int32} (hd : decode me.2.2.1 pc = .ok (.istore i, 2)) (hi : i < L.length ∧ i ∉ me.2.2.2.2.2) : fk_ev d me pc L (.int x :: r) h = fk_ev d me (pc + 2) (L.set i (.int x)) r h := fk_ev_go hd (Or.inr rfl) (by show fk_sto me L i (.int x) (fun L1 => fk_nx (pc + 2) L1 r h) = _; unfold fk_sto fk_if; rw [if_pos hi]; rfl)
theorem fk_r_istoren {i : Fin 4} {x : Int32} (hd : decode me.2.2.1 pc = .ok (.istore_n i, 1)) (hi : (i : Nat) < L.length ∧ (i : Nat) ∉ me.2.2.2.2.2) : fk_ev d me pc L (.int x :: r) h = fk_ev d me (pc + 1) (L.set (i : Nat) (.int x)) r h := fk_ev_go hd (Or.inr rfl) (by show fk_sto me L (i : Nat) (.int x) (fun L1 => fk_nx (pc + 1) L1 r h) = _; unfold fk_sto fk_if; rw [if_pos hi]; rfl)
theorem fk_r_astore {i : Nat} {x : Nat} (hd : decode me.2.2.1 pc = .ok (.astore i, 2)) (hi : i < L.length ∧ i ∉ me.2.2.2.2.2) : fk_ev d me pc L (.ref x :: r) h = fk_ev d me (pc + 2) (L.set i (.ref x)) r h := fk_ev_go hd (Or.inr rfl) (by show fk_sto me L i (.ref x) (fun L1 => fk_nx (pc + 2) L1 r h) = _; unfold fk_sto fk_if; rw [if_pos hi]; rfl)
theorem fk_r_astoren {i : Fin 4} {x : Nat} (hd : decode me.2.2.1 pc = .ok (.astore_n i, 1)) (hi : (i : Nat) < L.length ∧ (i : Nat) ∉ me.2.2.2.2.2) : fk_ev d me pc L (.ref x :: r) h = fk_ev d me (pc + 1) (L.set (i : Nat) (.ref x)) r h := fk_ev_go hd (Or.inr rfl) (by show fk_sto me L (i : Nat) (.ref x) (fun L1 => fk_nx (pc + 1) L1 r h) = _; unfold fk_sto fk_if; rw [if_pos hi]; rfl)
theorem fk_r_lstore {i : Nat} {x : Int64} (hd : decode me.2.2.1 pc = .ok (.lstore i, 2)) (hi : i + 1 < L.length ∧ i ∉ me.2.2.2.2.2 ∧ i + 1 ∈ me.2.2.2.2.2 ∧ L[i + 1]? = some .null) : fk_ev d me pc L (.long x :: r) h = fk_ev d me (pc + 2) (L.set i (.long x)) r h := fk_ev_go hd (Or.inr rfl) (by show fk_sto2 me L i (.long x) (fun L1 => fk_nx (pc + 2) L1 r h) = _; unfold fk_sto2 fk_if; rw [if_pos hi]; rfl)
theorem fk_r_lstoren {i : Fin 4} {x : Int64} (hd : decode me.2.2.1 pc = .ok (.lstore_n i, 1)) (hi : (i : Nat) + 1 < L.length ∧ (i : Nat) ∉ me.2.2.2.2.2 ∧ (i : Nat) + 1 ∈ me.2.2.2.2.2 ∧ L[(i : Nat) + 1]? = some .null) : fk_ev d me pc L (.long x :: r) h = fk_ev d me (pc + 1) (L.set (i : Nat) (.long x)) r h := fk_ev_go hd (Or.inr rfl) (by show fk_sto2 me L (i : Nat) (.long x) (fun L1 => fk_nx (pc + 1) L1 r h) = _; unfold fk_sto2 fk_if; rw [if_pos hi]; rfl)
theorem fk_r_iinc {i : Nat} {n : Int} {x : Int32} (hd : decode me.2.2.1 pc = .ok (.iinc i n, 3)) (hx : L[i]? = some (.int x)) (hi : i < L.length ∧ i ∉ me.2.2.2.2.2) : fk_ev d me pc L st h = fk_ev d me (pc + 3) (L.set i (.int (x + Int32.ofInt n))) st h := fk_ev_go hd (Or.inr rfl) (by show fk_ldi L i _ = _; unfold fk_ldi; rw [hx]; show fk_sto me L i (.int (x + Int32.ofInt n)) (fun L1 => fk_nx (pc + 3) L1 st h) = _; unfold fk_sto fk_if; rw [if_pos hi]; rfl)
theorem fk_r_iadd {x y : Int32} (hd : decode me.2.2.1 pc = .ok (.iadd, 1)) : fk_ev d me pc L (.int y :: .int x :: r) h = fk_ev d me (pc + 1) L (.int (x + y) :: r) h := fk_ev_go hd (Or.inr rfl) rfl
theorem fk_r_isub {x y : Int32} (hd : decode me.2.2.1 pc = .ok (.isub, 1)) : fk_ev d me pc L (.int y :: .int x :: r) h = fk_ev d me (pc + 1) L (.int (x - y) :: r) h := fk_ev_go hd (Or.inr rfl) rfl
theorem fk_r_imul {x y : Int32} (hd : decode me.2.2.1 pc = .ok (.imul, 1)) : fk_ev d me pc L (.int y :: .int x :: r) h = fk_ev d me (pc + 1) L (.int (x * y) :: r) h := fk_ev_go hd (Or.inr rfl) rfl
theorem fk_r_iand {x y : Int32} (hd : decode me.2.2.1 pc = .ok (.iand, 1)) : fk_ev d me pc L (.int y :: .int x :: r) h = fk_ev d me (pc + 1) L (.int (x &&& y) :: r) h := fk_ev_go hd (Or.inr rfl) rfl
theorem fk_r_ior {x y : Int32} (hd : decode me.2.2.1 pc = .ok (.ior, 1)) : fk_ev d me pc L (.int y :: .int x :: r) h = fk_ev d me (pc + 1) L (.int (x ||| y) :: r) h := fk_ev_go hd (Or.inr rfl) rfl
theorem fk_r_ixor {x y : Int32} (hd : decode me.2.2.1 pc = .ok (.ixor, 1)) : fk_ev d me pc L (.int y :: .int x :: r) h = fk_ev d me (pc + 1) L (.int (x ^^^ y) :: r) h := fk_ev_go hd (Or.inr rfl) rfl
theorem fk_r_ishl {x y : Int32} (hd : decode me.2.2.1 pc = .ok (.ishl, 1)) : fk_ev d me pc L (.int y :: .int x :: r) h = fk_ev d me (pc + 1) L (.int (x <<< (y &&& 31)) :: r) h := fk_ev_go hd (Or.inr rfl) rfl
theorem fk_r_ishr {x y : Int32} (hd : decode me.2.2.1 pc = .ok (.ishr, 1)) : fk_ev d me pc L (.int y :: .int x :: r) h = fk_ev d me (pc + 1) L (.int (x >>> (y &&& 31)) :: r) h := fk_ev_go hd (Or.inr rfl) rfl
theorem fk_r_iushr {x y : Int32} (hd : decode me.2.2.1 pc = .ok (.iushr, 1)) : fk_ev d me pc L (.int y :: .int x :: r) h = fk_ev d me (pc + 1) L (.int ((x.toUInt32 >>> (y.toUInt32 &&& Int32.toUInt32 31)).toInt32) :: r) h := fk_ev_go hd (Or.inr rfl) rfl
theorem fk_r_idiv {x y : Int32} (hd : decode me.2.2.1 pc = .ok (.idiv, 1)) : fk_ev d me pc L (.int y :: .int x :: r) h = if y = 0 then none else fk_ev d me (pc + 1) L (.int (x / y) :: r) h := by
  by_cases hy : y = 0
  · rw [if_pos hy]
    exact fk_ev_none (fk_step_of hd (Or.inr rfl) (by show fk_if (¬ y = 0) _ = _; unfold fk_if; rw [if_neg (fun z => z hy)]))
  · rw [if_neg hy]
    exact fk_ev_go hd (Or.inr rfl) (by show fk_if (¬ y = 0) _ = _; unfold fk_if; rw [if_pos hy]; rfl)
theorem fk_r_irem {x y : Int32} (hd : decode me.2.2.1 pc = .ok (.irem, 1)) : fk_ev d me pc L (.int y :: .int x :: r) h = if y = 0 then none else fk_ev d me (pc + 1) L (.int (x - x / y * y) :: r) h := by
  by_cases hy : y = 0
  · rw [if_pos hy]
    exact fk_ev_none (fk_step_of hd (Or.inr rfl) (by show fk_if (¬ y = 0) _ = _; unfold fk_if; rw [if_neg (fun z => z hy)]))
  · rw [if_neg hy]
    exact fk_ev_go hd (Or.inr rfl) (by show fk_if (¬ y = 0) _ = _; unfold fk_if; rw [if_pos hy]; rfl)
theorem fk_r_ineg {x : Int32} (hd : decode me.2.2.1 pc = .ok (.ineg, 1)) : fk_ev d me pc L (.int x :: r) h = fk_ev d me (pc + 1) L (.int (-x) :: r) h := fk_ev_go hd (Or.inr rfl) rfl
theorem fk_r_i2b {x : Int32} (hd : decode me.2.2.1 pc = .ok (.i2b, 1)) : fk_ev d me pc L (.int x :: r) h = fk_ev d me (pc + 1) L (.int (x.toInt8.toInt32) :: r) h := fk_ev_go hd (Or.inr rfl) rfl
theorem fk_r_i2c {x : Int32} (hd : decode me.2.2.1 pc = .ok (.i2c, 1)) : fk_ev d me pc L (.int x :: r) h = fk_ev d me (pc + 1) L (.int ((x.toUInt32 % 65536).toInt32) :: r) h := fk_ev_go hd (Or.inr rfl) rfl
theorem fk_r_ladd {x y : Int64} (hd : decode me.2.2.1 pc = .ok (.ladd, 1)) : fk_ev d me pc L (.long y :: .long x :: r) h = fk_ev d me (pc + 1) L (.long (x + y) :: r) h := fk_ev_go hd (Or.inr rfl) rfl
theorem fk_r_lcmp {x y : Int64} (hd : decode me.2.2.1 pc = .ok (.lcmp, 1)) : fk_ev d me pc L (.long y :: .long x :: r) h = fk_ev d me (pc + 1) L (.int (lg_cmp x y) :: r) h := fk_ev_go hd (Or.inr rfl) rfl
theorem fk_r_dup_int {x : Int32} (hd : decode me.2.2.1 pc = .ok (.dup, 1)) : fk_ev d me pc L (.int x :: r) h = fk_ev d me (pc + 1) L (.int x :: .int x :: r) h := fk_ev_go hd (Or.inr rfl) rfl
theorem fk_r_pop_int {x : Int32} (hd : decode me.2.2.1 pc = .ok (.pop, 1)) : fk_ev d me pc L (.int x :: r) h = fk_ev d me (pc + 1) L r h := fk_ev_go hd (Or.inr rfl) rfl
theorem fk_r_dup_ref {x : Nat} (hd : decode me.2.2.1 pc = .ok (.dup, 1)) : fk_ev d me pc L (.ref x :: r) h = fk_ev d me (pc + 1) L (.ref x :: .ref x :: r) h := fk_ev_go hd (Or.inr rfl) rfl
theorem fk_r_pop_ref {x : Nat} (hd : decode me.2.2.1 pc = .ok (.pop, 1)) : fk_ev d me pc L (.ref x :: r) h = fk_ev d me (pc + 1) L r h := fk_ev_go hd (Or.inr rfl) rfl
theorem fk_r_dup2 {x : Int32} {c : Nat} (hd : decode me.2.2.1 pc = .ok (.dup2, 1)) : fk_ev d me pc L (.int x :: .ref c :: r) h = fk_ev d me (pc + 1) L (.int x :: .ref c :: .int x :: .ref c :: r) h := fk_ev_go hd (Or.inr rfl) rfl
theorem fk_jp_of {α : Type} {pc t : Nat} {off : Int} {k : Nat → Option α} (ht : (pc : Int) + off = (t : Int)) : fk_jp pc off k = k t := by
  unfold fk_jp
  rw [ht, if_pos (Int.natCast_nonneg t), Int.toNat_natCast]
theorem fk_r_goto {off : Int} {t : Nat} (hd : decode me.2.2.1 pc = .ok (.goto off, 3)) (ht : (pc : Int) + off = (t : Int)) : fk_ev d me pc L st h = fk_ev d me t L st h := fk_ev_go hd (Or.inr rfl) (by show fk_jp pc off (fun t => fk_nx t L st h) = _; rw [fk_jp_of ht]; rfl)
theorem fk_r_icmp_eq {x y : Int32} {off : Int} {t : Nat} (hd : decode me.2.2.1 pc = .ok (.if_icmp .eq off, 3)) (ht : (pc : Int) + off = (t : Int)) : fk_ev d me pc L (.int y :: .int x :: r) h = if x = y then fk_ev d me t L r h else fk_ev d me (pc + 3) L r h := by
  by_cases hp : x = y
  · rw [if_pos hp]
    exact fk_ev_go hd (Or.inr rfl) (by show fk_jp pc off (fun t => if x = y then fk_nx t L r h else fk_nx (pc + 3) L r h) = _; rw [fk_jp_of ht, if_pos hp]; rfl)
  · rw [if_neg hp]
    exact fk_ev_go hd (Or.inr rfl) (by show fk_jp pc off (fun t => if x = y then fk_nx t L r h else fk_nx (pc + 3) L r h) = _; rw [fk_jp_of ht, if_neg hp]; rfl)
theorem fk_r_if_eq {x : Int32} {off : Int} {t : Nat} (hd : decode me.2.2.1 pc = .ok (.ifCond .eq off, 3)) (ht : (pc : Int) + off = (t : Int)) : fk_ev d me pc L (.int x :: r) h = if x = 0 then fk_ev d me t L r h else fk_ev d me (pc + 3) L r h := by
  by_cases hp : x = 0
  · rw [if_pos hp]
    exact fk_ev_go hd (Or.inr rfl) (by show fk_jp pc off (fun t => if x = 0 then fk_nx t L r h else fk_nx (pc + 3) L r h) = _; rw [fk_jp_of ht, if_pos hp]; rfl)
  · rw [if_neg hp]
    exact fk_ev_go hd (Or.inr rfl) (by show fk_jp pc off (fun t => if x = 0 then fk_nx t L r h else fk_nx (pc + 3) L r h) = _; rw [fk_jp_of ht, if_neg hp]; rfl)
theorem fk_r_icmp_ne {x y : Int32} {off : Int} {t : Nat} (hd : decode me.2.2.1 pc = .ok (.if_icmp .ne off, 3)) (ht : (pc : Int) + off = (t : Int)) : fk_ev d me pc L (.int y :: .int x :: r) h = if ¬ x = y then fk_ev d me t L r h else fk_ev d me (pc + 3) L r h := by
  by_cases hp : ¬ x = y
  · rw [if_pos hp]
    exact fk_ev_go hd (Or.inr rfl) (by show fk_jp pc off (fun t => if ¬ x = y then fk_nx t L r h else fk_nx (pc + 3) L r h) = _; rw [fk_jp_of ht, if_pos hp]; rfl)
  · rw [if_neg hp]
    exact fk_ev_go hd (Or.inr rfl) (by show fk_jp pc off (fun t => if ¬ x = y then fk_nx t L r h else fk_nx (pc + 3) L r h) = _; rw [fk_jp_of ht, if_neg hp]; rfl)
theorem fk_r_if_ne {x : Int32} {off : Int} {t : Nat} (hd : decode me.2.2.1 pc = .ok (.ifCond .ne off, 3)) (ht : (pc : Int) + off = (t : Int)) : fk_ev d me pc L (.int x :: r) h = if ¬ x = 0 then fk_ev d me t L r h else fk_ev d me (pc + 3) L r h := by
  by_cases hp : ¬ x = 0
  · rw [if_pos hp]
    exact fk_ev_go hd (Or.inr rfl) (by show fk_jp pc off (fun t => if ¬ x = 0 then fk_nx t L r h else fk_nx (pc + 3) L r h) = _; rw [fk_jp_of ht, if_pos hp]; rfl)
  · rw [if_neg hp]
    exact fk_ev_go hd (Or.inr rfl) (by show fk_jp pc off (fun t => if ¬ x = 0 then fk_nx t L r h else fk_nx (pc + 3) L r h) = _; rw [fk_jp_of ht, if_neg hp]; rfl)
theorem fk_r_icmp_lt {x y : Int32} {off : Int} {t : Nat} (hd : decode me.2.2.1 pc = .ok (.if_icmp .lt off, 3)) (ht : (pc : Int) + off = (t : Int)) : fk_ev d me pc L (.int y :: .int x :: r) h = if x < y then fk_ev d me t L r h else fk_ev d me (pc + 3) L r h := by
  by_cases hp : x < y
  · rw [if_pos hp]
    exact fk_ev_go hd (Or.inr rfl) (by show fk_jp pc off (fun t => if x < y then fk_nx t L r h else fk_nx (pc + 3) L r h) = _; rw [fk_jp_of ht, if_pos hp]; rfl)
  · rw [if_neg hp]
    exact fk_ev_go hd (Or.inr rfl) (by show fk_jp pc off (fun t => if x < y then fk_nx t L r h else fk_nx (pc + 3) L r h) = _; rw [fk_jp_of ht, if_neg hp]; rfl)
theorem fk_r_if_lt {x : Int32} {off : Int} {t : Nat} (hd : decode me.2.2.1 pc = .ok (.ifCond .lt off, 3)) (ht : (pc : Int) + off = (t : Int)) : fk_ev d me pc L (.int x :: r) h = if x < 0 then fk_ev d me t L r h else fk_ev d me (pc + 3) L r h := by
  by_cases hp : x < 0
  · rw [if_pos hp]
    exact fk_ev_go hd (Or.inr rfl) (by show fk_jp pc off (fun t => if x < 0 then fk_nx t L r h else fk_nx (pc + 3) L r h) = _; rw [fk_jp_of ht, if_pos hp]; rfl)
  · rw [if_neg hp]
    exact fk_ev_go hd (Or.inr rfl) (by show fk_jp pc off (fun t => if x < 0 then fk_nx t L r h else fk_nx (pc + 3) L r h) = _; rw [fk_jp_of ht, if_neg hp]; rfl)
theorem fk_r_icmp_ge {x y : Int32} {off : Int} {t : Nat} (hd : decode me.2.2.1 pc = .ok (.if_icmp .ge off, 3)) (ht : (pc : Int) + off = (t : Int)) : fk_ev d me pc L (.int y :: .int x :: r) h = if y ≤ x then fk_ev d me t L r h else fk_ev d me (pc + 3) L r h := by
  by_cases hp : y ≤ x
  · rw [if_pos hp]
    exact fk_ev_go hd (Or.inr rfl) (by show fk_jp pc off (fun t => if y ≤ x then fk_nx t L r h else fk_nx (pc + 3) L r h) = _; rw [fk_jp_of ht, if_pos hp]; rfl)
  · rw [if_neg hp]
    exact fk_ev_go hd (Or.inr rfl) (by show fk_jp pc off (fun t => if y ≤ x then fk_nx t L r h else fk_nx (pc + 3) L r h) = _; rw [fk_jp_of ht, if_neg hp]; rfl)
theorem fk_r_if_ge {x : Int32} {off : Int} {t : Nat} (hd : decode me.2.2.1 pc = .ok (.ifCond .ge off, 3)) (ht : (pc : Int) + off = (t : Int)) : fk_ev d me pc L (.int x :: r) h = if 0 ≤ x then fk_ev d me t L r h else fk_ev d me (pc + 3) L r h := by
  by_cases hp : 0 ≤ x
  · rw [if_pos hp]
    exact fk_ev_go hd (Or.inr rfl) (by show fk_jp pc off (fun t => if 0 ≤ x then fk_nx t L r h else fk_nx (pc + 3) L r h) = _; rw [fk_jp_of ht, if_pos hp]; rfl)
  · rw [if_neg hp]
    exact fk_ev_go hd (Or.inr rfl) (by show fk_jp pc off (fun t => if 0 ≤ x then fk_nx t L r h else fk_nx (pc + 3) L r h) = _; rw [fk_jp_of ht, if_neg hp]; rfl)
theorem fk_r_icmp_gt {x y : Int32} {off : Int} {t : Nat} (hd : decode me.2.2.1 pc = .ok (.if_icmp .gt off, 3)) (ht : (pc : Int) + off = (t : Int)) : fk_ev d me pc L (.int y :: .int x :: r) h = if y < x then fk_ev d me t L r h else fk_ev d me (pc + 3) L r h := by
  by_cases hp : y < x
  · rw [if_pos hp]
    exact fk_ev_go hd (Or.inr rfl) (by show fk_jp pc off (fun t => if y < x then fk_nx t L r h else fk_nx (pc + 3) L r h) = _; rw [fk_jp_of ht, if_pos hp]; rfl)
  · rw [if_neg hp]
    exact fk_ev_go hd (Or.inr rfl) (by show fk_jp pc off (fun t => if y < x then fk_nx t L r h else fk_nx (pc + 3) L r h) = _; rw [fk_jp_of ht, if_neg hp]; rfl)
theorem fk_r_if_gt {x : Int32} {off : Int} {t : Nat} (hd : decode me.2.2.1 pc = .ok (.ifCond .gt off, 3)) (ht : (pc : Int) + off = (t : Int)) : fk_ev d me pc L (.int x :: r) h = if 0 < x then fk_ev d me t L r h else fk_ev d me (pc + 3) L r h := by
  by_cases hp : 0 < x
  · rw [if_pos hp]
    exact fk_ev_go hd (Or.inr rfl) (by show fk_jp pc off (fun t => if 0 < x then fk_nx t L r h else fk_nx (pc + 3) L r h) = _; rw [fk_jp_of ht, if_pos hp]; rfl)
  · rw [if_neg hp]
    exact fk_ev_go hd (Or.inr rfl) (by show fk_jp pc off (fun t => if 0 < x then fk_nx t L r h else fk_nx (pc + 3) L r h) = _; rw [fk_jp_of ht, if_neg hp]; rfl)
theorem fk_r_icmp_le {x y : Int32} {off : Int} {t : Nat} (hd : decode me.2.2.1 pc = .ok (.if_icmp .le off, 3)) (ht : (pc : Int) + off = (t : Int)) : fk_ev d me pc L (.int y :: .int x :: r) h = if x ≤ y then fk_ev d me t L r h else fk_ev d me (pc + 3) L r h := by
  by_cases hp : x ≤ y
  · rw [if_pos hp]
    exact fk_ev_go hd (Or.inr rfl) (by show fk_jp pc off (fun t => if x ≤ y then fk_nx t L r h else fk_nx (pc + 3) L r h) = _; rw [fk_jp_of ht, if_pos hp]; rfl)
  · rw [if_neg hp]
    exact fk_ev_go hd (Or.inr rfl) (by show fk_jp pc off (fun t => if x ≤ y then fk_nx t L r h else fk_nx (pc + 3) L r h) = _; rw [fk_jp_of ht, if_neg hp]; rfl)
theorem fk_r_if_le {x : Int32} {off : Int} {t : Nat} (hd : decode me.2.2.1 pc = .ok (.ifCond .le off, 3)) (ht : (pc : Int) + off = (t : Int)) : fk_ev d me pc L (.int x :: r) h = if x ≤ 0 then fk_ev d me t L r h else fk_ev d me (pc + 3) L r h := by
  by_cases hp : x ≤ 0
  · rw [if_pos hp]
    exact fk_ev_go hd (Or.inr rfl) (by show fk_jp pc off (fun t => if x ≤ 0 then fk_nx t L r h else fk_nx (pc + 3) L r h) = _; rw [fk_jp_of ht, if_pos hp]; rfl)
  · rw [if_neg hp]
    exact fk_ev_go hd (Or.inr rfl) (by show fk_jp pc off (fun t => if x ≤ 0 then fk_nx t L r h else fk_nx (pc + 3) L r h) = _; rw [fk_jp_of ht, if_neg hp]; rfl)
theorem fk_r_ret {x : Int32} (hd : decode me.2.2.1 pc = .ok (.ireturn, 1)) (ht : me.2.2.2.2.1 = some .int ∨ (me.2.2.2.2.1 = some .boolean ∧ (x = 0 ∨ x = 1)) ∨ (me.2.2.2.2.1 = some .byte ∧ x = 0)) : fk_ev d me pc L [.int x] h = some (some (.int x), h) := fk_ev_end (fk_step_of hd (Or.inr rfl) (by exact if_pos ⟨rfl, ht⟩))
theorem fk_r_lret {x : Int64} (hd : decode me.2.2.1 pc = .ok (.lreturn, 1)) (ht : me.2.2.2.2.1 = some .long) : fk_ev d me pc L [.long x] h = some (some (.long x), h) := fk_ev_end (fk_step_of hd (Or.inr rfl) (by exact if_pos ⟨rfl, ht⟩))
theorem fk_r_vret (hd : decode me.2.2.1 pc = .ok (.return_, 1)) (ht : me.2.2.2.2.1 = none) : fk_ev d me pc L [] h = some (none, h) := fk_ev_end (fk_step_of hd (Or.inr rfl) (by exact if_pos ⟨rfl, ht⟩))
end FKR
