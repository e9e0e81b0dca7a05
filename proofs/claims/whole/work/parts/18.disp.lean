theorem fk_nx_s {pc : Nat} {L st : List Value} {h : fk_H} {o : fk_R} (hs : fk_nx pc L st h = some o) : o = .inl (pc, L, st, h) := (Option.some.inj hs).symm
/-- what is known of a method that may be called -/
def fk_qG (q : fk_Me) : Prop := Cond.code q.2.1 q.2.2.1 q.2.2.2.1 q.2.2.2.2.1 ∈ lw_tbl ∧ q.2.1.cls = fk_cn q.1 ∧ plainName q.2.1.cls = true
def fk_K (p : Program) (l : Launch) (e : Env) (R : Room) (s : State) (m : MethodId) (args : Array Value) (below : List Frame) (meth : Method) (c : Code) (me : fk_Me) (D : va_G) (cA : Nat → ClassId) (b : Nat → Nat) (b0 d n0 z0 : Nat) (rr : Option Value) (hh : fk_H) (L : List Value) (h : fk_H) (o : fk_R) : Prop := match o with
  | .inl x => x.2.2.2.1 ≤ hh.1 ∧ x.2.2.2.2.1 ≤ hh.2.1 ∧ fk_V p l e R s m args below meth c me D cA b b0 n0 z0 rr hh x.1 x.2.1 x.2.2.1 x.2.2.2
  | .inr (.inl o) => o = (rr, hh)
  | .inr (.inr q) => fk_qG q.1 → q.2.1.all fk_arg = true → q.2.1.length ≤ q.1.2.2.2.1 → ∃ d' r1 h1, d = d' + 1 ∧ fk_Ok l D cA b b0 d' q.1 q.2.1 h r1 h1 ∧ h1.1 ≤ hh.1 ∧ h1.2.1 ≤ hh.2.1 ∧ fk_V p l e R s m args below meth c me D cA b b0 n0 z0 rr hh q.2.2.1 L (r1.toList ++ q.2.2.2) h1
section FKS
variable {p : Program} {l : Launch} {e : Env} {R : Room} {s : State} {m : MethodId} {args : Array Value} {below : List Frame} {meth : Method} {c : Code} {me : fk_Me} {D : va_G} {cA : Nat → ClassId} {b : Nat → Nat} {b0 d n0 z0 : Nat} {rr : Option Value} {hh : fk_H} {pc : Nat} {L st r : List Value} {h : fk_H}
theorem fk_br_s {p : Prop} [Decidable p] {pc : Nat} {off : Int} {L st : List Value} {h : fk_H} {o : fk_R} (hs : fk_br p pc off L st h = some o) : ∃ t : Nat, (pc : Int) + off = (t : Int) ∧ (p → o = .inl (t, L, st, h)) ∧ (¬ p → o = .inl (pc + 3, L, st, h)) := by
  obtain ⟨t, ht, hs⟩ := fk_jp_s hs
  refine ⟨t, ht, fun q => ?_, fun q => ?_⟩
  · rw [if_pos q] at hs
    exact fk_nx_s hs
  · rw [if_neg q] at hs
    exact fk_nx_s hs
theorem fk_d_icmp (C : fk_Cx p R s m args meth c me b b0 d n0 z0 hh) {cd : ClassFile.Cond} {x y : Int32} {off : Int} {o : fk_R} (hd : decode me.2.2.1 pc = .ok (.if_icmp cd off, 3)) (hs : fk_icmp cd x y pc off L r h = some o) (k : fk_K p l e R s m args below meth c me D cA b b0 d n0 z0 rr hh L h o) : fk_V p l e R s m args below meth c me D cA b b0 n0 z0 rr hh pc L (.int y :: .int x :: r) h := by
  cases cd
  case eq =>
    have hs1 : fk_br (x = y) pc off L r h = some o := hs
    obtain ⟨t, ht, hs2⟩ := fk_br_s hs1
    refine fk_s_icmp_eq C ht hd (fun q => ?_) (fun q => ?_)
    · obtain rfl := hs2.1 q
      exact k.2.2
    · obtain rfl := hs2.2 q
      exact k.2.2
  case ne =>
    have hs1 : fk_br (¬ x = y) pc off L r h = some o := hs
    obtain ⟨t, ht, hs2⟩ := fk_br_s hs1
    refine fk_s_icmp_ne C ht hd (fun q => ?_) (fun q => ?_)
    · obtain rfl := hs2.1 q
      exact k.2.2
    · obtain rfl := hs2.2 q
      exact k.2.2
  case lt =>
    have hs1 : fk_br (x < y) pc off L r h = some o := hs
    obtain ⟨t, ht, hs2⟩ := fk_br_s hs1
    refine fk_s_icmp_lt C ht hd (fun q => ?_) (fun q => ?_)
    · obtain rfl := hs2.1 q
      exact k.2.2
    · obtain rfl := hs2.2 q
      exact k.2.2
  case ge =>
    have hs1 : fk_br (y ≤ x) pc off L r h = some o := hs
    obtain ⟨t, ht, hs2⟩ := fk_br_s hs1
    refine fk_s_icmp_ge C ht hd (fun q => ?_) (fun q => ?_)
    · obtain rfl := hs2.1 q
      exact k.2.2
    · obtain rfl := hs2.2 q
      exact k.2.2
  case gt =>
    have hs1 : fk_br (y < x) pc off L r h = some o := hs
    obtain ⟨t, ht, hs2⟩ := fk_br_s hs1
    refine fk_s_icmp_gt C ht hd (fun q => ?_) (fun q => ?_)
    · obtain rfl := hs2.1 q
      exact k.2.2
    · obtain rfl := hs2.2 q
      exact k.2.2
  case le =>
    have hs1 : fk_br (x ≤ y) pc off L r h = some o := hs
    obtain ⟨t, ht, hs2⟩ := fk_br_s hs1
    refine fk_s_icmp_le C ht hd (fun q => ?_) (fun q => ?_)
    · obtain rfl := hs2.1 q
      exact k.2.2
    · obtain rfl := hs2.2 q
      exact k.2.2
theorem fk_d_if (C : fk_Cx p R s m args meth c me b b0 d n0 z0 hh) {cd : ClassFile.Cond} {x : Int32} {off : Int} {o : fk_R} (hd : decode me.2.2.1 pc = .ok (.ifCond cd off, 3)) (hs : fk_icmp cd x 0 pc off L r h = some o) (k : fk_K p l e R s m args below meth c me D cA b b0 d n0 z0 rr hh L h o) : fk_V p l e R s m args below meth c me D cA b b0 n0 z0 rr hh pc L (.int x :: r) h := by
  cases cd
  case eq =>
    have hs1 : fk_br (x = 0) pc off L r h = some o := hs
    obtain ⟨t, ht, hs2⟩ := fk_br_s hs1
    refine fk_s_if_eq C ht hd (fun q => ?_) (fun q => ?_)
    · obtain rfl := hs2.1 q
      exact k.2.2
    · obtain rfl := hs2.2 q
      exact k.2.2
  case ne =>
    have hs1 : fk_br (¬ x = 0) pc off L r h = some o := hs
    obtain ⟨t, ht, hs2⟩ := fk_br_s hs1
    refine fk_s_if_ne C ht hd (fun q => ?_) (fun q => ?_)
    · obtain rfl := hs2.1 q
      exact k.2.2
    · obtain rfl := hs2.2 q
      exact k.2.2
  case lt =>
    have hs1 : fk_br (x < 0) pc off L r h = some o := hs
    obtain ⟨t, ht, hs2⟩ := fk_br_s hs1
    refine fk_s_if_lt C ht hd (fun q => ?_) (fun q => ?_)
    · obtain rfl := hs2.1 q
      exact k.2.2
    · obtain rfl := hs2.2 q
      exact k.2.2
  case ge =>
    have hs1 : fk_br (0 ≤ x) pc off L r h = some o := hs
    obtain ⟨t, ht, hs2⟩ := fk_br_s hs1
    refine fk_s_if_ge C ht hd (fun q => ?_) (fun q => ?_)
    · obtain rfl := hs2.1 q
      exact k.2.2
    · obtain rfl := hs2.2 q
      exact k.2.2
  case gt =>
    have hs1 : fk_br (0 < x) pc off L r h = some o := hs
    obtain ⟨t, ht, hs2⟩ := fk_br_s hs1
    refine fk_s_if_gt C ht hd (fun q => ?_) (fun q => ?_)
    · obtain rfl := hs2.1 q
      exact k.2.2
    · obtain rfl := hs2.2 q
      exact k.2.2
  case le =>
    have hs1 : fk_br (x ≤ 0) pc off L r h = some o := hs
    obtain ⟨t, ht, hs2⟩ := fk_br_s hs1
    refine fk_s_if_le C ht hd (fun q => ?_) (fun q => ?_)
    · obtain rfl := hs2.1 q
      exact k.2.2
    · obtain rfl := hs2.2 q
      exact k.2.2
theorem fk_d_call0 (C : fk_Cx p R s m args meth c me b b0 d n0 z0 hh) {ix : Nat} {o : fk_R} {q : Nat × Nat × fk_Me × Nat} (hq : fk_ml me.1 ix = some q) (hk : q.2.1 = 0) (hd : decode me.2.2.1 pc = .ok (.invokevirtual ix, 3)) (hs : fk_call q.2.1 q.2.2.1 q.2.2.2 pc st h = some o) (k : fk_K p l e R s m args below meth c me D cA b b0 d n0 z0 rr hh L h o) : fk_V p l e R s m args below meth c me D cA b b0 n0 z0 rr hh pc L st h := by
  obtain ⟨⟨n1, n2⟩, hs⟩ := fk_if_s hs
  rw [if_neg (by omega), if_neg (by omega)] at hs
  obtain ⟨x, r, e1, hs⟩ := fk_r1_s hs
  obtain ⟨⟨n3, n4, n5⟩, hs⟩ := fk_if_s hs
  cases hs
  obtain ⟨⟨⟨c1, c2, c3⟩, ⟨c4, -⟩, -⟩, -⟩ := fk_ml_w hq
  obtain ⟨d', r1, h1, rfl, hO, m1, m2, kv⟩ := k ⟨c1, c3, c4⟩ (by simp only [List.all_cons, List.all_reverse, n2]; rfl) (by simp only [List.length_cons, List.length_reverse, List.length_take]; omega)
  have hst : st = (st.take q.2.2.2).reverse.reverse ++ .ref x :: r := by rw [List.reverse_reverse, ← e1, List.take_append_drop]
  rw [hst]
  exact fk_s_inv0 C hq hk n5 (by simp only [List.length_reverse, List.length_take]; omega) n3 hO m1 m2 hd kv
theorem fk_d_call8 (C : fk_Cx p R s m args meth c me b b0 d n0 z0 hh) {ix : Nat} {o : fk_R} {q : Nat × Nat × fk_Me × Nat} (hq : fk_ml me.1 ix = some q) (hk : q.2.1 = 8) (hd : decode me.2.2.1 pc = .ok (.invokevirtual ix, 3)) (hs : fk_call q.2.1 q.2.2.1 q.2.2.2 pc st h = some o) (k : fk_K p l e R s m args below meth c me D cA b b0 d n0 z0 rr hh L h o) : fk_V p l e R s m args below meth c me D cA b b0 n0 z0 rr hh pc L st h := by
  obtain ⟨⟨n1, n2⟩, hs⟩ := fk_if_s hs
  rw [if_neg (by omega), if_pos hk] at hs
  obtain ⟨x, r, e1, hs⟩ := (fk_ra_s hs).resolve_left (fun z => by obtain ⟨_, _, _, z⟩ := z; cases z)
  obtain ⟨⟨n3, n4, n5, n6⟩, hs⟩ := fk_if_s hs
  cases hs
  obtain ⟨⟨⟨c1, c2, c3⟩, ⟨c4, -⟩, -⟩, -⟩ := fk_ml_w hq
  obtain ⟨d', r1, h1, rfl, hO, m1, m2, kv⟩ := k ⟨c1, c3, c4⟩ (by simp only [List.all_cons, List.all_reverse, n2]; rfl) (by simp only [List.length_cons, List.length_reverse, List.length_take]; omega)
  have hst : st = (st.take q.2.2.2).reverse.reverse ++ .retAddr x :: r := by rw [List.reverse_reverse, ← e1, List.take_append_drop]
  rw [hst]
  exact fk_s_inv8 C hq hk n5 n6 (by simp only [List.length_reverse, List.length_take]; omega) n3 hO m1 m2 hd kv
theorem fk_d_call4 (C : fk_Cx p R s m args meth c me b b0 d n0 z0 hh) {ix : Nat} {o : fk_R} {q : Nat × Nat × fk_Me × Nat} (hq : fk_ml me.1 ix = some q) (hk : q.2.1 = 4) (hd : decode me.2.2.1 pc = .ok (.invokespecial ix, 3)) (hs : fk_call q.2.1 q.2.2.1 q.2.2.2 pc st h = some o) (k : fk_K p l e R s m args below meth c me D cA b b0 d n0 z0 rr hh L h o) : fk_V p l e R s m args below meth c me D cA b b0 n0 z0 rr hh pc L st h := by
  obtain ⟨⟨n1, n2⟩, hs⟩ := fk_if_s hs
  rw [if_neg (by omega), if_neg (by omega)] at hs
  obtain ⟨x, r, e1, hs⟩ := fk_r1_s hs
  obtain ⟨⟨n3, n4, n5⟩, hs⟩ := fk_if_s hs
  cases hs
  obtain ⟨⟨⟨c1, c2, c3⟩, ⟨c4, -⟩, -⟩, -⟩ := fk_ml_w hq
  obtain ⟨d', r1, h1, rfl, hO, m1, m2, kv⟩ := k ⟨c1, c3, c4⟩ (by simp only [List.all_cons, List.all_reverse, n2]; rfl) (by simp only [List.length_cons, List.length_reverse, List.length_take]; omega)
  have hst : st = (st.take q.2.2.2).reverse.reverse ++ .ref x :: r := by rw [List.reverse_reverse, ← e1, List.take_append_drop]
  rw [hst]
  exact fk_s_inv4 C hq hk n5 (by simp only [List.length_reverse, List.length_take]; omega) n3 hO m1 m2 hd kv
theorem fk_d_call2 (C : fk_Cx p R s m args meth c me b b0 d n0 z0 hh) {ix : Nat} {o : fk_R} {q : Nat × Nat × fk_Me × Nat} (hq : fk_ml me.1 ix = some q) (hk : q.2.1 = 2) (hd : decode me.2.2.1 pc = .ok (.invokestatic ix, 3)) (hs : fk_call q.2.1 q.2.2.1 q.2.2.2 pc st h = some o) (k : fk_K p l e R s m args below meth c me D cA b b0 d n0 z0 rr hh L h o) : fk_V p l e R s m args below meth c me D cA b b0 n0 z0 rr hh pc L st h := by
  obtain ⟨⟨n1, n2⟩, hs⟩ := fk_if_s hs
  rw [if_pos hk] at hs
  obtain ⟨⟨n3, n4⟩, hs⟩ := fk_if_s hs
  cases hs
  obtain ⟨⟨⟨c1, c2, c3⟩, ⟨c4, -⟩, -⟩, -⟩ := fk_ml_w hq
  obtain ⟨d', r1, h1, rfl, hO, m1, m2, kv⟩ := k ⟨c1, c3, c4⟩ (by simp only [List.all_reverse, n2]) (by simp only [List.length_reverse, List.length_take]; omega)
  have hst : st = (st.take q.2.2.2).reverse.reverse ++ st.drop q.2.2.2 := by rw [List.reverse_reverse, List.take_append_drop]
  have hV : fk_V p l e R s m args below meth c me D cA b b0 n0 z0 rr hh pc L ((st.take q.2.2.2).reverse.reverse ++ st.drop q.2.2.2) h := fk_s_inv2 C hq hk (by simp only [List.length_reverse, List.length_take]; omega) n3 hO m1 m2 hd kv
  rw [← hst] at hV
  exact hV
/-- an instruction of the small machine is one of the machine -/
theorem fk_disp (C : fk_Cx p R s m args meth c me b b0 d n0 z0 hh) {i : Instr} {len : Nat} {o : fk_R} (hd : decode me.2.2.1 pc = .ok (i, len)) (hl : fk_len i = 0 ∨ len = fk_len i) (hs : fk_ins me i pc L st h = some o) (hm : h.1 ≤ hh.1 ∧ h.2.1 ≤ hh.2.1) (k : fk_K p l e R s m args below meth c me D cA b b0 d n0 z0 rr hh L h o) : fk_V p l e R s m args below meth c me D cA b b0 n0 z0 rr hh pc L st h := by
  cases i
  case iconst n =>
    obtain rfl : len = 1 := hl.resolve_left (show ¬ ((1 : Nat) = 0) by decide)
    obtain rfl := fk_nx_s hs
    exact fk_s_iconst C hd k.2.2
  case bipush n =>
    obtain rfl : len = 2 := hl.resolve_left (show ¬ ((2 : Nat) = 0) by decide)
    obtain rfl := fk_nx_s hs
    exact fk_s_bipush C hd k.2.2
  case sipush n =>
    obtain rfl : len = 3 := hl.resolve_left (show ¬ ((3 : Nat) = 0) by decide)
    obtain rfl := fk_nx_s hs
    exact fk_s_sipush C hd k.2.2
  case lconst n =>
    obtain rfl : len = 1 := hl.resolve_left (show ¬ ((1 : Nat) = 0) by decide)
    obtain rfl := fk_nx_s hs
    exact fk_s_lconst C hd k.2.2
  case ldc ix =>
    obtain rfl : len = 2 := hl.resolve_left (show ¬ ((2 : Nat) = 0) by decide)
    have hs1 : (match fk_ct me.1 ix with
      | some v => fk_nx (pc + 2) L (.int v :: st) h
      | none => fk_so (fk_sx me.1 ix) fun i => fk_nx (pc + 2) L (.retAddr (2 * i) :: st) h) = some o := hs
    split at hs1
    next v hv =>
      obtain rfl := fk_nx_s hs1
      exact fk_s_ldc C hv hd k.2.2
    next =>
      obtain ⟨i, hi, hs2⟩ := fk_so_s hs1
      obtain rfl := fk_nx_s hs2
      exact fk_s_ldcs C hi hd k.2.2
  case ldc_w ix =>
    obtain rfl : len = 3 := hl.resolve_left (show ¬ ((3 : Nat) = 0) by decide)
    obtain ⟨v, hv, hs1⟩ := fk_so_s hs
    obtain rfl := fk_nx_s hs1
    exact fk_s_ldcw C hv hd k.2.2
  case ldc2_w ix =>
    obtain rfl : len = 3 := hl.resolve_left (show ¬ ((3 : Nat) = 0) by decide)
    obtain ⟨v, hv, hs1⟩ := fk_so_s hs
    obtain rfl := fk_nx_s hs1
    exact fk_s_ldc2 C hv hd k.2.2
  case iload i =>
    obtain rfl : len = 2 := hl.resolve_left (show ¬ ((2 : Nat) = 0) by decide)
    obtain ⟨x, hx, hs1⟩ := fk_ldi_s hs
    obtain rfl := fk_nx_s hs1
    exact fk_s_iload C hx hd k.2.2
  case iload_n i =>
    obtain rfl : len = 1 := hl.resolve_left (show ¬ ((1 : Nat) = 0) by decide)
    obtain ⟨x, hx, hs1⟩ := fk_ldi_s hs
    obtain rfl := fk_nx_s hs1
    exact fk_s_iloadn C hx hd k.2.2
  case aload i =>
    obtain rfl : len = 2 := hl.resolve_left (show ¬ ((2 : Nat) = 0) by decide)
    have hs0 : fk_lda L i (fun v => fk_nx (pc + 2) L (v :: st) h) = some o := hs
    rcases fk_lda_s hs0 with ⟨x, hx, hs1⟩ | ⟨x, hx, hs1⟩
    · obtain rfl := fk_nx_s hs1
      exact fk_s_aload C hx hd k.2.2
    · obtain rfl := fk_nx_s hs1
      exact fk_s_aloads C hx hd k.2.2
  case aload_n i =>
    obtain rfl : len = 1 := hl.resolve_left (show ¬ ((1 : Nat) = 0) by decide)
    have hs0 : fk_lda L (i : Nat) (fun v => fk_nx (pc + 1) L (v :: st) h) = some o := hs
    rcases fk_lda_s hs0 with ⟨x, hx, hs1⟩ | ⟨x, hx, hs1⟩
    · obtain rfl := fk_nx_s hs1
      exact fk_s_aloadn C hx hd k.2.2
    · obtain rfl := fk_nx_s hs1
      exact fk_s_aloadsn C hx hd k.2.2
  case lload i =>
    obtain rfl : len = 2 := hl.resolve_left (show ¬ ((2 : Nat) = 0) by decide)
    obtain ⟨x, hx, hs1⟩ := fk_ldl_s hs
    obtain rfl := fk_nx_s hs1
    exact fk_s_lload C hx hd k.2.2
  case lload_n i =>
    obtain rfl : len = 1 := hl.resolve_left (show ¬ ((1 : Nat) = 0) by decide)
    obtain ⟨x, hx, hs1⟩ := fk_ldl_s hs
    obtain rfl := fk_nx_s hs1
    exact fk_s_lloadn C hx hd k.2.2
  case istore i =>
    obtain rfl : len = 2 := hl.resolve_left (show ¬ ((2 : Nat) = 0) by decide)
    obtain ⟨x, r, rfl, hs1⟩ := fk_i1_s hs
    obtain ⟨⟨u1, u2⟩, hs2⟩ := fk_if_s hs1
    obtain rfl := fk_nx_s hs2
    exact fk_s_istore C u1 u2 hd k.2.2
  case istore_n i =>
    obtain rfl : len = 1 := hl.resolve_left (show ¬ ((1 : Nat) = 0) by decide)
    obtain ⟨x, r, rfl, hs1⟩ := fk_i1_s hs
    obtain ⟨⟨u1, u2⟩, hs2⟩ := fk_if_s hs1
    obtain rfl := fk_nx_s hs2
    exact fk_s_istoren C u1 u2 hd k.2.2
  case astore i =>
    obtain rfl : len = 2 := hl.resolve_left (show ¬ ((2 : Nat) = 0) by decide)
    obtain ⟨x, r, rfl, hs1⟩ := fk_r1_s hs
    obtain ⟨⟨u1, u2⟩, hs2⟩ := fk_if_s hs1
    obtain rfl := fk_nx_s hs2
    exact fk_s_astore C u1 u2 hd k.2.2
  case astore_n i =>
    obtain rfl : len = 1 := hl.resolve_left (show ¬ ((1 : Nat) = 0) by decide)
    obtain ⟨x, r, rfl, hs1⟩ := fk_r1_s hs
    obtain ⟨⟨u1, u2⟩, hs2⟩ := fk_if_s hs1
    obtain rfl := fk_nx_s hs2
    exact fk_s_astoren C u1 u2 hd k.2.2
  case lstore i =>
    obtain rfl : len = 2 := hl.resolve_left (show ¬ ((2 : Nat) = 0) by decide)
    obtain ⟨x, r, rfl, hs1⟩ := fk_l1_s hs
    obtain ⟨⟨u1, u2, u3, u4⟩, hs2⟩ := fk_if_s hs1
    obtain rfl := fk_nx_s hs2
    exact fk_s_lstore C u1 u2 u3 u4 hd k.2.2
  case lstore_n i =>
    obtain rfl : len = 1 := hl.resolve_left (show ¬ ((1 : Nat) = 0) by decide)
    obtain ⟨x, r, rfl, hs1⟩ := fk_l1_s hs
    obtain ⟨⟨u1, u2, u3, u4⟩, hs2⟩ := fk_if_s hs1
    obtain rfl := fk_nx_s hs2
    exact fk_s_lstoren C u1 u2 u3 u4 hd k.2.2
  case iinc i n =>
    obtain rfl : len = 3 := hl.resolve_left (show ¬ ((3 : Nat) = 0) by decide)
    obtain ⟨x, hx, hs1⟩ := fk_ldi_s hs
    obtain ⟨⟨u1, u2⟩, hs2⟩ := fk_if_s hs1
    obtain rfl := fk_nx_s hs2
    exact fk_s_iinc C hx u2 hd k.2.2
  case iadd =>
    obtain rfl : len = 1 := hl.resolve_left (show ¬ ((1 : Nat) = 0) by decide)
    obtain ⟨x, y, r, rfl, hs1⟩ := fk_i2_s hs
    obtain rfl := fk_nx_s hs1
    exact fk_s_iadd C hd k.2.2
  case isub =>
    obtain rfl : len = 1 := hl.resolve_left (show ¬ ((1 : Nat) = 0) by decide)
    obtain ⟨x, y, r, rfl, hs1⟩ := fk_i2_s hs
    obtain rfl := fk_nx_s hs1
    exact fk_s_isub C hd k.2.2
  case imul =>
    obtain rfl : len = 1 := hl.resolve_left (show ¬ ((1 : Nat) = 0) by decide)
    obtain ⟨x, y, r, rfl, hs1⟩ := fk_i2_s hs
    obtain rfl := fk_nx_s hs1
    exact fk_s_imul C hd k.2.2
  case iand =>
    obtain rfl : len = 1 := hl.resolve_left (show ¬ ((1 : Nat) = 0) by decide)
    obtain ⟨x, y, r, rfl, hs1⟩ := fk_i2_s hs
    obtain rfl := fk_nx_s hs1
    exact fk_s_iand C hd k.2.2
  case ior =>
    obtain rfl : len = 1 := hl.resolve_left (show ¬ ((1 : Nat) = 0) by decide)
    obtain ⟨x, y, r, rfl, hs1⟩ := fk_i2_s hs
    obtain rfl := fk_nx_s hs1
    exact fk_s_ior C hd k.2.2
  case ixor =>
    obtain rfl : len = 1 := hl.resolve_left (show ¬ ((1 : Nat) = 0) by decide)
    obtain ⟨x, y, r, rfl, hs1⟩ := fk_i2_s hs
    obtain rfl := fk_nx_s hs1
    exact fk_s_ixor C hd k.2.2
  case ishl =>
    obtain rfl : len = 1 := hl.resolve_left (show ¬ ((1 : Nat) = 0) by decide)
    obtain ⟨x, y, r, rfl, hs1⟩ := fk_i2_s hs
    obtain rfl := fk_nx_s hs1
    exact fk_s_ishl C hd k.2.2
  case ishr =>
    obtain rfl : len = 1 := hl.resolve_left (show ¬ ((1 : Nat) = 0) by decide)
    obtain ⟨x, y, r, rfl, hs1⟩ := fk_i2_s hs
    obtain rfl := fk_nx_s hs1
    exact fk_s_ishr C hd k.2.2
  case iushr =>
    obtain rfl : len = 1 := hl.resolve_left (show ¬ ((1 : Nat) = 0) by decide)
    obtain ⟨x, y, r, rfl, hs1⟩ := fk_i2_s hs
    obtain rfl := fk_nx_s hs1
    exact fk_s_iushr C hd k.2.2
  case idiv =>
    obtain rfl : len = 1 := hl.resolve_left (show ¬ ((1 : Nat) = 0) by decide)
    obtain ⟨x, y, r, rfl, hs1⟩ := fk_i2_s hs
    obtain ⟨u1, hs2⟩ := fk_if_s hs1
    obtain rfl := fk_nx_s hs2
    exact fk_s_idiv C u1 hd k.2.2
  case irem =>
    obtain rfl : len = 1 := hl.resolve_left (show ¬ ((1 : Nat) = 0) by decide)
    obtain ⟨x, y, r, rfl, hs1⟩ := fk_i2_s hs
    obtain ⟨u1, hs2⟩ := fk_if_s hs1
    obtain rfl := fk_nx_s hs2
    exact fk_s_irem C u1 hd k.2.2
  case ineg =>
    obtain rfl : len = 1 := hl.resolve_left (show ¬ ((1 : Nat) = 0) by decide)
    obtain ⟨x, r, rfl, hs1⟩ := fk_i1_s hs
    obtain rfl := fk_nx_s hs1
    exact fk_s_ineg C hd k.2.2
  case i2b =>
    obtain rfl : len = 1 := hl.resolve_left (show ¬ ((1 : Nat) = 0) by decide)
    obtain ⟨x, r, rfl, hs1⟩ := fk_i1_s hs
    obtain rfl := fk_nx_s hs1
    exact fk_s_i2b C hd k.2.2
  case i2c =>
    obtain rfl : len = 1 := hl.resolve_left (show ¬ ((1 : Nat) = 0) by decide)
    obtain ⟨x, r, rfl, hs1⟩ := fk_i1_s hs
    obtain rfl := fk_nx_s hs1
    exact fk_s_i2c C hd k.2.2
  case ladd =>
    obtain rfl : len = 1 := hl.resolve_left (show ¬ ((1 : Nat) = 0) by decide)
    obtain ⟨x, y, r, rfl, hs1⟩ := fk_l2_s hs
    obtain rfl := fk_nx_s hs1
    exact fk_s_ladd C hd k.2.2
  case lcmp =>
    obtain rfl : len = 1 := hl.resolve_left (show ¬ ((1 : Nat) = 0) by decide)
    obtain ⟨x, y, r, rfl, hs1⟩ := fk_l2_s hs
    obtain rfl := fk_nx_s hs1
    exact fk_s_lcmp C hd k.2.2
  case dup =>
    obtain rfl : len = 1 := hl.resolve_left (show ¬ ((1 : Nat) = 0) by decide)
    obtain ⟨v, r, rfl, hs1⟩ := fk_v1_s hs
    obtain ⟨u1, hs2⟩ := fk_if_s hs1
    obtain rfl := fk_nx_s hs2
    exact fk_s_dup C u1 hd k.2.2
  case pop =>
    obtain rfl : len = 1 := hl.resolve_left (show ¬ ((1 : Nat) = 0) by decide)
    obtain ⟨v, r, rfl, hs1⟩ := fk_v1_s hs
    obtain ⟨u1, hs2⟩ := fk_if_s hs1
    obtain rfl := fk_nx_s hs2
    exact fk_s_pop C u1 hd k.2.2
  case dup2 =>
    obtain rfl : len = 1 := hl.resolve_left (show ¬ ((1 : Nat) = 0) by decide)
    obtain ⟨v, r, rfl, hs1⟩ := fk_v1_s hs
    obtain ⟨w, r, rfl, hs2⟩ := fk_v1_s hs1
    obtain ⟨⟨u1, u2⟩, hs3⟩ := fk_if_s hs2
    obtain rfl := fk_nx_s hs3
    exact fk_s_dup2 C u1 u2 hd k.2.2
  case goto off =>
    obtain rfl : len = 3 := hl.resolve_left (show ¬ ((3 : Nat) = 0) by decide)
    have hs0 : fk_jp pc off (fun t => fk_nx t L st h) = some o := hs
    obtain ⟨t, ht, hs1⟩ := fk_jp_s hs0
    obtain rfl := fk_nx_s hs1
    exact fk_s_goto C ht hd k.2.2
  case ifCond cd off =>
    obtain rfl : len = 3 := hl.resolve_left (show ¬ ((3 : Nat) = 0) by decide)
    obtain ⟨x, r, rfl, hs1⟩ := fk_i1_s hs
    exact fk_d_if C hd hs1 k
  case if_icmp cd off =>
    obtain rfl : len = 3 := hl.resolve_left (show ¬ ((3 : Nat) = 0) by decide)
    obtain ⟨x, y, r, rfl, hs1⟩ := fk_i2_s hs
    exact fk_d_icmp C hd hs1 k
  case tableswitch dflt lo hi offs =>
    obtain ⟨x, r, rfl, hs1⟩ := fk_i1_s hs
    split at hs1
    next hx =>
      obtain ⟨t, ht, hs2⟩ := fk_jp_s hs1
      obtain rfl := fk_nx_s hs2
      exact fk_s_tabOut C hx ht hd k.2.2
    next hx =>
      obtain ⟨off, ho, hs3⟩ := fk_so_s hs1
      obtain ⟨t, ht, hs4⟩ := fk_jp_s hs3
      obtain rfl := fk_nx_s hs4
      exact fk_s_tabIn C hx ho ht hd k.2.2
  case lookupswitch dflt ps =>
    obtain ⟨x, r, rfl, hs1⟩ := fk_i1_s hs
    obtain ⟨hp, hs2⟩ := fk_if_s hs1
    obtain ⟨t, ht, hs3⟩ := fk_jp_s hs2
    obtain rfl := fk_nx_s hs3
    exact fk_s_look C hp ht hd k.2.2
  case getfield ix =>
    obtain rfl : len = 3 := hl.resolve_left (show ¬ ((3 : Nat) = 0) by decide)
    rcases fk_ra_s hs with ⟨x, r, rfl, hs1⟩ | ⟨x, r, rfl, hs1⟩
    · obtain ⟨f, hf, hs2⟩ := fk_so_s hs1
      obtain ⟨u1, hs3⟩ := fk_if_s hs2
      obtain rfl := fk_nx_s hs3
      exact fk_s_get C hf u1 hd k.2.2
    · obtain ⟨f, hf, hs2⟩ := fk_so_s hs1
      obtain ⟨⟨u1, u2, u3⟩, hs3⟩ := fk_if_s hs2
      obtain rfl := fk_nx_s hs3
      exact fk_s_gstr C hf u1 u2 u3 hd k.2.2
  case getstatic ix =>
    obtain rfl : len = 3 := hl.resolve_left (show ¬ ((3 : Nat) = 0) by decide)
    obtain ⟨f, hf, hs2⟩ := fk_so_s hs
    obtain ⟨rfl, hs3⟩ := fk_if_s hs2
    obtain rfl := fk_nx_s hs3
    exact fk_s_gstat C hf hd k.2.2
  case putfield ix =>
    obtain rfl : len = 3 := hl.resolve_left (show ¬ ((3 : Nat) = 0) by decide)
    obtain ⟨v, r, rfl, hs1⟩ := fk_v1_s hs
    obtain ⟨x, r, rfl, hs2⟩ := fk_r1_s hs1
    obtain ⟨f, hf, hs3⟩ := fk_so_s hs2
    obtain ⟨⟨u1, u2, u3, u4⟩, hs4⟩ := fk_if_s hs3
    obtain rfl := fk_nx_s hs4
    exact fk_s_put C hf u1 u2 u3 u4 hd k.2.2
  case iaload =>
    obtain rfl : len = 1 := hl.resolve_left (show ¬ ((1 : Nat) = 0) by decide)
    obtain ⟨x, i, r, rfl, hs1⟩ := fk_ix_s hs
    obtain ⟨⟨u1, u2⟩, hs2⟩ := fk_if_s hs1
    obtain rfl := fk_nx_s hs2
    rcases u1 with u1 | ⟨rfl, u1⟩
    · exact fk_s_iald C u1 u2 hd k.2.2
    · exact fk_s_sld C u2 hd k.2.2
  case baload =>
    obtain rfl : len = 1 := hl.resolve_left (show ¬ ((1 : Nat) = 0) by decide)
    rcases fk_ixa_s hs with ⟨x, i, r, rfl, hs1⟩ | ⟨x, i, r, rfl, hs1⟩
    · obtain ⟨⟨u1, u2⟩, hs2⟩ := fk_if_s hs1
      obtain rfl := fk_nx_s hs2
      exact fk_s_bald C u1 u2 hd k.2.2
    · obtain ⟨⟨u1, u2, u3⟩, hs2⟩ := fk_if_s hs1
      obtain rfl := fk_nx_s hs2
      exact fk_s_tb C u1 u2 u3 hd k.2.2
  case laload =>
    obtain rfl : len = 1 := hl.resolve_left (show ¬ ((1 : Nat) = 0) by decide)
    obtain ⟨x, i, r, rfl, hs1⟩ := fk_ix_s hs
    obtain ⟨⟨u1, u2⟩, hs2⟩ := fk_if_s hs1
    obtain rfl := fk_nx_s hs2
    exact fk_s_lald C u1 u2 hd k.2.2
  case aaload =>
    obtain rfl : len = 1 := hl.resolve_left (show ¬ ((1 : Nat) = 0) by decide)
    obtain ⟨x, i, r, rfl, hs1⟩ := fk_ix_s hs
    obtain ⟨⟨u1, u2⟩, hs2⟩ := fk_if_s hs1
    obtain ⟨v, r2, e2, hs3⟩ := fk_r1_s hs2
    obtain rfl := fk_nx_s hs3
    exact fk_s_aald C u1 u2 (List.cons.inj e2).1 hd k.2.2
  case iastore =>
    obtain rfl : len = 1 := hl.resolve_left (show ¬ ((1 : Nat) = 0) by decide)
    obtain ⟨v, r, rfl, hs1⟩ := fk_i1_s hs
    obtain ⟨x, i, r, rfl, hs2⟩ := fk_ix_s hs1
    obtain ⟨⟨u1, u2⟩, hs3⟩ := fk_if_s hs2
    obtain rfl := fk_nx_s hs3
    exact fk_s_iast C u1 u2 hd k.2.2
  case bastore =>
    obtain rfl : len = 1 := hl.resolve_left (show ¬ ((1 : Nat) = 0) by decide)
    obtain ⟨v, r, rfl, hs1⟩ := fk_i1_s hs
    obtain ⟨x, i, r, rfl, hs2⟩ := fk_ix_s hs1
    obtain ⟨⟨u1, u2⟩, hs3⟩ := fk_if_s hs2
    obtain rfl := fk_nx_s hs3
    exact fk_s_bast C u1 u2 hd k.2.2
  case lastore =>
    obtain rfl : len = 1 := hl.resolve_left (show ¬ ((1 : Nat) = 0) by decide)
    obtain ⟨v, r, rfl, hs1⟩ := fk_l1_s hs
    obtain ⟨x, i, r, rfl, hs2⟩ := fk_ix_s hs1
    obtain ⟨⟨u1, u2⟩, hs3⟩ := fk_if_s hs2
    obtain rfl := fk_nx_s hs3
    exact fk_s_last C u1 u2 hd k.2.2
  case aastore =>
    obtain rfl : len = 1 := hl.resolve_left (show ¬ ((1 : Nat) = 0) by decide)
    obtain ⟨v, r, rfl, hs1⟩ := fk_r1_s hs
    obtain ⟨x, i, r, rfl, hs2⟩ := fk_ix_s hs1
    obtain ⟨⟨u1, u2, u3⟩, hs3⟩ := fk_if_s hs2
    obtain rfl := fk_nx_s hs3
    exact fk_s_aast C u1 u2 u3 hd k.2.2
  case arraylength =>
    obtain rfl : len = 1 := hl.resolve_left (show ¬ ((1 : Nat) = 0) by decide)
    rcases fk_ra_s hs with ⟨x, r, rfl, hs1⟩ | ⟨x, r, rfl, hs1⟩
    · obtain ⟨u1, hs2⟩ := fk_if_s hs1
      obtain rfl := fk_nx_s hs2
      rcases u1 with u1 | ⟨rfl, u1⟩
      · exact fk_s_alen C u1 hd k.2.2
      · exact fk_s_slen C hd k.2.2
    · obtain ⟨⟨u1, u2⟩, hs2⟩ := fk_if_s hs1
      obtain rfl := fk_nx_s hs2
      exact fk_s_tlen C u1 u2 hd k.2.2
  case new ix =>
    obtain rfl : len = 3 := hl.resolve_left (show ¬ ((3 : Nat) = 0) by decide)
    obtain ⟨ci, hc, hs1⟩ := fk_so_s hs
    obtain rfl := fk_nx_s hs1
    exact fk_s_new C hc ⟨k.1, k.2.1⟩ hd k.2.2
  case newarray ty =>
    obtain rfl : len = 2 := hl.resolve_left (show ¬ ((2 : Nat) = 0) by decide)
    obtain ⟨n, r, rfl, hs1⟩ := fk_i1_s hs
    obtain ⟨kd, hk, hs2⟩ := fk_so_s hs1
    obtain ⟨⟨u1, u2⟩, hs3⟩ := fk_if_s hs2
    obtain rfl := fk_nx_s hs3
    exact fk_s_newa C hk u1 u2 ⟨k.1, k.2.1⟩ hd k.2.2
  case anewarray ix =>
    obtain rfl : len = 3 := hl.resolve_left (show ¬ ((3 : Nat) = 0) by decide)
    obtain ⟨n, r, rfl, hs1⟩ := fk_i1_s hs
    obtain ⟨⟨u1, u2, u3⟩, hs2⟩ := fk_if_s hs1
    obtain rfl := fk_nx_s hs2
    exact fk_s_anew C u1 u2 u3 ⟨k.1, k.2.1⟩ hd k.2.2
  case invokevirtual ix =>
    obtain rfl : len = 3 := hl.resolve_left (show ¬ ((3 : Nat) = 0) by decide)
    have hs1 : fk_inv me (fun k => k == 0 || k == 8) (fun _ => false) ix pc L st h = some o := hs
    unfold fk_inv at hs1
    split at hs1
    next q hq =>
      obtain ⟨u1, hs2⟩ := fk_if_s hs1
      have u2 : q.2.1 = 0 ∨ q.2.1 = 8 := by simpa using u1
      rcases u2 with u2 | u2
      · exact fk_d_call0 C hq u2 hd hs2 k
      · exact fk_d_call8 C hq u2 hd hs2 k
    next hq =>
      obtain ⟨kk, hk, hs3⟩ := fk_so_s hs1
      obtain ⟨u1, hs4⟩ := fk_if_s hs3
      cases u1
  case invokespecial ix =>
    obtain rfl : len = 3 := hl.resolve_left (show ¬ ((3 : Nat) = 0) by decide)
    have hs1 : fk_inv me (fun k => k == 4) (fun k => k == 6) ix pc L st h = some o := hs
    unfold fk_inv at hs1
    split at hs1
    next q hq =>
      obtain ⟨u1, hs2⟩ := fk_if_s hs1
      exact fk_d_call4 C hq (by simpa using u1) hd hs2 k
    next hq =>
      obtain ⟨kk, hk, hs3⟩ := fk_so_s hs1
      obtain ⟨u1, hs4⟩ := fk_if_s hs3
      have u2 : kk = 6 := by simpa using u1
      subst u2
      obtain ⟨x, r, rfl, hs5⟩ := fk_r1_s hs4
      obtain ⟨u2, hs6⟩ := fk_if_s hs5
      obtain rfl := fk_nx_s hs6
      exact fk_s_oi C hk u2 hd k.2.2
  case invokestatic ix =>
    obtain rfl : len = 3 := hl.resolve_left (show ¬ ((3 : Nat) = 0) by decide)
    have hs1 : fk_inv me (fun k => k == 2) (fun k => k == 7 || k == 8 || k == 9) ix pc L st h = some o := hs
    unfold fk_inv at hs1
    split at hs1
    next q hq =>
      obtain ⟨u1, hs2⟩ := fk_if_s hs1
      exact fk_d_call2 C hq (by simpa using u1) hd hs2 k
    next hq =>
      obtain ⟨kk, hk, hs3⟩ := fk_so_s hs1
      obtain ⟨u1, hs4⟩ := fk_if_s hs3
      have u2 : (kk = 7 ∨ kk = 8) ∨ kk = 9 := by simpa using u1
      rcases u2 with (rfl | rfl) | rfl
      · obtain ⟨x, y, r, rfl, hs5⟩ := fk_i2_s hs4
        obtain ⟨u2, hs6⟩ := fk_if_s hs5
        obtain rfl := fk_nx_s hs6
        exact fk_s_max C hm hk u2 hd k.2.2
      · obtain ⟨x, y, r, rfl, hs7⟩ := fk_i2_s hs4
        obtain ⟨u2, hs8⟩ := fk_if_s hs7
        obtain rfl := fk_nx_s hs8
        exact fk_s_min C hm hk u2 hd k.2.2
      · obtain ⟨dp, n, r, rfl, hs9⟩ := fk_i2_s hs4
        obtain ⟨a, r, rfl, hs10⟩ := fk_r1_s hs9
        obtain ⟨a0, sp, r, rfl, hs11⟩ := fk_ix_s hs10
        obtain ⟨⟨v1, v2, v3, v4, v5, v6, v7, v8⟩, hs12⟩ := fk_if_s hs11
        obtain rfl := fk_nx_s hs12
        exact fk_s_copy C hk v1 v2 v3 v4 v5 v6 v7 v8 hd k.2.2
  case ireturn =>
    obtain rfl : len = 1 := hl.resolve_left (show ¬ ((1 : Nat) = 0) by decide)
    obtain ⟨x, r, rfl, hs1⟩ := fk_i1_s hs
    obtain ⟨⟨rfl, u2⟩, hs2⟩ := fk_if_s hs1
    cases hs2
    cases k
    exact fk_s_ret C u2 rfl rfl hd
  case lreturn =>
    obtain rfl : len = 1 := hl.resolve_left (show ¬ ((1 : Nat) = 0) by decide)
    obtain ⟨x, r, rfl, hs1⟩ := fk_l1_s hs
    obtain ⟨⟨rfl, u2⟩, hs2⟩ := fk_if_s hs1
    cases hs2
    cases k
    exact fk_s_lret C u2 rfl rfl hd
  case return_ =>
    obtain rfl : len = 1 := hl.resolve_left (show ¬ ((1 : Nat) = 0) by decide)
    obtain ⟨⟨rfl, u2⟩, hs1⟩ := fk_if_s hs
    cases hs1
    cases k
    exact fk_s_vret C u2 rfl rfl hd
  all_goals exact absurd hs (by intro z; cases z)
end FKS
