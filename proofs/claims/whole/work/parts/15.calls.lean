theorem fk_ac_int : Cond.arrayClass .int ∈ lw_tbl := List.mem_of_getElem? (i := 178) (by decide +kernel)
theorem fk_ac_long : Cond.arrayClass .long ∈ lw_tbl := List.mem_of_getElem? (i := 218) (by decide +kernel)
theorem fk_ac_byte : Cond.arrayClass .byte ∈ lw_tbl := List.mem_of_getElem? (i := 817) (by decide +kernel)
theorem fk_ac_boolean : Cond.arrayClass .boolean ∈ lw_tbl := List.mem_of_getElem? (i := 1399) (by decide +kernel)
theorem fk_nw_w {a ix ci : Nat} (hk : fk_nw a ix = some ci) : ci < 13 ∧ Cond.classLink (fk_cn a) ix (fk_cn ci) ∈ lw_tbl ∧ Cond.instantiable (fk_cn ci) (fk_nf ci) ∈ lw_tbl ∧ Cond.initialized (fk_cn ci) ∈ lw_tbl := by
  obtain ⟨z, hz⟩ := fk_lk_mem hk
  have h1 := List.all_eq_true.mp fk_nT_ok _ hz
  unfold fk_nchk at h1
  simp only [Bool.and_eq_true, decide_eq_true_eq] at h1
  have hm : ∀ w ∈ [Cond.classLink (fk_cn a) ix (fk_cn ci), Cond.instantiable (fk_cn ci) (fk_nf ci), Cond.initialized (fk_cn ci)], w ∈ lw_tbl := goodIn_m _ z h1.2.symm
  exact ⟨h1.1, hm _ (List.mem_of_getElem? (i := 0) rfl), hm _ (List.mem_of_getElem? (i := 1) rfl), hm _ (List.mem_of_getElem? (i := 2) rfl)⟩
theorem fk_z_def (b : Nat → Nat) (b0 : Nat) (ty : FieldType) : fk_z b b0 (defaultValue ty) = defaultValue ty := by cases ty <;> rfl
section FKS
variable {p : Program} {l : Launch} {e : Env} {R : Room} {s : State} {m : MethodId} {args : Array Value} {below : List Frame} {meth : Method} {c : Code} {me : fk_Me} {D : va_G} {cA : Nat → ClassId} {b : Nat → Nat} {b0 d n0 z0 : Nat} {rr : Option Value} {hh : fk_H} {pc : Nat} {L st r : List Value} {h : fk_H}
theorem fk_new_o (k n : Nat) (f : Nat → Value) {x : Nat} (hx : x ≠ h.1) : (fk_new h k n f).2.2.1 x = h.2.2.1 x ∧ (fk_new h k n f).2.2.2 x = h.2.2.2 x := by
  constructor
  · show va_up h.2.2.1 h.1 _ x = _
    simp [va_up, hx]
  · show va_up h.2.2.2 h.1 _ x = _
    simp [va_up, hx]
theorem fk_new_n (k n : Nat) (f : Nat → Value) : (fk_new h k n f).2.2.1 h.1 = (k, n) ∧ (fk_new h k n f).2.2.2 h.1 = f := by
  constructor
  · show va_up h.2.2.1 h.1 _ h.1 = _
    simp [va_up]
  · show va_up h.2.2.2 h.1 _ h.1 = _
    simp [va_up]
/-- behind a cell that is made -/
theorem fk_grow (C : fk_Cx p R s m args meth c me b b0 d n0 z0 hh) {kd N q : Nat} {f : Nat → Value} {E : va_E} {H H1 : Heap} {locs : List Loc} {ls : Array Slot} (hL : fk_L b b0 me ls L) (hW : fk_Wd D cA b b0 h s H) (hS : va_S (fun q => b0 < q) s.heap H locs) (a1 : n0 ≤ h.1) (a2 : z0 ≤ h.2.1) (hE : fk_e cA b b0 (fk_new h kd N f) h.1 = E)
    (hP1 : va_P D vwCl (fk_ws cA b b0 h ++ [(q, E)]) H1) (hD1 : va_D (fun q => b0 < q) (fk_ws cA b b0 h ++ [(q, E)])) (hS1 : va_S (fun q => b0 < q) s.heap H1 locs) (k : fk_V p l e R s m args below meth c me D cA b b0 n0 z0 rr hh pc L (.ref h.1 :: r) (fk_new h kd N f)) : W p l e R s m args below meth c H1 locs (h.1 - n0 + 1) (h.2.1 - z0 + N) (MQ below (fk_Qc D cA b b0 rr hh) args s (hh.1 - n0) (hh.2.1 - z0) (fun q => b0 < q)) (F0 m pc ls (.ref q :: r.map (fk_z b b0))) := by
  obtain ⟨w1, w2, w3, w4, w5, w6⟩ := hW
  have hs0 := C.2.2.2.2.2.2.2.2.2.2.1
  have hn0 := C.2.2.2.2.2.2.2.2.2.2.2
  refine fk_W_size fun hle => ?_
  have hlen : (fk_ws cA b b0 h).length = h.1 - 1 := by
    unfold fk_ws
    rw [List.length_map, List.length_range]
  have hlast : (fk_ws cA b b0 h ++ [(q, E)])[h.1 - 1]? = some (q, E) := by
    rw [List.getElem?_append_right (by omega), hlen, Nat.sub_self]
    rfl
  have q1 : q < H1.size := (hP1 _ _ hlast).lt
  have q2 : b0 < q := hD1.2 _ _ hlast
  have q3 : q = b0 + h.1 := by
    by_cases hq : q < b0 + h.1
    · exfalso
      have hat := fk_ws_at (cA := cA) (b := b) (b0 := b0) (h := h) (c := q - b0) (by omega) (by omega)
      have hat2 : (fk_ws cA b b0 h ++ [(q, E)])[q - b0 - 1]? = some (b0 + (q - b0), fk_e cA b b0 h (q - b0)) := by
        rw [List.getElem?_append_left (by omega)]
        exact hat
      have := hD1.1 _ _ _ _ hat2 hlast (by show b0 + (q - b0) = q; omega)
      omega
    · omega
  subst q3
  have hws : fk_ws cA b b0 (fk_new h kd N f) = fk_ws cA b b0 h ++ [(b0 + h.1, E)] := by
    rw [fk_ws_push (h' := fk_new h kd N f) w4 rfl (fun x hx => fk_e_cg (fk_new_o kd N f hx).1 (fk_new_o kd N f hx).2), hE]
  rw [← hws] at hP1
  have c1 : h.1 - n0 + 1 = (fk_new h kd N f).1 - n0 := by
    show _ = h.1 + 1 - n0
    omega
  have c2 : h.2.1 - z0 + N = (fk_new h kd N f).2.1 - z0 := by
    show _ = h.2.1 + N - z0
    omega
  have c3 : (fk_new h kd N f).1 = h.1 + 1 := rfl
  have c4 : (fk_new h kd N f).2.1 = h.2.1 + N := rfl
  have hk := k (by omega) (by omega) ls H1 locs hL ⟨w1, hP1, ?_, by omega, w5, ?_⟩ hS1
  · rw [← c1, ← c2] at hk
    have e9 : fk_ad b b0 h.1 = b0 + h.1 := fk_ad_pos w4
    rw [← e9]
    exact hk
  · have := fk_ge (cA := cA) (b := b) (h := fk_new h kd N f) (by omega) hP1
    omega
  · rw [(fk_new_o (h := h) kd N f (x := 0) (by omega)).1, (fk_new_o (h := h) kd N f (x := 0) (by omega)).2]
    refine w6.kept ?_
    rw [hS1.2.1 (b 0) (by omega) (by omega), hS.2.1 (b 0) (by omega) (by omega)]
theorem fk_hA (C : fk_Cx p R s m args meth c me b b0 d n0 z0 hh) : ∀ q, s.heap.size ≤ q → (fun q => b0 < q) q := by
  have hs0 := C.2.2.2.2.2.2.2.2.2.2.1
  have hn0 := C.2.2.2.2.2.2.2.2.2.2.2
  intro q hq
  show b0 < q
  omega
theorem fk_s_new (C : fk_Cx p R s m args meth c me b b0 d n0 z0 hh) {ix ci : Nat} (hk : fk_nw me.1 ix = some ci) (hm : h.1 + 1 ≤ hh.1 ∧ h.2.1 + fk_nf ci ≤ hh.2.1) (hd : decode me.2.2.1 pc = .ok (.new ix, 3)) (k : fk_V p l e R s m args below meth c me D cA b b0 n0 z0 rr hh (pc + 3) L (.ref h.1 :: st) (fk_new h ci (fk_nf ci) (fun k => defaultValue (fk_ty ci k)))) : fk_V p l e R s m args below meth c me D cA b b0 n0 z0 rr hh pc L st h := fun a1 a2 ls H locs hL hW hS => by
  obtain ⟨w1, w2, w3, w4⟩ := fk_nw_w hk
  have hR := C.2.2.2.2.2.2.2.2.2.1
  refine va_new (ci := ci) (fs := (List.range (fk_nf ci)).map (fun k => defaultValue (fk_ty ci k))) (T := fk_T ci) (N := fk_nf ci) C.1 C.2.1 C.2.2.2.2.1 (fk_layg w1) (fk_ty ci) (fk_tyok _ w1) C.2.2.2.1 (C.2.2.2.2.1 _ (fk_gd_of w2 rfl)) (C.2.2.2.2.1 _ (fk_gd_of w3 rfl)) (C.2.2.2.2.1 _ (fk_gd_of w4 rfl)) hW.1 hW.2.1 fk_ws_D hS (fk_hA C) (fk_cl _ w1) (fun j hj => ?_) (by rw [hR]; show h.1 - n0 + 1 ≤ hh.1 - n0; omega) (by rw [hR]; show h.2.1 - z0 + fk_nf ci ≤ hh.2.1 - z0; omega) hd (fun q H1 hP1 hD1 hS1 => ?_)
  · show _ = List.getD _ j Value.null
    rw [List.getD_eq_getElem?_getD, List.getElem?_map, List.getElem?_range hj]
    rfl
  · refine fk_grow (kd := ci) C hL hW hS a1 a2 ?_ hP1 hD1 hS1 k
    rw [fk_e_obj (ci := ci) (by rw [(fk_new_n ci _ _).1]) w1, (fk_new_n ci _ _).2]
    congr 2
    apply List.map_congr_left
    intro j _
    exact fk_z_def b b0 _
theorem fk_s_newa (C : fk_Cx p R s m args meth c me b b0 d n0 z0 hh) {ty : ArrayType} {n : Int32} {kd : Nat × Value} (hk : fk_kd ty = some kd) (hn : ¬ n < 0) (hN : n.toNatClampNeg ≤ 65536) (hm : h.1 + 1 ≤ hh.1 ∧ h.2.1 + n.toNatClampNeg ≤ hh.2.1) (hd : decode me.2.2.1 pc = .ok (.newarray ty, 2)) (k : fk_V p l e R s m args below meth c me D cA b b0 n0 z0 rr hh (pc + 2) L (.ref h.1 :: r) (fk_new h kd.1 n.toNatClampNeg (fun _ => kd.2))) : fk_V p l e R s m args below meth c me D cA b b0 n0 z0 rr hh pc L (.int n :: r) h := fun a1 a2 ls H locs hL hW hS => by
  have hR := C.2.2.2.2.2.2.2.2.2.1
  have hc1 : h.1 - n0 + 1 ≤ R.cells := by rw [hR]; show h.1 - n0 + 1 ≤ hh.1 - n0; omega
  have hc2 : h.2.1 - z0 + n.toNatClampNeg ≤ R.slots := by rw [hR]; show h.2.1 - z0 + n.toNatClampNeg ≤ hh.2.1 - z0; omega
  cases ty <;> simp only [fk_kd, Option.some.injEq, reduceCtorEq] at hk
  · subst hk
    refine va_newa (atype := .boolean) (ty := .boolean) (a0 := (n.toNatClampNeg, .inl (fun _ => 0))) C.1 C.2.1 (C.2.2.2.2.1 _ (fk_gd_of fk_ac_boolean rfl)) rfl hW.1 hW.2.1 fk_ws_D hS (fk_hA C) (fun _ => rfl) hn rfl (by show _ * 1 ≤ _; omega) hc1 hc2 hd (fun q cA' H1 hK1 hP1 hD1 hS1 => ?_)
    have e1 : s.vm.findClass ("[" ++ FieldType.boolean.toString) = some cA' := (hK1.2 5 (cA', .boolean) rfl).2
    have e2 : s.vm.findClass ("[" ++ FieldType.boolean.toString) = some (cA 22) := (hW.1.2 2 (cA 22, .boolean) rfl).2
    cases Option.some.inj (e1.symm.trans e2)
    refine fk_grow (kd := 22) C hL hW hS a1 a2 ?_ hP1 hD1 hS1 k
    rw [fk_e_int (ci := 22) (by rw [(fk_new_n 22 _ _).1]) (Or.inr (Or.inr rfl)), (fk_new_n 22 _ _).1, (fk_new_n 22 _ _).2]
    rfl
  · subst hk
    refine va_newa (atype := .byte) (ty := .byte) (a0 := (n.toNatClampNeg, .inl (fun _ => 0))) C.1 C.2.1 (C.2.2.2.2.1 _ (fk_gd_of fk_ac_byte rfl)) rfl hW.1 hW.2.1 fk_ws_D hS (fk_hA C) (fun _ => rfl) hn rfl (by show _ * 1 ≤ _; omega) hc1 hc2 hd (fun q cA' H1 hK1 hP1 hD1 hS1 => ?_)
    have e1 : s.vm.findClass ("[" ++ FieldType.byte.toString) = some cA' := (hK1.2 5 (cA', .byte) rfl).2
    have e2 : s.vm.findClass ("[" ++ FieldType.byte.toString) = some (cA 21) := (hW.1.2 1 (cA 21, .byte) rfl).2
    cases Option.some.inj (e1.symm.trans e2)
    refine fk_grow (kd := 21) C hL hW hS a1 a2 ?_ hP1 hD1 hS1 k
    rw [fk_e_int (ci := 21) (by rw [(fk_new_n 21 _ _).1]) (Or.inr (Or.inl rfl)), (fk_new_n 21 _ _).1, (fk_new_n 21 _ _).2]
    rfl
  · subst hk
    refine va_newa (atype := .int) (ty := .int) (a0 := (n.toNatClampNeg, .inl (fun _ => 0))) C.1 C.2.1 (C.2.2.2.2.1 _ (fk_gd_of fk_ac_int rfl)) rfl hW.1 hW.2.1 fk_ws_D hS (fk_hA C) (fun _ => rfl) hn rfl (by show _ * 4 ≤ _; omega) hc1 hc2 hd (fun q cA' H1 hK1 hP1 hD1 hS1 => ?_)
    have e1 : s.vm.findClass ("[" ++ FieldType.int.toString) = some cA' := (hK1.2 5 (cA', .int) rfl).2
    have e2 : s.vm.findClass ("[" ++ FieldType.int.toString) = some (cA 20) := (hW.1.2 0 (cA 20, .int) rfl).2
    cases Option.some.inj (e1.symm.trans e2)
    refine fk_grow (kd := 20) C hL hW hS a1 a2 ?_ hP1 hD1 hS1 k
    rw [fk_e_int (ci := 20) (by rw [(fk_new_n 20 _ _).1]) (Or.inl rfl), (fk_new_n 20 _ _).1, (fk_new_n 20 _ _).2]
    rfl
  · subst hk
    refine va_newa (atype := .long) (ty := .long) (a0 := (n.toNatClampNeg, .inr (.inl (fun _ => 0)))) C.1 C.2.1 (C.2.2.2.2.1 _ (fk_gd_of fk_ac_long rfl)) rfl hW.1 hW.2.1 fk_ws_D hS (fk_hA C) (fun _ => rfl) hn rfl (by show _ * 8 ≤ _; omega) hc1 hc2 hd (fun q cA' H1 hK1 hP1 hD1 hS1 => ?_)
    have e1 : s.vm.findClass ("[" ++ FieldType.long.toString) = some cA' := (hK1.2 5 (cA', .long) rfl).2
    have e2 : s.vm.findClass ("[" ++ FieldType.long.toString) = some (cA 23) := (hW.1.2 3 (cA 23, .long) rfl).2
    cases Option.some.inj (e1.symm.trans e2)
    refine fk_grow (kd := 23) C hL hW hS a1 a2 ?_ hP1 hD1 hS1 k
    rw [fk_e_long (by rw [(fk_new_n 23 _ _).1]), (fk_new_n 23 _ _).1, (fk_new_n 23 _ _).2]
    rfl
theorem fk_s_anew (C : fk_Cx p R s m args meth c me b b0 d n0 z0 hh) {ix : Nat} {n : Int32} (hk : fk_nw me.1 ix = some 0) (hn : ¬ n < 0) (hN : n.toNatClampNeg ≤ 65536) (hm : h.1 + 1 ≤ hh.1 ∧ h.2.1 + n.toNatClampNeg ≤ hh.2.1) (hd : decode me.2.2.1 pc = .ok (.anewarray ix, 3)) (k : fk_V p l e R s m args below meth c me D cA b b0 n0 z0 rr hh (pc + 3) L (.ref h.1 :: r) (fk_new h 24 n.toNatClampNeg (fun _ => .null))) : fk_V p l e R s m args below meth c me D cA b b0 n0 z0 rr hh pc L (.int n :: r) h := fun a1 a2 ls H locs hL hW hS => by
  have hR := C.2.2.2.2.2.2.2.2.2.1
  obtain ⟨w1, w2, w3, w4⟩ := fk_nw_w hk
  refine va_newq (C := "ForkTown$Half") C.1 C.2.1 C.2.2.2.1 (C.2.2.2.2.1 _ (fk_gd_of w2 rfl)) C.2.2.2.2.2.2.2.2.1.1.2 hW.1 hW.2.1 fk_ws_D hS (fk_hA C) hn rfl (by omega) (by rw [hR]; show h.1 - n0 + 1 ≤ hh.1 - n0; omega) (by rw [hR]; show h.2.1 - z0 + n.toNatClampNeg ≤ hh.2.1 - z0; omega) hd (fun q cA' H1 hK1 hP1 hD1 hS1 => ?_)
  obtain ⟨kA, comp, -, -, -, e1⟩ := (hK1.2 5 (cA', .object "ForkTown$Half") rfl).2
  obtain ⟨kA', comp', -, -, -, e2⟩ := (hW.1.2 4 (cA 24, .object "ForkTown$Half") rfl).2
  cases Option.some.inj (e1.symm.trans e2)
  refine fk_grow (kd := 24) C hL hW hS a1 a2 ?_ hP1 hD1 hS1 k
  rw [fk_e_ref (by rw [(fk_new_n 24 _ _).1]), (fk_new_n 24 _ _).1, (fk_new_n 24 _ _).2]
  rfl
end FKS
