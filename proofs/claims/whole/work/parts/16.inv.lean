def fk_wd (me : fk_Me) : List Cond := Cond.code me.2.1 me.2.2.1 me.2.2.2.1 me.2.2.2.2.1 :: fk_gd
def fk_Pc (D : va_G) (cA : Nat → ClassId) (b : Nat → Nat) (b0 : Nat) (as : List Value) (h : fk_H) : Array Value → State → Prop := va_Pc (as.map (fk_z b b0)) (fun U => fk_Wd D cA b b0 h U U.heap ∧ fk_St b b0 U)
/-- a method, called at h with these arguments, answers r1 and leaves h1 -/
def fk_Ok (l : Launch) (D : va_G) (cA : Nat → ClassId) (b : Nat → Nat) (b0 d : Nat) (q : fk_Me) (as : List Value) (h : fk_H) (r1 : Option Value) (h1 : fk_H) : Prop := h.1 ≤ h1.1 ∧ h.2.1 ≤ h1.2.1 ∧ Met l q.2.1 (fk_wd q) (fk_rm d (h1.1 - h.1) (h1.2.1 - h.2.1)) (fk_Pc D cA b b0 as h) (fk_Qc D cA b b0 r1 h1) (h1.1 - h.1) (h1.2.1 - h.2.1) (fun x => b0 < x)
theorem fk_blind {D : va_G} {cA : Nat → ClassId} {b : Nat → Nat} {b0 : Nat} {as : List Value} {h : fk_H} : FrameBlind (fk_Pc D cA b b0 as h) := fun a U g mk q => ⟨q.1, fk_Wd_moved (u := U) (U := U.calling g mk a) (Vm.Alike.refl U.vm) q.2.1, fk_St_same (u := U) (U := U.calling g mk a) rfl rfl q.2.2⟩
theorem fk_wd_good {q : fk_Me} (hc : Cond.code q.2.1 q.2.2.1 q.2.2.2.1 q.2.2.2.2.1 ∈ lw_tbl) : GoodIn fk_gd (fk_wd q) := by
  intro w hw
  rcases List.mem_cons.mp hw with rfl | hw
  · exact ⟨fk_gd_of hc rfl, good_of_word rfl⟩
  · exact ⟨hw, good_of_word (List.mem_filter.mp hw).2⟩
theorem fk_ml_w {a ix : Nat} {e : Nat × Nat × fk_Me × Nat} (he : fk_ml a ix = some e) : fk_qP e.2 ∧ (e.1 = 1 → Cond.methodLinkNest (fk_cn a) ix e.2.2.1.2.1 "ForkTown" ∈ lw_tbl) ∧ (e.1 ≠ 1 → Cond.methodLink (fk_cn a) ix e.2.2.1.2.1 ∈ lw_tbl) := by
  unfold fk_ml at he
  split at he
  next x hx =>
    split at he
    next q hq =>
      cases he
      obtain ⟨z, hz⟩ := fk_lk_mem hx
      have h1 := List.all_eq_true.mp fk_mT_ok _ hz
      unfold fk_mchk at h1
      simp only [hq] at h1
      refine ⟨fk_qs_ok _ (List.mem_of_getElem? hq), fun q1 => ?_, fun q1 => ?_⟩
      · rw [if_pos q1] at h1
        exact List.mem_of_getElem? (of_decide_eq_true h1)
      · rw [if_neg q1] at h1
        exact List.mem_of_getElem? (of_decide_eq_true h1)
    next => cases he
  next => cases he
section FKS
variable {p : Program} {l : Launch} {e : Env} {R : Room} {s : State} {m : MethodId} {args : Array Value} {below : List Frame} {meth : Method} {c : Code} {me : fk_Me} {D : va_G} {cA : Nat → ClassId} {b : Nat → Nat} {b0 d n0 z0 : Nat} {rr : Option Value} {hh : fk_H} {pc : Nat} {L st r : List Value} {h : fk_H}
/-- behind a call -/
theorem fk_back {h1 : fk_H} {r1 : Option Value} {H : Heap} {locs : List Loc} {ls : Array Slot} {a : Array Value} {st0 : List Value} (hL : fk_L b b0 me ls L) (hS : va_S (fun q => b0 < q) s.heap H locs) (a1 : n0 ≤ h.1) (a2 : z0 ≤ h.2.1) (g1 : h.1 ≤ h1.1) (g2 : h.2.1 ≤ h1.2.1)
    (hr : va_Run p l e R s m args below meth c H locs (h.1 - n0) (h.2.1 - z0) (h1.1 - h.1) (h1.2.1 - h.2.1) (F0 m pc ls st0) (r.map (fk_z b b0)) (fk_Qc D cA b b0 r1 h1 a) (fun x => b0 < x)) (k : fk_V p l e R s m args below meth c me D cA b b0 n0 z0 rr hh (pc + 3) L (r1.toList ++ r) h1) : W p l e R s m args below meth c H locs (h.1 - n0) (h.2.1 - z0) (MQ below (fk_Qc D cA b b0 rr hh) args s (hh.1 - n0) (hh.2.1 - z0) (fun q => b0 < q)) (F0 m pc ls st0) := by
  intro T hT X
  obtain ⟨v, st₀, t, T', L', h0, X', hL', e1, e2, ⟨hv, hw, hz, hk⟩, st⟩ := hr T hT X
  cases hv
  rw [h0] at hz hk
  have c1 : h.1 - n0 + (h1.1 - h.1) = h1.1 - n0 := by omega
  have c2 : h.2.1 - z0 + (h1.2.1 - h.2.1) = h1.2.1 - z0 := by omega
  rw [c1, c2] at X'
  have hal : t.vm.Alike s.vm := by
    rw [← e2]
    exact X'.warmed.alike.symm
  rw [← e1] at hw hz hk
  have hS' : va_S (fun q => b0 < q) s.heap T'.heap (locs ++ L') := ⟨Nat.le_trans hS.1 hz, fun q q1 q2 => by rw [hk q (Nat.lt_of_lt_of_le q1 hS.1) q2]; exact hS.2.1 q q1 q2, fun q hq => by
      rcases List.mem_append.mp hq with h | h
      · exact hS.2.2 q h
      · exact hL' q h⟩
  obtain ⟨t2, b1, b2⟩ := k (by omega) (by omega) ls T'.heap (locs ++ L') hL (fk_Wd_moved hal hw) hS' T' rfl X'
  refine ⟨t2, st t2 ?_, b2⟩
  cases r1 with
  | none => exact b1
  | some v => exact b1
theorem fk_rooms (C : fk_Cx p R s m args meth c me b b0 (d + 1) n0 z0 hh) {h1 : fk_H} (a1 : n0 ≤ h.1) (a2 : z0 ≤ h.2.1) (g1 : h.1 ≤ h1.1) (g2 : h.2.1 ≤ h1.2.1) (m1 : h1.1 ≤ hh.1) (m2 : h1.2.1 ≤ hh.2.1) {nl : Nat} (hnl : nl ≤ 20) : ((fk_rm d (h1.1 - h.1) (h1.2.1 - h.2.1)).frames + 1 ≤ R.frames ∧ 8 + (nl + 11) + (fk_rm d (h1.1 - h.1) (h1.2.1 - h.2.1)).locals ≤ R.locals) ∧ (h.1 - n0 + (h1.1 - h.1) ≤ R.cells ∧ h.2.1 - z0 + (h1.2.1 - h.2.1) ≤ R.slots) := by
  have hR := C.2.2.2.2.2.2.2.2.2.1
  rw [hR]
  refine ⟨⟨Nat.le_refl _, ?_⟩, ?_, ?_⟩
  · show 8 + (nl + 11) + 40 * (d + 1) ≤ 40 * (d + 1 + 1)
    omega
  · show _ ≤ hh.1 - n0
    omega
  · show _ ≤ hh.2.1 - z0
    omega
/-- a method of an object -/
theorem fk_s_inv0 (C : fk_Cx p R s m args meth c me b b0 (d + 1) n0 z0 hh) {ix x : Nat} {q : Nat × Nat × fk_Me × Nat} {as : List Value} {h1 : fk_H} {r1 : Option Value} (hq : fk_ml me.1 ix = some q) (hk : q.2.1 = 0) (hx : fk_is h x q.2.2.1.1) (hn : as.length = q.2.2.2) (hr : 2 * r.length ≤ 8) (hO : fk_Ok l D cA b b0 d q.2.2.1 (.ref x :: as) h r1 h1) (m1 : h1.1 ≤ hh.1) (m2 : h1.2.1 ≤ hh.2.1) (hd : decode me.2.2.1 pc = .ok (.invokevirtual ix, 3)) (k : fk_V p l e R s m args below meth c me D cA b b0 n0 z0 rr hh (pc + 3) L (r1.toList ++ r) h1) : fk_V p l e R s m args below meth c me D cA b b0 n0 z0 rr hh pc L (as.reverse ++ .ref x :: r) h := fun a1 a2 ls H locs hL hW hS => by
  obtain ⟨⟨⟨c1, c2, c3⟩, ⟨c4, c5, c6, c7⟩, c8, -, c9, -⟩, l1, l2⟩ := fk_ml_w hq
  obtain ⟨i1, i2, i3⟩ := c9 hk
  obtain ⟨g1, g2, hM⟩ := hO
  obtain ⟨R1, R2⟩ := fk_rooms C a1 a2 g1 g2 m1 m2 c8
  obtain ⟨x1, x2, x3⟩ := hx
  have he := fk_ws_at (cA := cA) (b := b) (b0 := b0) x1 x2
  rw [fk_e_obj x3 i3] at he
  have hstk : (as.reverse ++ .ref x :: r).map (fk_z b b0) = (as.map (fk_z b b0)).reverse ++ .ref (b0 + x) :: r.map (fk_z b b0) := by
    rw [List.map_append, List.map_reverse, List.map_cons]
    show _ ++ Value.ref (fk_ad b b0 x) :: _ = _
    rw [fk_ad_pos x1]
  have hpre : ∀ U : State, U.heap = H → s.WarmedH U.vm → fk_Pc D cA b b0 (.ref x :: as) h (Value.ref (b0 + x) :: as.map (fk_z b b0)).toArray U := fun U hU hWU => by
    refine ⟨?_, ?_, fk_St_warm hWU (fun a q1 q2 => by rw [hU]; exact hS.2.1 a q1 q2) C.2.2.2.2.2.2.2.2.1⟩
    · show _ = (Value.ref (fk_ad b b0 x) :: _).toArray
      rw [fk_ad_pos x1]
    · rw [hU]
      exact fk_Wd_moved hWU.alike hW
  rw [hstk]
  have S : CallFix p m c me.2.2.1 me.2.2.2.1 s args fk_gd (fk_cn me.1) := ⟨C.1, C.2.1, C.2.2.1, C.2.2.2.1, C.2.2.2.2.1⟩
  have hrc := va_recv hW.1 hW.2.1 (fk_cl _ i3) he
  by_cases hne : q.1 = 1
  · exact fk_back hL hS a1 a2 g1 g2 (va_runVN (As := as.map (fk_z b b0)) (C := fk_cn q.2.2.1.1) S hM ⟨va_cnB q.2.2.2 C.2.2.2.2.1 (fk_wd_good c1) rfl rfl rfl (C.2.2.2.2.2.2.2.2.1.1.1 _ (l1 hne) rfl) (C.2.2.2.2.1 _ (fk_gd_of c2 rfl)) ⟨c5, c6, c7⟩ R1, C.2.2.2.2.1 _ (fk_gd_of i1 rfl), by rw [← c3]; exact C.2.2.2.2.1 _ (fk_gd_of i2 rfl)⟩ ⟨fk_blind, hrc, hpre⟩ rfl (by rw [List.length_map]; exact hn) hL.2.1.1 rfl (lv_room (fk_catz r hr)) hd R2) k
  · exact fk_back hL hS a1 a2 g1 g2 (va_runV (As := as.map (fk_z b b0)) (C := fk_cn q.2.2.1.1) S hM (cwV q.2.2.2 C.2.2.2.2.1 (goodIn_app (goodIn_sub (fun w hw => by
        rcases List.mem_cons.mp hw with rfl | hw
        · exact fk_gd_of (l2 hne) rfl
        rcases List.mem_cons.mp hw with rfl | hw
        · exact fk_gd_of i1 rfl
        rcases List.mem_cons.mp hw with rfl | hw
        · rw [← c3]; exact fk_gd_of i2 rfl
        rcases List.mem_cons.mp hw with rfl | hw
        · rw [← c3]; exact fk_gd_of c2 rfl
        · cases hw) rfl) (fk_wd_good c1)) rfl rfl rfl ⟨c3, c5, c6, c7⟩ R1) ⟨fk_blind, hrc, hpre⟩ rfl (by rw [List.length_map]; exact hn) hL.2.1.1 rfl (lv_room (fk_catz r hr)) hd R2) k
/-- a method of a String constant -/
theorem fk_s_inv8 (C : fk_Cx p R s m args meth c me b b0 (d + 1) n0 z0 hh) {ix x : Nat} {q : Nat × Nat × fk_Me × Nat} {as : List Value} {h1 : fk_H} {r1 : Option Value} (hq : fk_ml me.1 ix = some q) (hk : q.2.1 = 8) (hx : x % 2 = 0) (hx4 : x / 2 < 4) (hn : as.length = q.2.2.2) (hr : 2 * r.length ≤ 8) (hO : fk_Ok l D cA b b0 d q.2.2.1 (.retAddr x :: as) h r1 h1) (m1 : h1.1 ≤ hh.1) (m2 : h1.2.1 ≤ hh.2.1) (hd : decode me.2.2.1 pc = .ok (.invokevirtual ix, 3)) (k : fk_V p l e R s m args below meth c me D cA b b0 n0 z0 rr hh (pc + 3) L (r1.toList ++ r) h1) : fk_V p l e R s m args below meth c me D cA b b0 n0 z0 rr hh pc L (as.reverse ++ .retAddr x :: r) h := fun a1 a2 ls H locs hL hW hS => by
  obtain ⟨⟨⟨c1, c2, c3⟩, ⟨c4, c5, c6, c7⟩, c8, -, -, -, c9⟩, l1, l2⟩ := fk_ml_w hq
  obtain ⟨i1, i2, i3⟩ := c9 hk
  obtain ⟨g1, g2, hM⟩ := hO
  obtain ⟨R1, R2⟩ := fk_rooms C a1 a2 g1 g2 m1 m2 c8
  have hstk : (as.reverse ++ .retAddr x :: r).map (fk_z b b0) = (as.map (fk_z b b0)).reverse ++ .ref (b (x + 1)) :: r.map (fk_z b b0) := by
    rw [List.map_append, List.map_reverse, List.map_cons]
    rfl
  have hpre : ∀ U : State, U.heap = H → s.WarmedH U.vm → fk_Pc D cA b b0 (.retAddr x :: as) h (Value.ref (b (x + 1)) :: as.map (fk_z b b0)).toArray U := fun U hU hWU => by
    refine ⟨rfl, ?_, fk_St_warm hWU (fun a q1 q2 => by rw [hU]; exact hS.2.1 a q1 q2) C.2.2.2.2.2.2.2.2.1⟩
    rw [hU]
    exact fk_Wd_moved hWU.alike hW
  rw [hstk]
  have S : CallFix p m c me.2.2.1 me.2.2.2.1 s args fk_gd (fk_cn me.1) := ⟨C.1, C.2.1, C.2.2.1, C.2.2.2.1, C.2.2.2.2.1⟩
  have hrc := vk_recv C.2.2.2.2.2.2.2.2.1.2.2.1 hx4 hS
  rw [show 2 * (x / 2) + 1 = x + 1 by omega] at hrc
  have hcn : fk_cn q.2.2.1.1 = "java/lang/String" := by rw [i3]; rfl
  rw [← hcn] at hrc
  by_cases hne : q.1 = 1
  · exact fk_back hL hS a1 a2 g1 g2 (va_runVN (As := as.map (fk_z b b0)) (C := fk_cn q.2.2.1.1) S hM ⟨va_cnB q.2.2.2 C.2.2.2.2.1 (fk_wd_good c1) rfl rfl rfl (C.2.2.2.2.2.2.2.2.1.1.1 _ (l1 hne) rfl) (C.2.2.2.2.1 _ (fk_gd_of c2 rfl)) ⟨c5, c6, c7⟩ R1, C.2.2.2.2.1 _ (fk_gd_of i1 rfl), by rw [← c3]; exact C.2.2.2.2.1 _ (fk_gd_of i2 rfl)⟩ ⟨fk_blind, hrc, hpre⟩ rfl (by rw [List.length_map]; exact hn) hL.2.1.1 rfl (lv_room (fk_catz r hr)) hd R2) k
  · exact fk_back hL hS a1 a2 g1 g2 (va_runV (As := as.map (fk_z b b0)) (C := fk_cn q.2.2.1.1) S hM (cwV q.2.2.2 C.2.2.2.2.1 (goodIn_app (goodIn_sub (fun w hw => by
        rcases List.mem_cons.mp hw with rfl | hw
        · exact fk_gd_of (l2 hne) rfl
        rcases List.mem_cons.mp hw with rfl | hw
        · exact fk_gd_of i1 rfl
        rcases List.mem_cons.mp hw with rfl | hw
        · rw [← c3]; exact fk_gd_of i2 rfl
        rcases List.mem_cons.mp hw with rfl | hw
        · rw [← c3]; exact fk_gd_of c2 rfl
        · cases hw) rfl) (fk_wd_good c1)) rfl rfl rfl ⟨c3, c5, c6, c7⟩ R1) ⟨fk_blind, hrc, hpre⟩ rfl (by rw [List.length_map]; exact hn) hL.2.1.1 rfl (lv_room (fk_catz r hr)) hd R2) k
/-- a constructor -/
theorem fk_s_inv4 (C : fk_Cx p R s m args meth c me b b0 (d + 1) n0 z0 hh) {ix x : Nat} {q : Nat × Nat × fk_Me × Nat} {as : List Value} {h1 : fk_H} {r1 : Option Value} (hq : fk_ml me.1 ix = some q) (hk : q.2.1 = 4) (hx : fk_is h x q.2.2.1.1) (hn : as.length = q.2.2.2) (hr : 2 * r.length ≤ 8) (hO : fk_Ok l D cA b b0 d q.2.2.1 (.ref x :: as) h r1 h1) (m1 : h1.1 ≤ hh.1) (m2 : h1.2.1 ≤ hh.2.1) (hd : decode me.2.2.1 pc = .ok (.invokespecial ix, 3)) (k : fk_V p l e R s m args below meth c me D cA b b0 n0 z0 rr hh (pc + 3) L (r1.toList ++ r) h1) : fk_V p l e R s m args below meth c me D cA b b0 n0 z0 rr hh pc L (as.reverse ++ .ref x :: r) h := fun a1 a2 ls H locs hL hW hS => by
  obtain ⟨⟨⟨c1, c2, c3⟩, ⟨c4, c5, c6, c7⟩, c8, -, -, c9, -⟩, l1, l2⟩ := fk_ml_w hq
  obtain ⟨i1, i2, i4, i3⟩ := c9 hk
  obtain ⟨g1, g2, hM⟩ := hO
  obtain ⟨R1, R2⟩ := fk_rooms C a1 a2 g1 g2 m1 m2 c8
  obtain ⟨x1, x2, x3⟩ := hx
  have hstk : (as.reverse ++ .ref x :: r).map (fk_z b b0) = (as.map (fk_z b b0)).reverse ++ .ref (b0 + x) :: r.map (fk_z b b0) := by
    rw [List.map_append, List.map_reverse, List.map_cons]
    show _ ++ Value.ref (fk_ad b b0 x) :: _ = _
    rw [fk_ad_pos x1]
  have hpre : ∀ U : State, U.heap = H → s.WarmedH U.vm → fk_Pc D cA b b0 (.ref x :: as) h (Value.ref (b0 + x) :: as.map (fk_z b b0)).toArray U := fun U hU hWU => by
    refine ⟨?_, ?_, fk_St_warm hWU (fun a q1 q2 => by rw [hU]; exact hS.2.1 a q1 q2) C.2.2.2.2.2.2.2.2.1⟩
    · show _ = (Value.ref (fk_ad b b0 x) :: _).toArray
      rw [fk_ad_pos x1]
    · rw [hU]
      exact fk_Wd_moved hWU.alike hW
  rw [hstk]
  have S : CallFix p m c me.2.2.1 me.2.2.2.1 s args fk_gd (fk_cn me.1) := ⟨C.1, C.2.1, C.2.2.1, C.2.2.2.1, C.2.2.2.2.1⟩
  have hwd : fk_wd q.2.2.1 = Cond.code q.2.2.1.2.1 q.2.2.1.2.2.1 q.2.2.1.2.2.2.1 none :: fk_gd := by
    unfold fk_wd
    rw [i4]
  by_cases hne : q.1 = 1
  · exact fk_back hL hS a1 a2 g1 g2 (va_runIN (As := as.map (fk_z b b0)) S hM ⟨va_cnB q.2.2.2 C.2.2.2.2.1 (fk_wd_good c1) hwd rfl rfl (C.2.2.2.2.2.2.2.2.1.1.1 _ (l1 hne) rfl) (C.2.2.2.2.1 _ (fk_gd_of c2 rfl)) ⟨c5, c6, c7⟩ R1, i2, C.2.2.2.2.1 _ (fk_gd_of i1 rfl)⟩ ⟨fk_blind, hpre⟩ rfl (by rw [List.length_map]; exact hn) hL.2.1.1 rfl (lv_room (fk_catz r hr)) hd R2) k
  · exact fk_back hL hS a1 a2 g1 g2 (va_runI (As := as.map (fk_z b b0)) S hM (cwI q.2.2.2 C.2.2.2.2.1 (fk_wd_good c1) hwd rfl rfl (C.2.2.2.2.1 _ (fk_gd_of c2 rfl)) (C.2.2.2.2.1 _ (fk_gd_of (l2 hne) rfl)) (C.2.2.2.2.1 _ (fk_gd_of i1 rfl)) i2 ⟨c5, c6, c7⟩ R1) ⟨fk_blind, hpre⟩ rfl (by rw [List.length_map]; exact hn) hL.2.1.1 rfl (lv_room (fk_catz r hr)) hd R2) k
/-- a static method -/
theorem fk_s_inv2 (C : fk_Cx p R s m args meth c me b b0 (d + 1) n0 z0 hh) {ix : Nat} {q : Nat × Nat × fk_Me × Nat} {as : List Value} {h1 : fk_H} {r1 : Option Value} (hq : fk_ml me.1 ix = some q) (hk : q.2.1 = 2) (hn : as.length = q.2.2.2) (hr : 2 * r.length ≤ 8) (hO : fk_Ok l D cA b b0 d q.2.2.1 as h r1 h1) (m1 : h1.1 ≤ hh.1) (m2 : h1.2.1 ≤ hh.2.1) (hd : decode me.2.2.1 pc = .ok (.invokestatic ix, 3)) (k : fk_V p l e R s m args below meth c me D cA b b0 n0 z0 rr hh (pc + 3) L (r1.toList ++ r) h1) : fk_V p l e R s m args below meth c me D cA b b0 n0 z0 rr hh pc L (as.reverse ++ r) h := fun a1 a2 ls H locs hL hW hS => by
  obtain ⟨⟨⟨c1, c2, c3⟩, ⟨c4, c5, c6, c7⟩, c8, c9, -⟩, l1, l2⟩ := fk_ml_w hq
  have i1 := c9 hk
  obtain ⟨g1, g2, hM⟩ := hO
  obtain ⟨R1, R2⟩ := fk_rooms C a1 a2 g1 g2 m1 m2 c8
  have hstk : (as.reverse ++ r).map (fk_z b b0) = (as.map (fk_z b b0)).reverse ++ r.map (fk_z b b0) := by
    rw [List.map_append, List.map_reverse]
  have hpre : ∀ U : State, U.heap = H → s.WarmedH U.vm → fk_Pc D cA b b0 as h (as.map (fk_z b b0)).toArray U := fun U hU hWU => by
    refine ⟨rfl, ?_, fk_St_warm hWU (fun a q1 q2 => by rw [hU]; exact hS.2.1 a q1 q2) C.2.2.2.2.2.2.2.2.1⟩
    rw [hU]
    exact fk_Wd_moved hWU.alike hW
  rw [hstk]
  have S : CallFix p m c me.2.2.1 me.2.2.2.1 s args fk_gd (fk_cn me.1) := ⟨C.1, C.2.1, C.2.2.1, C.2.2.2.1, C.2.2.2.2.1⟩
  by_cases hne : q.1 = 1
  · exact fk_back hL hS a1 a2 g1 g2 (va_runSN (As := as.map (fk_z b b0)) S hM ⟨va_cnB q.2.2.2 C.2.2.2.2.1 (fk_wd_good c1) rfl rfl rfl (C.2.2.2.2.2.2.2.2.1.1.1 _ (l1 hne) rfl) (C.2.2.2.2.1 _ (fk_gd_of c2 rfl)) ⟨c5, c6, c7⟩ R1, C.2.2.2.2.1 _ (fk_gd_of i1 rfl), trivial⟩ ⟨fk_blind, hpre⟩ rfl (by rw [List.length_map]; exact hn) hL.2.1.1 rfl (lv_room (fk_catz r hr)) hd R2) k
  · exact fk_back hL hS a1 a2 g1 g2 (va_runS (As := as.map (fk_z b b0)) S hM (va_cwS q.2.2.2 C.2.2.2.2.1 (goodIn_app (goodIn_sub (fun w hw => by
        rcases List.mem_cons.mp hw with rfl | hw
        · exact fk_gd_of (l2 hne) rfl
        rcases List.mem_cons.mp hw with rfl | hw
        · exact fk_gd_of i1 rfl
        rcases List.mem_cons.mp hw with rfl | hw
        · exact fk_gd_of c2 rfl
        · cases hw) rfl) (fk_wd_good c1)) rfl rfl rfl ⟨c5, c6, c7⟩ R1) ⟨fk_blind, hpre⟩ rfl (by rw [List.length_map]; exact hn) hL.2.1.1 rfl (lv_room (fk_catz r hr)) hd R2) k
/-! the end -/
theorem fk_s_ret (C : fk_Cx p R s m args meth c me b b0 d n0 z0 hh) {x : Int32} (ht : me.2.2.2.2.1 = some .int ∨ (me.2.2.2.2.1 = some .boolean ∧ (x = 0 ∨ x = 1)) ∨ (me.2.2.2.2.1 = some .byte ∧ x = 0)) (e1 : rr = some (.int x)) (e2 : hh = h) (hd : decode me.2.2.1 pc = .ok (.ireturn, 1)) : fk_V p l e R s m args below meth c me D cA b b0 n0 z0 rr hh pc L [.int x] h := fun a1 a2 ls H locs hL hW hS => by
  subst e1; subst e2
  have hlocks : meth.locks = false := C.2.2.2.2.2.2.1
  have hq : ∀ t : State, t.heap = H → s.WarmedH t.vm → fk_Qc D cA b b0 (some (.int x)) hh args s (.returned (some (.int x))) t := fun t ht hWt => ⟨rfl, by rw [ht]; exact fk_Wd_moved hWt.alike hW, hS.F ht⟩
  rcases ht with ht | ⟨ht, hx⟩ | ⟨ht, hx⟩
  · exact W.iret C.1 C.2.1 (by rw [C.2.2.2.2.2.1]; exact ht) hq hS.2.2 hd
  · exact W.zret (ty := .boolean) C.1 C.2.1 (by rw [C.2.2.2.2.2.1]; exact ht) (by rcases hx with rfl | rfl <;> decide) hq hS.2.2 hd
  · exact W.zret (ty := .byte) C.1 C.2.1 (by rw [C.2.2.2.2.2.1]; exact ht) (by rw [hx]; decide) hq hS.2.2 hd
theorem fk_s_lret (C : fk_Cx p R s m args meth c me b b0 d n0 z0 hh) {x : Int64} (ht : me.2.2.2.2.1 = some .long) (e1 : rr = some (.long x)) (e2 : hh = h) (hd : decode me.2.2.1 pc = .ok (.lreturn, 1)) : fk_V p l e R s m args below meth c me D cA b b0 n0 z0 rr hh pc L [.long x] h := fun a1 a2 ls H locs hL hW hS => by
  subst e1; subst e2
  have hlocks : meth.locks = false := C.2.2.2.2.2.2.1
  have hq : ∀ t : State, t.heap = H → s.WarmedH t.vm → fk_Qc D cA b b0 (some (.long x)) hh args s (.returned (some (.long x))) t := fun t ht hWt => ⟨rfl, by rw [ht]; exact fk_Wd_moved hWt.alike hW, hS.F ht⟩
  exact W.lret C.1 C.2.1 (by rw [C.2.2.2.2.2.1]; exact ht) hq hS.2.2 hd
theorem fk_s_vret (C : fk_Cx p R s m args meth c me b b0 d n0 z0 hh) (ht : me.2.2.2.2.1 = none) (e1 : rr = none) (e2 : hh = h) (hd : decode me.2.2.1 pc = .ok (.return_, 1)) : fk_V p l e R s m args below meth c me D cA b b0 n0 z0 rr hh pc L [] h := fun a1 a2 ls H locs hL hW hS => by
  subst e1; subst e2
  have hlocks : meth.locks = false := C.2.2.2.2.2.2.1
  have hq : ∀ t : State, t.heap = H → s.WarmedH t.vm → fk_Qc D cA b b0 none hh args s (.returned none) t := fun t ht hWt => ⟨rfl, by rw [ht]; exact fk_Wd_moved hWt.alike hW, hS.F ht⟩
  exact W.vret C.1 C.2.1 (by rw [C.2.2.2.2.2.1]; exact ht) hq hS.2.2 hd
end FKS
