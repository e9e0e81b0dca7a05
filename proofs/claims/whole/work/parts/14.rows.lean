section FKS
variable {p : Program} {l : Launch} {e : Env} {R : Room} {s : State} {m : MethodId} {args : Array Value} {below : List Frame} {meth : Method} {c : Code} {me : fk_Me} {D : va_G} {cA : Nat → ClassId} {b : Nat → Nat} {b0 d n0 z0 : Nat} {rr : Option Value} {hh : fk_H} {pc : Nat} {L st r : List Value} {h : fk_H}
theorem fk_s_iald (C : fk_Cx p R s m args meth c me b b0 d n0 z0 hh) {x : Nat} {i : Int32} (hc : fk_is h x 20) (hi : fk_in i (h.2.2.1 x).2) (hd : decode me.2.2.1 pc = .ok (.iaload, 1)) (k : fk_V p l e R s m args below meth c me D cA b b0 n0 z0 rr hh (pc + 1) L (.int (fk_iv (h.2.2.2 x i.toNatClampNeg)) :: r) h) : fk_V p l e R s m args below meth c me D cA b b0 n0 z0 rr hh pc L (.int i :: .ref x :: r) h := fun a1 a2 ls H locs hL hW hS => by
  obtain ⟨q1, q2, q3⟩ := hc
  have he := fk_ws_at (cA := cA) (b := b) (b0 := b0) q1 q2
  rw [fk_e_int q3 (Or.inl rfl)] at he
  show W p l e R s m args below meth c H locs _ _ _ (F0 m pc ls (.int i :: .ref (fk_ad b b0 x) :: r.map (fk_z b b0)))
  rw [fk_ad_pos q1]
  exact va_iald C.1 C.2.1 hW.1 hW.2.1 (x - 1) 0 he rfl hi hd (k a1 a2 ls H locs hL hW hS)
theorem fk_X0 (C : fk_Cx p R s m args meth c me b b0 d n0 z0 hh) {H : Heap} {locs : List Loc} (hW : fk_Wd D cA b b0 h s H) (hS : va_S (fun q => b0 < q) s.heap H locs) : va_X (b 0) (h.2.2.1 0).2 (fun j => fk_iv (h.2.2.2 0 j)) s s.heap ∧ b 0 < s.heap.size ∧ ¬ b0 < b 0 := by
  have hs0 := C.2.2.2.2.2.2.2.2.2.2.1
  have hn0 := C.2.2.2.2.2.2.2.2.2.2.2
  obtain ⟨w1, w2, w3, w4, w5, w6⟩ := hW
  refine ⟨w6.kept (hS.2.1 (b 0) (by omega) (by omega)).symm, by omega, by omega⟩
theorem fk_s_sld (C : fk_Cx p R s m args meth c me b b0 d n0 z0 hh) {i : Int32} (hi : fk_in i (h.2.2.1 0).2) (hd : decode me.2.2.1 pc = .ok (.iaload, 1)) (k : fk_V p l e R s m args below meth c me D cA b b0 n0 z0 rr hh (pc + 1) L (.int (fk_iv (h.2.2.2 0 i.toNatClampNeg)) :: r) h) : fk_V p l e R s m args below meth c me D cA b b0 n0 z0 rr hh pc L (.int i :: .ref 0 :: r) h := fun a1 a2 ls H locs hL hW hS => by
  obtain ⟨g1, g2, g3⟩ := fk_X0 C hW hS
  exact va_sld C.1 C.2.1 g1 g2 g3 hS hi hd (k a1 a2 ls H locs hL hW hS)
theorem fk_s_slen (C : fk_Cx p R s m args meth c me b b0 d n0 z0 hh) (hd : decode me.2.2.1 pc = .ok (.arraylength, 1)) (k : fk_V p l e R s m args below meth c me D cA b b0 n0 z0 rr hh (pc + 1) L (.int (Int32.ofNat (h.2.2.1 0).2) :: r) h) : fk_V p l e R s m args below meth c me D cA b b0 n0 z0 rr hh pc L (.ref 0 :: r) h := fun a1 a2 ls H locs hL hW hS => by
  obtain ⟨g1, g2, g3⟩ := fk_X0 C hW hS
  exact va_slen C.1 C.2.1 g1 g2 g3 hS hd (k a1 a2 ls H locs hL hW hS)
theorem fk_s_alen (C : fk_Cx p R s m args meth c me b b0 d n0 z0 hh) {x : Nat} (hc : fk_is h x 20) (hd : decode me.2.2.1 pc = .ok (.arraylength, 1)) (k : fk_V p l e R s m args below meth c me D cA b b0 n0 z0 rr hh (pc + 1) L (.int (Int32.ofNat (h.2.2.1 x).2) :: r) h) : fk_V p l e R s m args below meth c me D cA b b0 n0 z0 rr hh pc L (.ref x :: r) h := fun a1 a2 ls H locs hL hW hS => by
  obtain ⟨q1, q2, q3⟩ := hc
  have he := fk_ws_at (cA := cA) (b := b) (b0 := b0) q1 q2
  rw [fk_e_int q3 (Or.inl rfl)] at he
  show W p l e R s m args below meth c H locs _ _ _ (F0 m pc ls (.ref (fk_ad b b0 x) :: r.map (fk_z b b0)))
  rw [fk_ad_pos q1]
  exact va_alen C.1 C.2.1 hW.1 hW.2.1 (x - 1) 0 he (ty := .int) rfl rfl hd (k a1 a2 ls H locs hL hW hS)
theorem fk_s_bald (C : fk_Cx p R s m args meth c me b b0 d n0 z0 hh) {x : Nat} {i : Int32} (hc : fk_is h x 21 ∨ fk_is h x 22) (hi : fk_in i (h.2.2.1 x).2) (hd : decode me.2.2.1 pc = .ok (.baload, 1)) (k : fk_V p l e R s m args below meth c me D cA b b0 n0 z0 rr hh (pc + 1) L (.int (fk_iv (h.2.2.2 x i.toNatClampNeg)) :: r) h) : fk_V p l e R s m args below meth c me D cA b b0 n0 z0 rr hh pc L (.int i :: .ref x :: r) h := fun a1 a2 ls H locs hL hW hS => by
  show W p l e R s m args below meth c H locs _ _ _ (F0 m pc ls (.int i :: .ref (fk_ad b b0 x) :: r.map (fk_z b b0)))
  rcases hc with ⟨q1, q2, q3⟩ | ⟨q1, q2, q3⟩
  · have he := fk_ws_at (cA := cA) (b := b) (b0 := b0) q1 q2
    rw [fk_e_int q3 (Or.inr (Or.inl rfl))] at he
    rw [fk_ad_pos q1]
    exact va_bald C.1 C.2.1 hW.1 hW.2.1 (x - 1) 1 he rfl hi hd (k a1 a2 ls H locs hL hW hS)
  · have he := fk_ws_at (cA := cA) (b := b) (b0 := b0) q1 q2
    rw [fk_e_int q3 (Or.inr (Or.inr rfl))] at he
    rw [fk_ad_pos q1]
    exact va_zald C.1 C.2.1 hW.1 hW.2.1 (x - 1) 2 he rfl hi hd (k a1 a2 ls H locs hL hW hS)
theorem fk_s_lald (C : fk_Cx p R s m args meth c me b b0 d n0 z0 hh) {x : Nat} {i : Int32} (hc : fk_is h x 23) (hi : fk_in i (h.2.2.1 x).2) (hd : decode me.2.2.1 pc = .ok (.laload, 1)) (k : fk_V p l e R s m args below meth c me D cA b b0 n0 z0 rr hh (pc + 1) L (.long (fk_lv (h.2.2.2 x i.toNatClampNeg)) :: r) h) : fk_V p l e R s m args below meth c me D cA b b0 n0 z0 rr hh pc L (.int i :: .ref x :: r) h := fun a1 a2 ls H locs hL hW hS => by
  obtain ⟨q1, q2, q3⟩ := hc
  have he := fk_ws_at (cA := cA) (b := b) (b0 := b0) q1 q2
  rw [fk_e_long q3] at he
  show W p l e R s m args below meth c H locs _ _ _ (F0 m pc ls (.int i :: .ref (fk_ad b b0 x) :: r.map (fk_z b b0)))
  rw [fk_ad_pos q1]
  exact va_lald C.1 C.2.1 hW.1 hW.2.1 (x - 1) 3 he rfl hi hd (k a1 a2 ls H locs hL hW hS)
theorem fk_s_aald (C : fk_Cx p R s m args meth c me b b0 d n0 z0 hh) {x v : Nat} {i : Int32} (hc : fk_is h x 24) (hi : fk_in i (h.2.2.1 x).2) (hv : h.2.2.2 x i.toNatClampNeg = .ref v) (hd : decode me.2.2.1 pc = .ok (.aaload, 1)) (k : fk_V p l e R s m args below meth c me D cA b b0 n0 z0 rr hh (pc + 1) L (.ref v :: r) h) : fk_V p l e R s m args below meth c me D cA b b0 n0 z0 rr hh pc L (.int i :: .ref x :: r) h := fun a1 a2 ls H locs hL hW hS => by
  obtain ⟨q1, q2, q3⟩ := hc
  have he := fk_ws_at (cA := cA) (b := b) (b0 := b0) q1 q2
  rw [fk_e_ref q3] at he
  show W p l e R s m args below meth c H locs _ _ _ (F0 m pc ls (.int i :: .ref (fk_ad b b0 x) :: r.map (fk_z b b0)))
  rw [fk_ad_pos q1]
  refine va_aldq (C := "ForkTown$Half") C.1 C.2.1 hW.1 hW.2.1 (x - 1) 4 he rfl hi hd ?_
  rw [hv]
  exact k a1 a2 ls H locs hL hW hS
/-! stores -/
theorem fk_set_i {x ci j : Nat} {v : Int32} (q1 : 0 < x) (q2 : x < h.1) (q3 : (h.2.2.1 x).1 = ci) (hc : ci = 20 ∨ ci = 21 ∨ ci = 22) : (fk_ws cA b b0 h).set (x - 1) (b0 + x, .inl (cA ci, (h.2.2.1 x).2, .inl (upd (fun i => fk_iv (h.2.2.2 x i)) j v))) = fk_ws cA b b0 (fk_put h x j (.int v)) := by
  refine fk_ws_set q1 q2 rfl ?_ (fun y hy => fk_e_cg rfl (fk_put_o _ _ hy))
  rw [fk_e_int (ci := ci) (by rw [fk_put_k]; exact q3) hc, fk_put_c, fk_put_k]
  congr 4
  funext i
  by_cases hi : i = j
  · simp [va_up, upd, hi, fk_iv]
  · simp [va_up, upd, hi]
theorem fk_s_iast (C : fk_Cx p R s m args meth c me b b0 d n0 z0 hh) {x : Nat} {i v : Int32} (hc : fk_is h x 20) (hi : fk_in i (h.2.2.1 x).2) (hd : decode me.2.2.1 pc = .ok (.iastore, 1)) (k : fk_V p l e R s m args below meth c me D cA b b0 n0 z0 rr hh (pc + 1) L r (fk_put h x i.toNatClampNeg (.int v))) : fk_V p l e R s m args below meth c me D cA b b0 n0 z0 rr hh pc L (.int v :: .int i :: .ref x :: r) h := fun a1 a2 ls H locs hL hW hS => by
  obtain ⟨q1, q2, q3⟩ := hc
  have he := fk_ws_at (cA := cA) (b := b) (b0 := b0) q1 q2
  rw [fk_e_int q3 (Or.inl rfl)] at he
  show W p l e R s m args below meth c H locs _ _ _ (F0 m pc ls (.int v :: .int i :: .ref (fk_ad b b0 x) :: r.map (fk_z b b0)))
  rw [fk_ad_pos q1]
  refine va_iast C.1 C.2.1 hW.1 hW.2.1 fk_ws_D hS (x - 1) 0 he rfl hi hd (fun H1 locs1 hP1 _ hS1 => ?_)
  rw [fk_set_i q1 q2 q3 (Or.inl rfl)] at hP1
  exact fk_upd (h' := fk_put h x i.toNatClampNeg (.int v)) C hL hW hS a1 a2 (by omega) rfl rfl rfl (fk_put_o _ _ (by omega)) hP1 hS1 k
theorem fk_s_bast (C : fk_Cx p R s m args meth c me b b0 d n0 z0 hh) {x : Nat} {i v : Int32} (hc : fk_is h x 21 ∨ fk_is h x 22) (hi : fk_in i (h.2.2.1 x).2) (hd : decode me.2.2.1 pc = .ok (.bastore, 1)) (k : fk_V p l e R s m args below meth c me D cA b b0 n0 z0 rr hh (pc + 1) L r (fk_put h x i.toNatClampNeg (.int (vp_nar (if (h.2.2.1 x).1 = 21 then .byte else .boolean) v)))) : fk_V p l e R s m args below meth c me D cA b b0 n0 z0 rr hh pc L (.int v :: .int i :: .ref x :: r) h := fun a1 a2 ls H locs hL hW hS => by
  show W p l e R s m args below meth c H locs _ _ _ (F0 m pc ls (.int v :: .int i :: .ref (fk_ad b b0 x) :: r.map (fk_z b b0)))
  rcases hc with ⟨q1, q2, q3⟩ | ⟨q1, q2, q3⟩
  · have he := fk_ws_at (cA := cA) (b := b) (b0 := b0) q1 q2
    rw [fk_e_int q3 (Or.inr (Or.inl rfl))] at he
    rw [fk_ad_pos q1]
    rw [if_pos q3] at k
    refine va_bast C.1 C.2.1 hW.1 hW.2.1 fk_ws_D hS (x - 1) 1 he rfl hi hd (fun H1 locs1 hP1 _ hS1 => ?_)
    rw [fk_set_i q1 q2 q3 (Or.inr (Or.inl rfl))] at hP1
    exact fk_upd (h' := fk_put h x i.toNatClampNeg (.int (vp_nar .byte v))) C hL hW hS a1 a2 (by omega) rfl rfl rfl (fk_put_o _ _ (by omega)) hP1 hS1 k
  · have he := fk_ws_at (cA := cA) (b := b) (b0 := b0) q1 q2
    rw [fk_e_int q3 (Or.inr (Or.inr rfl))] at he
    rw [fk_ad_pos q1]
    rw [if_neg (by omega)] at k
    refine va_zast C.1 C.2.1 hW.1 hW.2.1 fk_ws_D hS (x - 1) 2 he rfl hi hd (fun H1 locs1 hP1 _ hS1 => ?_)
    rw [fk_set_i q1 q2 q3 (Or.inr (Or.inr rfl))] at hP1
    exact fk_upd (h' := fk_put h x i.toNatClampNeg (.int (vp_nar .boolean v))) C hL hW hS a1 a2 (by omega) rfl rfl rfl (fk_put_o _ _ (by omega)) hP1 hS1 k
theorem fk_s_last (C : fk_Cx p R s m args meth c me b b0 d n0 z0 hh) {x : Nat} {i : Int32} {v : Int64} (hc : fk_is h x 23) (hi : fk_in i (h.2.2.1 x).2) (hd : decode me.2.2.1 pc = .ok (.lastore, 1)) (k : fk_V p l e R s m args below meth c me D cA b b0 n0 z0 rr hh (pc + 1) L r (fk_put h x i.toNatClampNeg (.long v))) : fk_V p l e R s m args below meth c me D cA b b0 n0 z0 rr hh pc L (.long v :: .int i :: .ref x :: r) h := fun a1 a2 ls H locs hL hW hS => by
  obtain ⟨q1, q2, q3⟩ := hc
  have he := fk_ws_at (cA := cA) (b := b) (b0 := b0) q1 q2
  rw [fk_e_long q3] at he
  show W p l e R s m args below meth c H locs _ _ _ (F0 m pc ls (.long v :: .int i :: .ref (fk_ad b b0 x) :: r.map (fk_z b b0)))
  rw [fk_ad_pos q1]
  refine va_last C.1 C.2.1 hW.1 hW.2.1 fk_ws_D hS (x - 1) 3 he rfl hi hd (fun H1 locs1 hP1 _ hS1 => ?_)
  have hset : (fk_ws cA b b0 h).set (x - 1) (b0 + x, .inl (cA 23, (h.2.2.1 x).2, .inr (.inl (vp_updL (fun i => fk_lv (h.2.2.2 x i)) i.toNatClampNeg v)))) = fk_ws cA b b0 (fk_put h x i.toNatClampNeg (.long v)) := by
    refine fk_ws_set q1 q2 rfl ?_ (fun y hy => fk_e_cg rfl (fk_put_o _ _ hy))
    rw [fk_e_long (by rw [fk_put_k]; exact q3), fk_put_c, fk_put_k]
    congr 5
    funext j
    by_cases hj : j = i.toNatClampNeg
    · simp [va_up, vp_updL, hj, fk_lv]
    · simp [va_up, vp_updL, hj]
  rw [hset] at hP1
  exact fk_upd (h' := fk_put h x i.toNatClampNeg (.long v)) C hL hW hS a1 a2 (by omega) rfl rfl rfl (fk_put_o _ _ (by omega)) hP1 hS1 k
theorem fk_s_aast (C : fk_Cx p R s m args meth c me b b0 d n0 z0 hh) {x v : Nat} {i : Int32} (hc : fk_is h x 24) (hv : fk_is h v 0) (hi : fk_in i (h.2.2.1 x).2) (hd : decode me.2.2.1 pc = .ok (.aastore, 1)) (k : fk_V p l e R s m args below meth c me D cA b b0 n0 z0 rr hh (pc + 1) L r (fk_put h x i.toNatClampNeg (.ref v))) : fk_V p l e R s m args below meth c me D cA b b0 n0 z0 rr hh pc L (.ref v :: .int i :: .ref x :: r) h := fun a1 a2 ls H locs hL hW hS => by
  obtain ⟨q1, q2, q3⟩ := hc
  obtain ⟨v1, v2, v3⟩ := hv
  have he := fk_ws_at (cA := cA) (b := b) (b0 := b0) q1 q2
  rw [fk_e_ref q3] at he
  have hev := fk_ws_at (cA := cA) (b := b) (b0 := b0) v1 v2
  rw [fk_e_obj v3 (by omega)] at hev
  show W p l e R s m args below meth c H locs _ _ _ (F0 m pc ls (.ref (fk_ad b b0 v) :: .int i :: .ref (fk_ad b b0 x) :: r.map (fk_z b b0)))
  rw [fk_ad_pos q1, fk_ad_pos v1]
  refine va_astq C.1 C.2.1 hW.1 hW.2.1 fk_ws_D hS (x - 1) 4 (v - 1) 0 he rfl hev (fk_cl 0 (by omega)) hi hd (fun H1 locs1 hP1 _ hS1 => ?_)
  have hset : (fk_ws cA b b0 h).set (x - 1) (b0 + x, .inl (cA 24, (h.2.2.1 x).2, .inr (.inr (.inr (.inr (va_up (fun i => fk_ro b b0 (h.2.2.2 x i)) i.toNatClampNeg (some (b0 + v)))))))) = fk_ws cA b b0 (fk_put h x i.toNatClampNeg (.ref v)) := by
    refine fk_ws_set q1 q2 rfl ?_ (fun y hy => fk_e_cg rfl (fk_put_o _ _ hy))
    rw [fk_e_ref (by rw [fk_put_k]; exact q3), fk_put_c, fk_put_k]
    congr 8
    funext j
    by_cases hj : j = i.toNatClampNeg
    · simp [va_up, hj, fk_ro, fk_ad_pos v1]
    · simp [va_up, hj]
  rw [hset] at hP1
  exact fk_upd (h' := fk_put h x i.toNatClampNeg (.ref v)) C hL hW hS a1 a2 (by omega) rfl rfl rfl (fk_put_o _ _ (by omega)) hP1 hS1 k
/-! what the JDK does -/
theorem fk_cats (l : List Value) : (l.map fun v => v.category).sum ≤ 2 * l.length := by
  induction l with
  | nil => exact Nat.le_refl _
  | cons v r ih =>
    rw [List.map_cons, List.sum_cons, List.length_cons]
    have : v.category ≤ 2 := by rcases lv_cat v with q | q <;> omega
    omega
theorem fk_catz (r : List Value) (hr : 2 * r.length ≤ 8) : ((r.map (fk_z b b0)).map fun v => v.category).sum ≤ 8 := by
  have := fk_cats (r.map (fk_z b b0))
  rw [List.length_map] at this
  omega
theorem fk_pl_w {a ix k : Nat} (hk : fk_pl a ix = some k) : ∀ w ∈ fk_pw (fk_cn a) ix k, w ∈ lw_tbl := by
  obtain ⟨z, hz⟩ := fk_lk_mem hk
  exact fk_pT_ok _ hz
theorem fk_s_oi (C : fk_Cx p R s m args meth c me b b0 d n0 z0 hh) {ix x : Nat} (hk : fk_pl me.1 ix = some 6) (hr : 2 * r.length ≤ 8) (hd : decode me.2.2.1 pc = .ok (.invokespecial ix, 3)) (k : fk_V p l e R s m args below meth c me D cA b b0 n0 z0 rr hh (pc + 3) L r h) : fk_V p l e R s m args below meth c me D cA b b0 n0 z0 rr hh pc L (.ref x :: r) h := fun a1 a2 ls H locs hL hW hS => by
  have hw := fk_pl_w hk
  have hR := C.2.2.2.2.2.2.2.2.2.1
  have hc := fk_catz (b := b) (b0 := b0) r hr
  refine W.objInit C.1 C.2.1 C.2.2.2.1 (C.2.2.2.2.1 _ (fk_gd_of (hw _ (List.mem_of_getElem? (i := 0) rfl)) rfl)) (C.2.2.2.2.1 _ (fk_gd_of (hw _ (List.mem_of_getElem? (i := 1) rfl)) rfl)) (C.2.2.2.2.1 _ (fk_gd_of (hw _ (List.mem_of_getElem? (i := 2) rfl)) rfl)) rfl (by rw [C.2.2.1]; exact hL.2.1.1) rfl hd (by rw [hR]; show 1 ≤ d + 1; omega) (by rw [hR]; show 2 * 0 + _ + 12 ≤ 40 * (d + 1); omega) ?_
  exact k a1 a2 ls H locs hL hW hS
theorem fk_s_max (C : fk_Cx p R s m args meth c me b b0 d n0 z0 hh) {ix : Nat} {x y : Int32} (hm : h.1 ≤ hh.1 ∧ h.2.1 ≤ hh.2.1) (hk : fk_pl me.1 ix = some 7) (hr : 2 * r.length ≤ 8) (hd : decode me.2.2.1 pc = .ok (.invokestatic ix, 3)) (k : fk_V p l e R s m args below meth c me D cA b b0 n0 z0 rr hh (pc + 3) L (.int (if x < y then y else x) :: r) h) : fk_V p l e R s m args below meth c me D cA b b0 n0 z0 rr hh pc L (.int y :: .int x :: r) h := fun a1 a2 ls H locs hL hW hS => by
  have hw := fk_pl_w hk
  have hR := C.2.2.2.2.2.2.2.2.2.1
  have hc := fk_catz (b := b) (b0 := b0) r hr
  exact va_mmax C.1 C.2.1 (by rw [C.2.2.1]; exact hL.2.1.1.symm) C.2.2.2.1 (C.2.2.2.2.1 _ (fk_gd_of (hw _ (List.mem_of_getElem? (i := 0) rfl)) rfl)) (C.2.2.2.2.1 _ (fk_gd_of (hw _ (List.mem_of_getElem? (i := 1) rfl)) rfl)) (C.2.2.2.2.1 _ (fk_gd_of (hw _ (List.mem_of_getElem? (i := 2) rfl)) rfl)) (C.2.2.2.2.1 _ (fk_gd_of (hw _ (List.mem_of_getElem? (i := 3) rfl)) rfl)) (by rw [hR]; show 1 ≤ d + 1; omega) (by rw [hR]; show _ + 13 ≤ 40 * (d + 1); omega) (by rw [hR]; show h.1 - n0 ≤ hh.1 - n0; omega) (by rw [hR]; show h.2.1 - z0 ≤ hh.2.1 - z0; omega) hd (k a1 a2 ls H locs hL hW hS)
theorem fk_s_min (C : fk_Cx p R s m args meth c me b b0 d n0 z0 hh) {ix : Nat} {x y : Int32} (hm : h.1 ≤ hh.1 ∧ h.2.1 ≤ hh.2.1) (hk : fk_pl me.1 ix = some 8) (hr : 2 * r.length ≤ 8) (hd : decode me.2.2.1 pc = .ok (.invokestatic ix, 3)) (k : fk_V p l e R s m args below meth c me D cA b b0 n0 z0 rr hh (pc + 3) L (.int (if y < x then y else x) :: r) h) : fk_V p l e R s m args below meth c me D cA b b0 n0 z0 rr hh pc L (.int y :: .int x :: r) h := fun a1 a2 ls H locs hL hW hS => by
  have hw := fk_pl_w hk
  have hR := C.2.2.2.2.2.2.2.2.2.1
  have hc := fk_catz (b := b) (b0 := b0) r hr
  exact va_mmin C.1 C.2.1 (by rw [C.2.2.1]; exact hL.2.1.1.symm) C.2.2.2.1 (C.2.2.2.2.1 _ (fk_gd_of (hw _ (List.mem_of_getElem? (i := 0) rfl)) rfl)) (C.2.2.2.2.1 _ (fk_gd_of (hw _ (List.mem_of_getElem? (i := 1) rfl)) rfl)) (C.2.2.2.2.1 _ (fk_gd_of (hw _ (List.mem_of_getElem? (i := 2) rfl)) rfl)) (C.2.2.2.2.1 _ (fk_gd_of (hw _ (List.mem_of_getElem? (i := 3) rfl)) rfl)) (by rw [hR]; show 1 ≤ d + 1; omega) (by rw [hR]; show _ + 13 ≤ 40 * (d + 1); omega) (by rw [hR]; show h.1 - n0 ≤ hh.1 - n0; omega) (by rw [hR]; show h.2.1 - z0 ≤ hh.2.1 - z0; omega) hd (k a1 a2 ls H locs hL hW hS)
theorem fk_s_copy (C : fk_Cx p R s m args meth c me b b0 d n0 z0 hh) {ix a a0 : Nat} {n dp sp : Int32} (hk : fk_pl me.1 ix = some 9) (hr : 2 * r.length ≤ 8) (ha : fk_is h a 20) (ha0 : fk_is h a0 20) (h1 : ¬ sp < 0) (h2 : ¬ dp < 0) (h3 : ¬ n < 0) (h4 : sp.toNatClampNeg + n.toNatClampNeg ≤ (h.2.2.1 a0).2) (h5 : dp.toNatClampNeg + n.toNatClampNeg ≤ (h.2.2.1 a).2) (hd : decode me.2.2.1 pc = .ok (.invokestatic ix, 3)) (k : fk_V p l e R s m args below meth c me D cA b b0 n0 z0 rr hh (pc + 3) L r (fk_cpy h a0 sp.toNatClampNeg a dp.toNatClampNeg n.toNatClampNeg)) : fk_V p l e R s m args below meth c me D cA b b0 n0 z0 rr hh pc L (.int n :: .int dp :: .ref a :: .int sp :: .ref a0 :: r) h := fun a1 a2 ls H locs hL hW hS => by
  have hw := fk_pl_w hk
  have hR := C.2.2.2.2.2.2.2.2.2.1
  have hc := fk_catz (b := b) (b0 := b0) r hr
  obtain ⟨q1, q2, q3⟩ := ha
  obtain ⟨v1, v2, v3⟩ := ha0
  have he := fk_ws_at (cA := cA) (b := b) (b0 := b0) q1 q2
  rw [fk_e_int q3 (Or.inl rfl)] at he
  have hev := fk_ws_at (cA := cA) (b := b) (b0 := b0) v1 v2
  rw [fk_e_int v3 (Or.inl rfl)] at hev
  show W p l e R s m args below meth c H locs _ _ _ (F0 m pc ls (.int n :: .int dp :: .ref (fk_ad b b0 a) :: .int sp :: .ref (fk_ad b b0 a0) :: r.map (fk_z b b0)))
  rw [fk_ad_pos q1, fk_ad_pos v1]
  refine va_copyi C.1 C.2.1 (by rw [C.2.2.1]; exact hL.2.1.1.symm) C.2.2.2.1 (C.2.2.2.2.1 _ (fk_gd_of (hw _ (List.mem_of_getElem? (i := 0) rfl)) rfl)) (C.2.2.2.2.1 _ (fk_gd_of (hw _ (List.mem_of_getElem? (i := 1) rfl)) rfl)) (C.2.2.2.2.1 _ (fk_gd_of (hw _ (List.mem_of_getElem? (i := 2) rfl)) rfl)) (C.2.2.2.2.1 _ (fk_gd_of (hw _ (List.mem_of_getElem? (i := 3) rfl)) rfl)) hW.1 hW.2.1 fk_ws_D hS (a0 - 1) (a - 1) 0 0 hev he rfl rfl rfl h1 h2 h3 h4 h5 (fun _ _ => rfl) (by rw [hR]; show 1 ≤ d + 1; omega) (by rw [hR]; show _ + (7 + 11) ≤ 40 * (d + 1); omega) hd (fun H1 locs1 hP1 _ hS1 => ?_)
  have hset : (fk_ws cA b b0 h).set (a - 1) (b0 + a, .inl (cA 20, (h.2.2.1 a).2, .inl (va_cpy (fun i => fk_iv (h.2.2.2 a0 i)) (fun i => fk_iv (h.2.2.2 a i)) sp.toNatClampNeg dp.toNatClampNeg n.toNatClampNeg))) = fk_ws cA b b0 (fk_cpy h a0 sp.toNatClampNeg a dp.toNatClampNeg n.toNatClampNeg) := by
    refine fk_ws_set q1 q2 rfl ?_ (fun y hy => fk_e_cg rfl ?_)
    · refine (fk_e_int (h := fk_cpy h a0 sp.toNatClampNeg a dp.toNatClampNeg n.toNatClampNeg) (ci := 20) q3 (Or.inl rfl)).trans ?_
      show Sum.inl (cA 20, (h.2.2.1 a).2, Sum.inl (fun j => fk_iv (va_up h.2.2.2 a (va_cpy (h.2.2.2 a0) (h.2.2.2 a) sp.toNatClampNeg dp.toNatClampNeg n.toNatClampNeg) a j))) = _
      congr 4
      funext j
      simp only [va_up, if_true, va_cpy]
      split <;> rfl
    · show va_up h.2.2.2 a _ y = _
      simp [va_up, hy]
  rw [hset] at hP1
  exact fk_upd (h' := fk_cpy h a0 sp.toNatClampNeg a dp.toNatClampNeg n.toNatClampNeg) C hL hW hS a1 a2 (by omega) rfl rfl rfl (by show va_up h.2.2.2 a _ 0 = _; simp [va_up, show ¬ (0 : Nat) = a by omega]) hP1 hS1 k
end FKS
