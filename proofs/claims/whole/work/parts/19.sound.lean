section FKS
variable {p : Program} {l : Launch} {e : Env} {R : Room} {s : State} {m : MethodId} {args : Array Value} {below : List Frame} {meth : Method} {c : Code} {me : fk_Me} {D : va_G} {cA : Nat → ClassId} {b : Nat → Nat} {b0 d n0 z0 : Nat} {rr : Option Value} {hh : fk_H}
/-- a method's body, its callees being known -/
theorem fk_body (C : fk_Cx p R s m args meth c me b b0 d n0 z0 hh) (IH : ∀ d', d = d' + 1 → ∀ (q : fk_Me) (as : List Value) (h : fk_H) (r1 : Option Value) (h1 : fk_H) (n : Nat), fk_qG q → as.all fk_arg = true → as.length ≤ q.2.2.2.1 → fk_run n d' q 0 (fk_loc q as) [] h = some (r1, h1) → fk_Ok l D cA b b0 d' q as h r1 h1) : ∀ (n pc : Nat) (L st : List Value) (h : fk_H), fk_run n d me pc L st h = some (rr, hh) → fk_V p l e R s m args below meth c me D cA b b0 n0 z0 rr hh pc L st h := by
  intro n
  induction n with
  | zero => intro pc L st h ho; cases ho
  | succ n ih =>
    intro pc L st h ho
    have hm := fk_mono _ _ _ _ _ _ _ _ ho
    unfold fk_run at ho
    split at ho
    next x hx =>
      obtain ⟨i, len, hd, hl, h3⟩ := fk_step_s hx
      have m2 := fk_mono _ _ _ _ _ _ _ _ ho
      exact fk_disp C hd hl h3 hm ⟨m2.1, m2.2, ih _ _ _ _ ho⟩
    next x hx =>
      obtain ⟨i, len, hd, hl, h3⟩ := fk_step_s hx
      cases ho
      exact fk_disp C hd hl h3 hm rfl
    next q hx =>
      obtain ⟨i, len, hd, hl, h3⟩ := fk_step_s hx
      cases d with
      | zero => cases ho
      | succ d' =>
        dsimp only at ho
        split at ho
        next o1 ho1 =>
          have m2 := fk_mono _ _ _ _ _ _ _ _ ho
          exact fk_disp C hd hl h3 hm (fun g1 g2 g3 => ⟨d', o1.1, o1.2, rfl, IH d' rfl _ _ _ _ _ n g1 g2 g3 ho1, m2.1, m2.2, ih _ _ _ _ ho⟩)
        next => cases ho
    next => cases ho
theorem fk_args_in {i : Nat} : ∀ (vs : List Value) (i j : Nat) (v : Value), (∀ w ∈ vs, w.category = 1) → vs[j]? = some v → (i + j, v) ∈ lv_args i vs := by
  intro vs
  induction vs with
  | nil => intro i j v _ h; cases h
  | cons w r ih =>
    intro i j v hc hj
    unfold lv_args
    rw [if_neg (by rw [hc w List.mem_cons_self]; decide)]
    cases j with
    | zero =>
      cases hj
      exact List.mem_cons_self
    | succ j =>
      refine List.mem_cons_of_mem _ ?_
      have := ih (i + 1) j v (fun u hu => hc u (List.mem_cons_of_mem _ hu)) hj
      rw [show i + (j + 1) = i + 1 + j by omega]
      exact this
theorem fk_sl_len (vs : List Value) (hc : ∀ w ∈ vs, w.category = 1) : (lg_sl vs).length = vs.length := by
  induction vs with
  | nil => rfl
  | cons w r ih =>
    unfold lg_sl
    rw [List.flatMap_cons, if_neg (by rw [hc w List.mem_cons_self]; decide), List.length_append]
    have := ih (fun u hu => hc u (List.mem_cons_of_mem _ hu))
    unfold lg_sl at this
    rw [this]
    simp [Nat.add_comm]
theorem fk_entry {as : List Value} (ha : as.all fk_arg = true) (hn : as.length ≤ me.2.2.2.1) : fk_L b b0 me ((lg_sl (as.map (fk_z b b0)) ++ List.replicate (me.2.2.2.1 - (lg_sl (as.map (fk_z b b0))).length) Slot.unset).toArray) (fk_loc me as) := by
  have hc : ∀ w ∈ as.map (fk_z b b0), w.category = 1 := by
    intro w hw
    obtain ⟨v, hv, rfl⟩ := List.mem_map.mp hw
    rw [fk_z_cat]
    exact fk_arg_cat (List.all_eq_true.mp ha v hv)
  have hl := fk_sl_len _ hc
  rw [List.length_map] at hl
  have hh := lv_entry (as.map (fk_z b b0)) (n := me.2.2.2.1) (by omega)
  have hlen : (fk_loc me as).length = me.2.2.2.1 := by
    unfold fk_loc
    rw [List.length_append, List.length_replicate]
    omega
  have hin : ∀ (i : Nat) (v : Value), (fk_loc me as)[i]? = some v → v ≠ .null → as[i]? = some v := by
    intro i v hv hn
    unfold fk_loc at hv
    by_cases hi : i < as.length
    · rw [List.getElem?_append_left hi] at hv
      exact hv
    · rw [List.getElem?_append_right (by omega)] at hv
      exact absurd (List.eq_of_mem_replicate (List.mem_of_getElem? hv)) hn
  refine ⟨hlen, ⟨hh.1, hh.2.1, fun q hq => ?_⟩, fun i v hv hc2 => ?_⟩
  · obtain ⟨v, h1, h2, h3⟩ := fk_pr_mem.mp hq
    have h4 := hin _ _ h1 h2
    have h5 := fk_args_in (i := 0) (as.map (fk_z b b0)) 0 q.1 (fk_z b b0 v) hc (by rw [List.getElem?_map, h4]; rfl)
    rw [Nat.zero_add, ← h3] at h5
    exact hh.2.2 q h5
  · have hne : v ≠ .null := fun z => by rw [z] at hc2; cases hc2
    have h4 := hin _ _ hv hne
    have := fk_arg_cat (List.all_eq_true.mp ha v (List.mem_of_getElem? h4))
    omega
end FKS
/-- what the small machine answers, the machine answers -/
theorem fk_sound (l : Launch) (D : va_G) (cA : Nat → ClassId) (b : Nat → Nat) (b0 : Nat) : ∀ (d : Nat) (q : fk_Me) (as : List Value) (h : fk_H) (r1 : Option Value) (h1 : fk_H) (n : Nat), fk_qG q → as.all fk_arg = true → as.length ≤ q.2.2.2.1 → fk_run n d q 0 (fk_loc q as) [] h = some (r1, h1) → fk_Ok l D cA b b0 d q as h r1 h1 := by
  intro d
  induction d with
  | zero =>
    intro q as h r1 h1 n hq ha hn hr
    have hm := fk_mono _ _ _ _ _ _ _ _ hr
    refine ⟨hm.1, hm.2, Met.ofW (cc := q.2.2.1) (maxL := q.2.2.2.1) (ret := q.2.2.2.2.1) hq.2.2 rfl ?_⟩
    intro p e s m args below meth c s₁ B hml hv
    obtain ⟨hv1, hv2, hv3⟩ := hv
    have hts := atoms_spec (ws := fk_wd q) B.pre
    have hown : s.vm.findClass (fk_cn q.1) = some m.cls := by rw [← hq.2.1]; exact findClass_of_methodNamed B.named
    have C : fk_Cx p (fk_rm 0 (h1.1 - h.1) (h1.2.1 - h.2.1)) s m args meth c q b b0 0 h.1 h.2.1 h1 := ⟨B.exec, B.bytes, hml, hown, fun w hw => hts w (List.mem_cons_of_mem _ hw), B.returns, B.notSynchronized, (fun z => by rw [(name_of_methodNamed B.named B.method).1]; exact z), hv3, rfl, hv2.2.2.1, hv2.2.2.2.1⟩
    have hk := fk_body (l := l) (e := e) (below := below) (D := D) (cA := cA) (b := b) C (fun d' hd' => absurd hd' (by omega)) n 0 _ _ h hr (Nat.le_refl _) (Nat.le_refl _) _ s.heap [] (fk_entry ha hn) hv2 va_S.rf
    rw [Nat.sub_self, Nat.sub_self] at hk
    rw [hv1, lg_entry_eq]
    rw [hv1] at hk
    exact hk
  | succ d ih =>
    intro q as h r1 h1 n hq ha hn hr
    have hm := fk_mono _ _ _ _ _ _ _ _ hr
    refine ⟨hm.1, hm.2, Met.ofW (cc := q.2.2.1) (maxL := q.2.2.2.1) (ret := q.2.2.2.2.1) hq.2.2 rfl ?_⟩
    intro p e s m args below meth c s₁ B hml hv
    obtain ⟨hv1, hv2, hv3⟩ := hv
    have hts := atoms_spec (ws := fk_wd q) B.pre
    have hown : s.vm.findClass (fk_cn q.1) = some m.cls := by rw [← hq.2.1]; exact findClass_of_methodNamed B.named
    have C : fk_Cx p (fk_rm (d + 1) (h1.1 - h.1) (h1.2.1 - h.2.1)) s m args meth c q b b0 (d + 1) h.1 h.2.1 h1 := ⟨B.exec, B.bytes, hml, hown, fun w hw => hts w (List.mem_cons_of_mem _ hw), B.returns, B.notSynchronized, (fun z => by rw [(name_of_methodNamed B.named B.method).1]; exact z), hv3, rfl, hv2.2.2.1, hv2.2.2.2.1⟩
    have hk := fk_body (l := l) (e := e) (below := below) (D := D) (cA := cA) (b := b) C (fun d' hd' => by
      cases hd'
      exact ih) n 0 _ _ h hr (Nat.le_refl _) (Nat.le_refl _) _ s.heap [] (fk_entry ha hn) hv2 va_S.rf
    rw [Nat.sub_self, Nat.sub_self] at hk
    rw [hv1, lg_entry_eq]
    rw [hv1] at hk
    exact hk
