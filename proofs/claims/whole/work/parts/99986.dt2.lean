/-! THE START: the pieces together -/
section DT
variable {N : Nat} {xs : Nat → Int32}
theorem dt_cs {me : fk_Me} {pc ix : Nat} {L st : List Value} {D : ds_D} {e : Nat × Nat × fk_Me × Nat} (hd : decode me.2.2.1 pc = .ok (.invokespecial ix, 3)) (hm : fk_ml me.1 ix = some e) (h4 : (e.2.1 == 4) = true) : ds_step me pc L st D = ds_call e.2.1 e.2.2.1 e.2.2.2 pc st D := by
  unfold ds_step
  rw [hd]
  show fk_if (fk_len (.invokespecial ix) = 0 ∨ 3 = fk_len (.invokespecial ix)) (ds_ins me (.invokespecial ix) pc L st D) = _
  rw [fk_if_of (by first | exact Or.inr rfl | exact Or.inl rfl)]
  have : ds_ins me (.invokespecial ix) pc L st D = (match fk_ml me.1 ix with
      | some e => fk_if ((e.2.1 == 4) = true) (ds_call e.2.1 e.2.2.1 e.2.2.2 pc st D)
      | none => fk_so (fk_pl me.1 ix) fun k => fk_if (k = 6) (fk_r1 st fun _ r => fk_if (2 * r.length ≤ 8) (ds_nx (pc + 3) L r D))) := rfl
  rw [this, hm]
  exact fk_if_of h4
theorem dt_cc {q : fk_Me} {pc c : Nat} {D : ds_D} (h1 : 0 + 1 ≤ q.2.2.2.1) (h2 : ds_is D c q.1) : ds_call 4 q 0 pc [.ref c, .ref c] D = some (.inr (.inr (q, [.ref c], pc + 3, [.ref c]))) := by
  unfold ds_call
  rw [fk_if_of ⟨Nat.zero_le _, rfl⟩, if_neg (by decide), if_neg (by decide)]
  show fk_if (2 * [Value.ref c].length ≤ 8 ∧ 0 + 1 ≤ q.2.2.2.1 ∧ ds_is D c q.1) (some (.inr (.inr (q, [.ref c], pc + 3, [.ref c]))) : Option ds_R) = _
  exact fk_if_of ⟨by show 2 * 1 ≤ 8; decide, h1, h2⟩
theorem dt_c1 : ds_step qL_law 4 [.ref 0, .null, .null, .null] [.ref 1, .ref 1] dt_1 = some (.inr (.inr (qX11_init, [.ref 1], 7, [.ref 1]))) := by
  have h := dt_cs (me := qL_law) (pc := 4) (ix := 9) (L := [.ref 0, .null, .null, .null]) (st := [.ref 1, .ref 1]) (D := dt_1) (e := (0, 4, qX11_init, 0)) dL_law_4 lm_13_9 rfl
  have g := dt_cc (q := qX11_init) (pc := 4) (c := 1) (D := dt_1) (by decide +kernel) (by decide +kernel)
  exact h.trans g
theorem dt_c2 : ds_step qL_law 12 [.ref 0, .ref 1, .null, .null] [.ref 246, .ref 246] dt_17 = some (.inr (.inr (qX12_init, [.ref 246], 15, [.ref 246]))) := by
  have h := dt_cs (me := qL_law) (pc := 12) (ix := 12) (L := [.ref 0, .ref 1, .null, .null]) (st := [.ref 246, .ref 246]) (D := dt_17) (e := (0, 4, qX12_init, 0)) dL_law_12 lm_13_12 rfl
  have g := dt_cc (q := qX12_init) (pc := 12) (c := 246) (D := dt_17) (by decide +kernel) (by decide +kernel)
  exact h.trans g
theorem dt_wf0 : ds_wf dt_0 := ⟨rfl, fun w hw => absurd hw List.not_mem_nil⟩
theorem dt_x11 (h : ds_wf dt_1) : fk_ev 999 qX11_init 0 [.ref 1] [] (ds_H N xs dt_1) = some (none, ds_H N xs dt_16) ∧ ds_wf dt_16 := by
  obtain ⟨e1, w1⟩ := ds_upto_ok (N := N) (xs := xs) _ _ _ _ _ _ _ _ h dt_p1
  obtain ⟨e2, w2⟩ := ds_upto_ok (N := N) (xs := xs) _ _ _ _ _ _ _ _ w1 dt_p2
  obtain ⟨e3, w3⟩ := ds_upto_ok (N := N) (xs := xs) _ _ _ _ _ _ _ _ w2 dt_p3
  obtain ⟨e4, w4⟩ := ds_upto_ok (N := N) (xs := xs) _ _ _ _ _ _ _ _ w3 dt_p4
  obtain ⟨e5, w5⟩ := ds_upto_ok (N := N) (xs := xs) _ _ _ _ _ _ _ _ w4 dt_p5
  obtain ⟨e6, w6⟩ := ds_upto_ok (N := N) (xs := xs) _ _ _ _ _ _ _ _ w5 dt_p6
  obtain ⟨e7, w7⟩ := ds_upto_ok (N := N) (xs := xs) _ _ _ _ _ _ _ _ w6 dt_p7
  obtain ⟨e8, w8⟩ := ds_upto_ok (N := N) (xs := xs) _ _ _ _ _ _ _ _ w7 dt_p8
  obtain ⟨e9, w9⟩ := ds_upto_ok (N := N) (xs := xs) _ _ _ _ _ _ _ _ w8 dt_p9
  obtain ⟨e10, w10⟩ := ds_upto_ok (N := N) (xs := xs) _ _ _ _ _ _ _ _ w9 dt_p10
  obtain ⟨e11, w11⟩ := ds_upto_ok (N := N) (xs := xs) _ _ _ _ _ _ _ _ w10 dt_p11
  obtain ⟨e12, w12⟩ := ds_upto_ok (N := N) (xs := xs) _ _ _ _ _ _ _ _ w11 dt_p12
  obtain ⟨e13, w13⟩ := ds_upto_ok (N := N) (xs := xs) _ _ _ _ _ _ _ _ w12 dt_p13
  obtain ⟨e14, w14⟩ := ds_upto_ok (N := N) (xs := xs) _ _ _ _ _ _ _ _ w13 dt_p14
  obtain ⟨e15, w15⟩ := ds_run_ok (N := N) (xs := xs) _ _ _ _ _ _ _ _ w14 dt_p15
  dsimp only at e1 e2 e3 e4 e5 e6 e7 e8 e9 e10 e11 e12 e13 e14 e15
  refine ⟨?_, w15⟩
  rw [e1, e2, e3, e4, e5, e6, e7, e8, e9, e10, e11, e12, e13, e14]
  exact fk_ev_iff.mpr ⟨_, e15⟩
theorem dt_x12 (h : ds_wf dt_17) : fk_ev 999 qX12_init 0 [.ref 246, .null] [] (ds_H N xs dt_17) = some (none, ds_H N xs dt_19) ∧ ds_wf dt_19 := by
  obtain ⟨e17, w17⟩ := ds_upto_ok (N := N) (xs := xs) _ _ _ _ _ _ _ _ h dt_p17
  obtain ⟨e18, w18⟩ := ds_run_ok (N := N) (xs := xs) _ _ _ _ _ _ _ _ w17 dt_p18
  dsimp only at e17 e18
  refine ⟨?_, w18⟩
  rw [e17]
  exact fk_ev_iff.mpr ⟨_, e18⟩
theorem dt_all : fk_ev 1000 qL_law 0 [.ref 0, .null, .null, .null] [] (ds_H N xs dt_0) = fk_ev 1000 qL_law 18 [.ref 0, .ref 1, .ref 246, .int 0] [] (ds_H N xs dt_20) := by
  obtain ⟨e0, w0⟩ := ds_upto_ok (N := N) (xs := xs) _ _ _ _ _ _ _ _ dt_wf0 dt_p0
  obtain ⟨e1, w1⟩ := dt_x11 (N := N) (xs := xs) w0
  have c1 := (ds_step_ok (N := N) (xs := xs) w0 _ dt_c1).1
  obtain ⟨e2, w2⟩ := ds_upto_ok (N := N) (xs := xs) _ _ _ _ _ _ _ _ w1 dt_p16
  obtain ⟨e3, w3⟩ := dt_x12 (N := N) (xs := xs) w2
  have c2 := (ds_step_ok (N := N) (xs := xs) w2 _ dt_c2).1
  obtain ⟨e4, _⟩ := ds_upto_ok (N := N) (xs := xs) _ _ _ _ _ _ _ _ w3 dt_p19
  dsimp only at e0 e2 e4
  rw [e0, fk_ev_call (d := 999) c1]
  show (fk_ev 999 qX11_init 0 [.ref 1] [] (ds_H N xs dt_1)).bind _ = _
  rw [e1]
  show fk_ev 1000 qL_law 7 [.ref 0, .null, .null, .null] [.ref 1] (ds_H N xs dt_16) = _
  rw [e2, fk_ev_call (d := 999) c2]
  show (fk_ev 999 qX12_init 0 [.ref 246, .null] [] (ds_H N xs dt_17)).bind _ = _
  rw [e3]
  show fk_ev 1000 qL_law 15 [.ref 0, .ref 1, .null, .null] [.ref 246] (ds_H N xs dt_19) = _
  exact e4
end DT
