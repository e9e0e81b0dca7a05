def R_law : String := "ForkTownLaw"
def lw_P (b : Addr) (xs : List Int32) (args : Array Value) (s : State) : Prop := args = #[.ref b] ∧ s.IntsAt b xs ∧ xs.length ≤ 3072 ∧ (Jvm.Cond.and given_1 narrow_1).before args s = true
def lw_Q (_ : Array Value) (s : State) (o : Outcome) (t : State) : Prop := o = .returned (some (.int 1)) ∧ Framed s o t [] 600000 7302250
def lw_Z (below : List Frame) (a : Array Value) (s : State) : State → Prop := fun t => ∃ o, t.status = .running ∧ Ended t below o ∧ lw_Q a s o t
/-- the law's own end, with 1 on the stack, nothing written that was there before, its room as the claim has it -/
theorem lw_ret {p : Program} {l : Launch} {e : Env} {s : State} {m : MethodId} {below : List Frame} {meth : Method} {c : Code} {b : Nat} (hx : p.tables.exec = Jvm.exec) (hb : c.code = code) (hr : meth.sig.returnType = ret) (hlocks : meth.locks = false) {pc : Nat} {H : Heap} {ls : Array Slot} (hdg : decode code pc = .ok (.ireturn, 1)) : W p l e room_1 s m #[Value.ref b] below meth c H [] 600000 7302250 (lw_Z below #[Value.ref b] s) (F0 m pc ls [.int 1]) := by
  intro T hT X
  obtain ⟨fs, hret, hrun, hended, hW, hframe⟩ := X.leave (v := some (.int 1)) (hlocks := hlocks) (fun h => by rw [hr] at h; cases h)
  have hmeth' : T.vm.method? m = some meth := X.method'
  refine ⟨T.setFrames fs, ?_, .returned (some (.int 1)), hrun, hended, rfl, ⟨_, rfl⟩, hW, hframe⟩
  jvm_step X.here [X.here.top, hx, hb, hdg, hmeth', hr, ret, narrow_b1]
  (try refine ⟨rfl, ?_⟩); (try refine ⟨rfl, ?_⟩)
  first | (intro acts; rw [hret _ acts rfl rfl rfl]) | rw [hret _ _ rfl rfl rfl]
  exact Steps.refl _
/-- what holds at the law's entry: the machine, the code, the tables' words (any of lw_tbl by 'hts w (by decide +kernel)'), the script of L ints xs at the cell b, what the Statement gives of the start (any of its parts by flat_of_before) -/
def lw_At (p : Program) (s : State) (m : MethodId) (meth : Method) (c : Code) (b L : Nat) (xs : Nat → Int32) : Prop :=
  p.tables.exec = Jvm.exec ∧ c.code = code ∧ meth.sig.returnType = ret ∧ c.maxLocals = 4 ∧ s.vm.findClass R_law = some m.cls ∧ (∀ w ∈ lw_tbl, w.before #[Value.ref b] s = true) ∧ va_X b L xs s s.heap ∧ b < s.heap.size ∧ meth.locks = false ∧ (Jvm.Cond.and given_1 narrow_1).before #[Value.ref b] s = true
theorem fk_ao : Cond.arrayOver (.object "ForkTown$Half") ∈ lw_tbl := List.mem_of_getElem? (i := 293) (by decide +kernel)
/-- the String constants at the start -/
def fk_tm (i : Nat) : Term := .string "ForkTown$LawReader" (fk_stx.getD i (0, "")).1
theorem fk_4 {P : Nat → Prop} (h : P 0 ∧ P 1 ∧ P 2 ∧ P 3) : ∀ i, i < 4 → P i := by
  obtain ⟨h0, h1, h2, h3⟩ := h
  intro i hi
  rcases (show i = 0 ∨ i = 1 ∨ i = 2 ∨ i = 3 by omega) with rfl | rfl | rfl | rfl <;> assumption
set_option maxRecDepth 100000 in
theorem fk_strs {b : Nat} {s : State} {A : Nat → Prop} (hgv : (Jvm.Cond.and given_1 narrow_1).before #[Value.ref b] s = true) (hA : ∀ a : Nat, a < s.heap.size → ¬ A a) : ∃ adK adV : Nat → Nat, vk_S 4 fk_sln fk_sbt adK adV A s s.heap ∧ ∀ i : Nat, i < 4 → (fk_tm i).eval #[Value.ref b] s none [] s = some (.ref (adK i)) := by
  have hs := flat_of_before _ hgv
  refine vk_Sof (by decide) ?_ ?_ ?_ ?_ ?_ ?_ hA
  · exact fk_4 ⟨hs _ (by decide +kernel), hs _ (by decide +kernel), hs _ (by decide +kernel), hs _ (by decide +kernel)⟩
  · exact fk_4 ⟨hs _ (by decide +kernel), hs _ (by decide +kernel), hs _ (by decide +kernel), hs _ (by decide +kernel)⟩
  · exact fk_4 ⟨hs _ (by decide +kernel), hs _ (by decide +kernel), hs _ (by decide +kernel), hs _ (by decide +kernel)⟩
  · exact fk_4 ⟨hs _ (by decide +kernel), hs _ (by decide +kernel), hs _ (by decide +kernel), hs _ (by decide +kernel)⟩
  · have hel : ∀ i, i < 4 → ∀ j, j < fk_sln.getD i 0 → (Cond.eq (.elem (.field (fk_tm i) "java/lang/String" "value" "[B") (.int (Int32.ofNat j))) (.int ((fk_sbt.getD i []).getD j 0))) ∈ flatC (Jvm.Cond.and given_1 narrow_1) := by decide +kernel
    exact fun i hi j hj => hs _ (hel i hi j hj)
  · have hne : ∀ i, i < 4 → ∀ j, j < 4 → i ≠ j → (Cond.not (Cond.eq (fk_tm i) (fk_tm j))) ∈ flatC (Jvm.Cond.and given_1 narrow_1) ∨ (Cond.not (Cond.eq (fk_tm j) (fk_tm i))) ∈ flatC (Jvm.Cond.and given_1 narrow_1) := by decide +kernel
    exact fun i j hi hj hij => (hne i hi j hj hij).imp (fun h => hs _ h) (fun h => hs _ h)
/-- the cells at the law's start: the script alone -/
def fk_h0 (L : Nat) (xs : Nat → Int32) : fk_H := (1, 0, fun c => if c = 0 then (30, L) else (99, 0), fun _ j => .int (xs j))
/-- WHAT IS LEFT TO SHOW, of the small machine alone -/
def fk_claim : Prop := ∀ (L : Nat) (xs : Nat → Int32), L ≤ 3072 → ∃ (n : Nat) (hh : fk_H), fk_run n 1000 qL_law 0 (fk_loc qL_law [.ref 0]) [] (fk_h0 L xs) = some (some (.int 1), hh) ∧ hh.1 - 1 ≤ 600000 ∧ hh.2.1 ≤ 7302250
theorem fk_arr {args : Array Value} {s : State} {ty : FieldType} (h : (Cond.arrayClass ty).before args s = true) : ∃ cA : ClassId, ArrOfT s cA ty ∧ s.vm.findClass ("[" ++ ty.toString) = some cA := by
  obtain ⟨cA, kA, comp, h1, h2, h3⟩ := Cond.arrayClass_spec h
  exact ⟨cA, fun n z => ⟨fun k h => (by cases h), kA, h2, comp, h3⟩, h1⟩
theorem fk_room {s : State} {pl : Platform} {R R' : Room} (h : s.hasRoom pl R = true) (h1 : R'.frames ≤ R.frames) (h2 : R'.cells ≤ R.cells) (h3 : R'.slots ≤ R.slots) (h4 : R'.locals ≤ R.locals) : s.hasRoom pl R' = true := by
  simp only [State.hasRoom, Bool.and_eq_true, decide_eq_true_eq] at h ⊢
  obtain ⟨⟨⟨⟨a1, a2, a3, a4, a5, a6⟩, a7⟩, a8⟩, a9⟩ := h
  exact ⟨⟨⟨⟨by omega, by omega, by omega, by omega, by omega, a6⟩, by omega⟩, by omega⟩, a9⟩
theorem whole_start_open (hclaim : fk_claim) {p : Program} {e : Env} {s : State} {m : MethodId} {below : List Frame} {meth : Method} {c : Code} (l : Launch) {b L : Nat} {xs : Nat → Int32} (hL : L ≤ 3072) (C0 : lw_At p s m meth c b L xs) : W p l e room_1 s m #[Value.ref b] below meth c s.heap [] 0 0 (lw_Z below #[Value.ref b] s) (entryFrame m ([Value.ref b] : List Value).toArray 4) := by
  obtain ⟨hx, hb, hr, hml, hown, hts, hX, hbl, hlocks, hgv⟩ := id C0
  obtain ⟨n, hh, hrun, c1, c2⟩ := hclaim L xs hL
  have hm := fk_mono _ _ _ _ _ _ _ _ hrun
  have hgd : ∀ w ∈ fk_gd, w.before #[Value.ref b] s = true := fun w hw => hts w (List.mem_filter.mp hw).1
  have hKn : ∀ ci : Nat, ∃ q : ClassId × (Nat → Nat), ci < 13 → u_Kn s (fk_cn ci) (fk_T ci) (fk_nf ci) q.1 q.2 := by
    intro ci
    by_cases hc : ci < 13
    · have hi : Cond.instantiable (fk_cn ci) (fk_nf ci) ∈ lw_tbl := by
        revert ci
        exact fk_13 ⟨List.mem_of_getElem? (i := 294) (by decide +kernel), List.mem_of_getElem? (i := 259) (by decide +kernel), List.mem_of_getElem? (i := 510) (by decide +kernel), List.mem_of_getElem? (i := 136) (by decide +kernel), List.mem_of_getElem? (i := 234) (by decide +kernel), List.mem_of_getElem? (i := 180) (by decide +kernel), List.mem_of_getElem? (i := 446) (by decide +kernel), List.mem_of_getElem? (i := 436) (by decide +kernel), List.mem_of_getElem? (i := 287) (by decide +kernel), List.mem_of_getElem? (i := 479) (by decide +kernel), List.mem_of_getElem? (i := 220) (by decide +kernel), List.mem_of_getElem? (i := 128) (by decide +kernel), List.mem_of_getElem? (i := 1243) (by decide +kernel)⟩
      obtain ⟨cC, iS, hk⟩ := u_known (C := fk_cn ci) (T := fk_T ci) (N := fk_nf ci) (n := fk_nf ci) hts (fk_lay ci hc) (hts _ hi)
      exact ⟨(cC, iS), fun _ => hk⟩
    · exact ⟨(default, fun _ => 0), fun h => absurd h hc⟩
  obtain ⟨f, hf⟩ := Classical.axiomOfChoice hKn
  obtain ⟨a20, r20, s20⟩ := fk_arr (hts _ fk_ac_int)
  obtain ⟨a21, r21, s21⟩ := fk_arr (hts _ fk_ac_byte)
  obtain ⟨a22, r22, s22⟩ := fk_arr (hts _ fk_ac_boolean)
  obtain ⟨a23, r23, s23⟩ := fk_arr (hts _ fk_ac_long)
  obtain ⟨comp, a24, k24, u1, -, u2, u3, u4⟩ := Cond.arrayOver_spec (hts _ fk_ao)
  have hK : va_K (fun k => (f k).1, fun k => (f k).2) vwCl (fk_tys (fun k => if k = 20 then a20 else if k = 21 then a21 else if k = 22 then a22 else if k = 23 then a23 else a24)) s := by
    refine ⟨fun ci q hq => ?_, fun k q hq => ?_⟩
    · have hc : ci < 13 := (List.getElem?_eq_some_iff.mp hq).1
      rw [fk_cl ci hc] at hq
      cases hq
      exact hf ci hc
    · match k, hq with
      | 0, hq => cases hq; exact ⟨r20, s20⟩
      | 1, hq => cases hq; exact ⟨r21, s21⟩
      | 2, hq => cases hq; exact ⟨r22, s22⟩
      | 3, hq => cases hq; exact ⟨r23, s23⟩
      | 4, hq => cases hq; exact ⟨fun N z => ⟨(fun k h => by cases h), k24, u2, comp, u3⟩, k24, comp, u2, u3, u1, u4⟩
      | k + 5, hq => cases hq
  obtain ⟨b0, hb0⟩ : ∃ b0, s.heap.size = b0 + 1 := ⟨s.heap.size - 1, by omega⟩
  have hA0 : ∀ a : Nat, a < s.heap.size → ¬ b0 < a := fun a ha => by omega
  obtain ⟨adK, adV, hVS, hVe⟩ := fk_strs (A := fun q => b0 < q) hgv hA0
  obtain ⟨B, hB⟩ : ∃ B : Nat → Nat, B = fun j => if j = 0 then b else if j % 2 = 1 then adK (j / 2) else adV (j / 2 - 1) := ⟨_, rfl⟩
  have hB0 : B 0 = b := by rw [hB]; rfl
  have hBK : (fun i => B (2 * i + 1)) = adK := by
    funext i
    rw [hB]
    show (if 2 * i + 1 = 0 then b else if (2 * i + 1) % 2 = 1 then adK ((2 * i + 1) / 2) else adV ((2 * i + 1) / 2 - 1)) = adK i
    rw [if_neg (by omega), if_pos (by omega), show (2 * i + 1) / 2 = i by omega]
  have hBV : (fun i => B (2 * i + 2)) = adV := by
    funext i
    rw [hB]
    show (if 2 * i + 2 = 0 then b else if (2 * i + 2) % 2 = 1 then adK ((2 * i + 2) / 2) else adV ((2 * i + 2) / 2 - 1)) = adV i
    rw [if_neg (by omega), if_neg (by omega), show (2 * i + 2) / 2 - 1 = i by omega]
  have hSt : fk_St B b0 s := by
    refine ⟨⟨fun w hw hn => ?_, va_AO.of (hts _ fk_ao)⟩, fun i hi => ?_, by rw [hBK, hBV]; exact hVS, va_Zof (hts _ fk_csw) (hts _ (List.mem_of_getElem? (i := 120) (by decide +kernel))) (va_eqt (flat_of_before _ hgv _ (by decide +kernel))) hA0⟩
    · have h1 := hts w hw
      refine va_Nw.of ?_ h1
      cases w <;> first | rfl | (simp [fk_nst] at hn)
    · have h2 := hVe i hi
      rw [← hBK] at h2
      refine vk_R.of (A := #[Value.ref b]) ?_ h2
      revert i
      exact fk_4 ⟨fun _ => hts _ fk_sw0, fun _ => hts _ fk_sw1, fun _ => hts _ fk_sw2, fun _ => hts _ fk_sw3⟩
  subst hB0
  have hW : fk_Wd (fun k => (f k).1, fun k => (f k).2) (fun k => if k = 20 then a20 else if k = 21 then a21 else if k = 22 then a22 else if k = 23 then a23 else a24) B b0 (fk_h0 L xs) s s.heap := ⟨hK, fun k q h => (by cases h), hb0, Nat.lt_succ_self 0, by omega, hX⟩
  have C : fk_Cx p (fk_rm 1000 (hh.1 - 1) (hh.2.1 - 0)) s m #[Value.ref (B 0)] meth c qL_law B b0 1000 1 0 hh := ⟨hx, hb, hml, hown, hgd, hr, hlocks, fun z => absurd z (by decide), hSt, rfl, hb0, Nat.lt_succ_self 0⟩
  have hk := fk_body (l := l) (e := e) (below := below) (D := (fun k => (f k).1, fun k => (f k).2)) (cA := fun k => if k = 20 then a20 else if k = 21 then a21 else if k = 22 then a22 else if k = 23 then a23 else a24) (b := B) C (fun d' hd' => by
      cases hd'
      exact fk_sound l _ _ _ _ 999) n 0 _ _ (fk_h0 L xs) hrun (Nat.le_refl _) (Nat.le_refl _) _ s.heap [] (fk_entry (b := B) (b0 := b0) (me := qL_law) (as := [.ref 0]) rfl (by decide)) hW va_S.rf
  rw [lg_entry_eq]
  intro T hT X
  obtain ⟨t, t1, o, t2, t3, ⟨t4, t5, t6⟩, Lc, t7, t8⟩ := hk T hT { X with room := fk_room X.room (by show 1001 ≤ 2048; omega) (by show hh.1 - 1 ≤ 600000; omega) (by show hh.2.1 - 0 ≤ 7302250; omega) (by show 40 * 1001 ≤ 84000; omega) }
  refine ⟨t, t1, o, t2, t3, t4, ?_⟩
  obtain ⟨f1, f2, f3⟩ := t7
  refine ⟨f1, f2, f3.weaken (fun y hy hlt => ?_) c1 (by omega)⟩
  have h9 : b0 < y.base := t8 y hy
  exact absurd hlt (Nat.not_lt.mpr (by rw [hb0]; exact h9))
