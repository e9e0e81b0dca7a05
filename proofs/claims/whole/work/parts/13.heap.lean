theorem fk_lay0 : ∀ w ∈ u_ws RX0 TX0 15, w ∈ lw_tbl := goodIn_m _ [358, 360, 362, 364, 366, 368, 370, 372, 374, 376, 378, 380, 382, 384, 386] (by decide +kernel)
theorem fk_lay1 : ∀ w ∈ u_ws RX1 TX1 6, w ∈ lw_tbl := goodIn_m _ [273, 275, 277, 279, 281, 283] (by decide +kernel)
theorem fk_lay2 : ∀ w ∈ u_ws RX2 TX2 4, w ∈ lw_tbl := goodIn_m _ [521, 523, 525, 527] (by decide +kernel)
theorem fk_lay3 : ∀ w ∈ u_ws RX3 TX3 9, w ∈ lw_tbl := goodIn_m _ [159, 161, 163, 165, 167, 169, 171, 173, 175] (by decide +kernel)
theorem fk_lay4 : ∀ w ∈ u_ws RX4 TX4 6, w ∈ lw_tbl := goodIn_m _ [245, 247, 249, 251, 253, 255] (by decide +kernel)
theorem fk_lay5 : ∀ w ∈ u_ws RX5 TX5 7, w ∈ lw_tbl := goodIn_m _ [203, 205, 207, 209, 211, 213, 215] (by decide +kernel)
theorem fk_lay6 : ∀ w ∈ u_ws RX6 TX6 8, w ∈ lw_tbl := goodIn_m _ [461, 463, 465, 467, 469, 471, 473, 475] (by decide +kernel)
theorem fk_lay7 : ∀ w ∈ u_ws RX7 TX7 1, w ∈ lw_tbl := goodIn_m _ [442] (by decide +kernel)
theorem fk_lay8 : ∀ w ∈ u_ws RX8 TX8 9, w ∈ lw_tbl := goodIn_m _ [416, 418, 420, 422, 424, 426, 428, 430, 432] (by decide +kernel)
theorem fk_lay9 : ∀ w ∈ u_ws RX9 TX9 7, w ∈ lw_tbl := goodIn_m _ [494, 496, 498, 500, 502, 504, 506] (by decide +kernel)
theorem fk_lay10 : ∀ w ∈ u_ws RX10 TX10 2, w ∈ lw_tbl := goodIn_m _ [228, 230] (by decide +kernel)
theorem fk_lay11 : ∀ w ∈ u_ws RX11 TX11 17, w ∈ lw_tbl := goodIn_m _ [547, 549, 551, 553, 555, 557, 559, 561, 563, 565, 567, 569, 571, 573, 575, 577, 579] (by decide +kernel)
theorem fk_lay12 : ∀ w ∈ u_ws RX12 TX12 50, w ∈ lw_tbl := goodIn_m _ [1298, 1300, 1302, 1304, 1306, 1308, 1310, 1312, 1314, 1316, 1318, 1320, 1322, 1324, 1326, 1328, 1330, 1332, 1334, 1336, 1338, 1340, 1342, 1344, 1346, 1348, 1350, 1352, 1354, 1356, 1358, 1360, 1362, 1364, 1366, 1368, 1370, 1372, 1374, 1376, 1378, 1380, 1382, 1384, 1386, 1388, 1390, 1392, 1394, 1396] (by decide +kernel)
theorem fk_13 {P : Nat → Prop} (h : P 0 ∧ P 1 ∧ P 2 ∧ P 3 ∧ P 4 ∧ P 5 ∧ P 6 ∧ P 7 ∧ P 8 ∧ P 9 ∧ P 10 ∧ P 11 ∧ P 12) : ∀ ci, ci < 13 → P ci := by
  obtain ⟨h0, h1, h2, h3, h4, h5, h6, h7, h8, h9, h10, h11, h12⟩ := h
  intro ci hc
  rcases (show ci = 0 ∨ ci = 1 ∨ ci = 2 ∨ ci = 3 ∨ ci = 4 ∨ ci = 5 ∨ ci = 6 ∨ ci = 7 ∨ ci = 8 ∨ ci = 9 ∨ ci = 10 ∨ ci = 11 ∨ ci = 12 by omega) with rfl | rfl | rfl | rfl | rfl | rfl | rfl | rfl | rfl | rfl | rfl | rfl | rfl <;> assumption
theorem fk_cl : ∀ ci, ci < 13 → vwCl[ci]? = some (fk_cn ci, fk_T ci, fk_nf ci) := fk_13 ⟨rfl, rfl, rfl, rfl, rfl, rfl, rfl, rfl, rfl, rfl, rfl, rfl, rfl⟩
theorem fk_lay : ∀ ci, ci < 13 → ∀ w ∈ u_ws (fk_cn ci) (fk_T ci) (fk_nf ci), w ∈ lw_tbl := fk_13 ⟨fk_lay0, fk_lay1, fk_lay2, fk_lay3, fk_lay4, fk_lay5, fk_lay6, fk_lay7, fk_lay8, fk_lay9, fk_lay10, fk_lay11, fk_lay12⟩
theorem fk_layg {ci : Nat} (hc : ci < 13) : ∀ w ∈ u_ws (fk_cn ci) (fk_T ci) (fk_nf ci), w ∈ fk_gd := by
  intro w hw
  refine fk_gd_of (fk_lay ci hc w hw) ?_
  unfold u_ws at hw
  obtain ⟨k, -, hk⟩ := List.mem_map.mp hw
  rw [← hk]
  unfold u_lay
  split <;> rfl
theorem fk_tyok : ∀ ci, ci < 13 → ∀ k, k < fk_nf ci → parseFieldDescriptor (fk_T ci k).2.2.1 = some (fk_ty ci k) := fk_13 ⟨tyX0_ok, tyX1_ok, tyX2_ok, tyX3_ok, tyX4_ok, tyX5_ok, tyX6_ok, tyX7_ok, tyX8_ok, tyX9_ok, tyX10_ok, tyX11_ok, tyX12_ok⟩
theorem fk_nm : ∀ ci, ci < 13 → ∀ a, a < fk_nf ci → ∀ b, b < fk_nf ci → a ≠ b → (fk_T ci a).2.1 ≠ (fk_T ci b).2.1 := fk_13 ⟨nmX0, nmX1, nmX2, nmX3, nmX4, nmX5, nmX6, nmX7, nmX8, nmX9, nmX10, nmX11, nmX12⟩
theorem fk_fl_w {a ix : Nat} {f : Nat × Nat × Nat} (hf : fk_fl a ix = some f) : f.1 < 13 ∧ f.2.1 < fk_nf f.1 ∧ ((f.2.2 = 1 ∨ f.2.2 = 3) → Cond.fieldLinkNest (fk_cn a) ix (fk_T f.1 f.2.1).1 (fk_T f.1 f.2.1).2.1 (fk_T f.1 f.2.1).2.2.1 "ForkTown" ∈ lw_tbl) ∧ (¬ (f.2.2 = 1 ∨ f.2.2 = 3) → Cond.fieldLink (fk_cn a) ix (fk_T f.1 f.2.1).1 (fk_T f.1 f.2.1).2.1 (fk_T f.1 f.2.1).2.2.1 ∈ lw_tbl) ∧ (f.2.2 = 2 → (fk_T f.1 f.2.1).2.2.2 = true ∧ (fk_T f.1 f.2.1).1 = fk_cn a) ∧ (f.2.2 ≠ 2 → f.2.2 ≠ 3 → (fk_T f.1 f.2.1).2.2.2 = false) := by
  obtain ⟨z, hz⟩ := fk_lk_mem hf
  have h1 := List.all_eq_true.mp fk_fT_ok _ hz
  unfold fk_fchk at h1
  simp only [Bool.and_eq_true, decide_eq_true_eq] at h1
  obtain ⟨⟨⟨h1, h2⟩, h3⟩, h4⟩ := h1
  refine ⟨h1, h2, fun q => ?_, fun q => ?_, fun q => ?_, fun q q' => ?_⟩
  · rw [if_pos q] at h3
    exact List.mem_of_getElem? (of_decide_eq_true h3)
  · rw [if_neg q] at h3
    exact List.mem_of_getElem? (of_decide_eq_true h3)
  · rw [if_pos q] at h4
    simpa using h4
  · rw [if_neg q, if_neg q'] at h4
    simpa using h4
theorem fk_ad_pos {b : Nat → Nat} {b0 c : Nat} (h : 0 < c) : fk_ad b b0 c = b0 + c := by
  unfold fk_ad
  rw [if_neg (by omega)]
section FKE
variable {cA : Nat → ClassId} {b : Nat → Nat} {b0 : Nat} {h h' : fk_H} {c ci : Nat}
theorem fk_e_obj (hk : (h.2.2.1 c).1 = ci) (hc : ci < 13) : fk_e cA b b0 h c = .inr (ci, (List.range (fk_nf ci)).map (fun k => fk_z b b0 (h.2.2.2 c k))) := by
  unfold fk_e
  rw [hk, if_pos hc]
theorem fk_e_int (hk : (h.2.2.1 c).1 = ci) (hc : ci = 20 ∨ ci = 21 ∨ ci = 22) : fk_e cA b b0 h c = .inl (cA ci, (h.2.2.1 c).2, .inl (fun i => fk_iv (h.2.2.2 c i))) := by
  unfold fk_e
  rw [hk, if_neg (by omega), if_neg (by omega), if_neg (by omega)]
theorem fk_e_long (hk : (h.2.2.1 c).1 = 23) : fk_e cA b b0 h c = .inl (cA 23, (h.2.2.1 c).2, .inr (.inl (fun i => fk_lv (h.2.2.2 c i)))) := by
  unfold fk_e
  rw [hk, if_neg (by omega), if_pos rfl]
theorem fk_e_ref (hk : (h.2.2.1 c).1 = 24) : fk_e cA b b0 h c = .inl (cA 24, (h.2.2.1 c).2, .inr (.inr (.inr (.inr (fun i => fk_ro b b0 (h.2.2.2 c i)))))) := by
  unfold fk_e
  rw [hk, if_neg (by omega), if_neg (by omega), if_pos rfl]
theorem fk_e_cg (h1 : h'.2.2.1 c = h.2.2.1 c) (h2 : h'.2.2.2 c = h.2.2.2 c) : fk_e cA b b0 h' c = fk_e cA b b0 h c := by
  unfold fk_e
  rw [h1, h2]
theorem fk_put_k (i : Nat) (v : Value) (x : Nat) : (fk_put h c i v).2.2.1 x = h.2.2.1 x := rfl
theorem fk_put_c (i : Nat) (v : Value) : (fk_put h c i v).2.2.2 c = va_up (h.2.2.2 c) i v := by
  show va_up h.2.2.2 c _ c = _
  simp [va_up]
theorem fk_put_o (i : Nat) (v : Value) {x : Nat} (hx : x ≠ c) : (fk_put h c i v).2.2.2 x = h.2.2.2 x := by
  show va_up h.2.2.2 c _ x = _
  simp [va_up, hx]
end FKE
section FKS
variable {p : Program} {l : Launch} {e : Env} {R : Room} {s : State} {m : MethodId} {args : Array Value} {below : List Frame} {meth : Method} {c : Code} {me : fk_Me} {D : va_G} {cA : Nat → ClassId} {b : Nat → Nat} {b0 d n0 z0 : Nat} {rr : Option Value} {hh : fk_H} {pc : Nat} {L st r : List Value} {h : fk_H}
theorem fk_W_size {H : Heap} {locs : List Loc} {cells slots : Nat} {Q : State → Prop} {g : JFrame} (k : H.size ≤ s.heap.size + cells → W p l e R s m args below meth c H locs cells slots Q g) : W p l e R s m args below meth c H locs cells slots Q g := fun T hT X => k (by rw [← hT]; exact X.heapSize) T hT X
theorem fk_ge {H : Heap} (h1 : 1 < h.1) (hP : va_P D vwCl (fk_ws cA b b0 h) H) : b0 + h.1 ≤ H.size := by
  have h2 := (hP (h.1 - 1 - 1) _ (fk_ws_at (c := h.1 - 1) (by omega) (by omega))).lt
  dsimp only at h2
  omega
/-- behind a store -/
theorem fk_upd (C : fk_Cx p R s m args meth c me b b0 d n0 z0 hh) {h' : fk_H} {H H1 : Heap} {locs locs1 : List Loc} {ls : Array Slot} (hL : fk_L b b0 me ls L) (hW : fk_Wd D cA b b0 h s H) (hS : va_S (fun q => b0 < q) s.heap H locs) (a1 : n0 ≤ h.1) (a2 : z0 ≤ h.2.1) (h1 : 1 < h.1) (e1 : h'.1 = h.1) (e2 : h'.2.1 = h.2.1) (e3 : h'.2.2.1 0 = h.2.2.1 0) (e4 : h'.2.2.2 0 = h.2.2.2 0)
    (hP1 : va_P D vwCl (fk_ws cA b b0 h') H1) (hS1 : va_S (fun q => b0 < q) s.heap H1 locs1) (k : fk_V p l e R s m args below meth c me D cA b b0 n0 z0 rr hh pc L r h') : W p l e R s m args below meth c H1 locs1 (h.1 - n0) (h.2.1 - z0) (MQ below (fk_Qc D cA b b0 rr hh) args s (hh.1 - n0) (hh.2.1 - z0) (fun q => b0 < q)) (F0 m pc ls (r.map (fk_z b b0))) := by
  obtain ⟨w1, w2, w3, w4, w5, w6⟩ := hW
  have hs0 := C.2.2.2.2.2.2.2.2.2.2.1
  have hn0 := C.2.2.2.2.2.2.2.2.2.2.2
  refine fk_W_size fun hle => ?_
  rw [← e1, ← e2]
  refine k (by omega) (by omega) ls H1 locs1 hL ⟨w1, hP1, ?_, by omega, w5, ?_⟩ hS1
  · have := fk_ge (cA := cA) (b := b) (h := h') (by omega) hP1
    omega
  · rw [e3, e4]
    refine w6.kept ?_
    rw [hS1.2.1 (b 0) (by omega) (by omega), hS.2.1 (b 0) (by omega) (by omega)]
theorem fk_s_get (C : fk_Cx p R s m args meth c me b b0 d n0 z0 hh) {ix x : Nat} {f : Nat × Nat × Nat} (hf : fk_fl me.1 ix = some f) (hc : fk_is h x f.1) (hd : decode me.2.2.1 pc = .ok (.getfield ix, 3)) (k : fk_V p l e R s m args below meth c me D cA b b0 n0 z0 rr hh (pc + 3) L (h.2.2.2 x f.2.1 :: r) h) : fk_V p l e R s m args below meth c me D cA b b0 n0 z0 rr hh pc L (.ref x :: r) h := fun a1 a2 ls H locs hL hW hS => by
  obtain ⟨w1, w2, w3, w4, -⟩ := fk_fl_w hf
  obtain ⟨q1, q2, q3⟩ := hc
  have he := fk_ws_at (cA := cA) (b := b) (b0 := b0) q1 q2
  rw [fk_e_obj q3 w1] at he
  show W p l e R s m args below meth c H locs _ _ _ (F0 m pc ls (.ref (fk_ad b b0 x) :: r.map (fk_z b b0)))
  rw [fk_ad_pos q1]
  have hv : ((List.range (fk_nf f.1)).map (fun k => fk_z b b0 (h.2.2.2 x k)))[f.2.1]? = some (fk_z b b0 (h.2.2.2 x f.2.1)) := by
    rw [List.getElem?_map, List.getElem?_range w2]
    rfl
  by_cases hn : f.2.2 = 1 ∨ f.2.2 = 3
  · exact va_getN (ref := (fk_T f.1 f.2.1).1) (T := fk_T f.1) (N := fk_nf f.1) C.1 C.2.1 C.2.2.2.2.1 (fk_layg w1) C.2.2.2.1 hW.1 hW.2.1 (x - 1) he (fk_cl _ w1) f.2.1 w2 (va_Nw.use rfl (C.2.2.2.2.2.2.2.2.1.1.1 _ (w3 hn) rfl)) (fun _ h9 => h9) hv hd (k a1 a2 ls H locs hL hW hS)
  · exact va_get (ref := (fk_T f.1 f.2.1).1) (T := fk_T f.1) (N := fk_nf f.1) C.1 C.2.1 C.2.2.2.2.1 (fk_layg w1) C.2.2.2.1 hW.1 hW.2.1 (x - 1) he (fk_cl _ w1) f.2.1 w2 (C.2.2.2.2.1 _ (fk_gd_of (w4 hn) rfl)) (fun _ h9 => h9) hv hd (k a1 a2 ls H locs hL hW hS)
theorem fk_okv_n {ty : FieldType} {v : Value} (hv : fk_okv ty v = true) : narrow ty (fk_z b b0 v) = fk_z b b0 v ∧ fits ty (fk_z b b0 v) = true := by
  cases ty <;> cases v <;> first | (simp [fk_okv] at hv; done) | (exact ⟨rfl, rfl⟩) | skip
  next x =>
    simp only [fk_okv, Bool.or_eq_true, beq_iff_eq] at hv
    rcases hv with rfl | rfl
    · exact ⟨(by decide : narrow .boolean (.int 0) = .int 0), (by decide : fits .boolean (.int 0) = true)⟩
    · exact ⟨(by decide : narrow .boolean (.int 1) = .int 1), (by decide : fits .boolean (.int 1) = true)⟩
theorem fk_s_put (C : fk_Cx p R s m args meth c me b b0 d n0 z0 hh) {ix x : Nat} {v : Value} {f : Nat × Nat × Nat} (hf : fk_fl me.1 ix = some f) (hc : fk_is h x f.1) (hv : fk_okv (fk_ty f.1 f.2.1) v = true) (h3 : f.2.2 ≠ 3) (hi : f.2.2 = 2 → me.2.1.name = "<init>") (hd : decode me.2.2.1 pc = .ok (.putfield ix, 3)) (k : fk_V p l e R s m args below meth c me D cA b b0 n0 z0 rr hh (pc + 3) L r (fk_put h x f.2.1 v)) : fk_V p l e R s m args below meth c me D cA b b0 n0 z0 rr hh pc L (v :: .ref x :: r) h := fun a1 a2 ls H locs hL hW hS => by
  obtain ⟨w1, w2, w3, w4, w5, w6⟩ := fk_fl_w hf
  obtain ⟨q1, q2, q3⟩ := hc
  have he := fk_ws_at (cA := cA) (b := b) (b0 := b0) q1 q2
  rw [fk_e_obj q3 w1] at he
  show W p l e R s m args below meth c H locs _ _ _ (F0 m pc ls (fk_z b b0 v :: .ref (fk_ad b b0 x) :: r.map (fk_z b b0)))
  rw [fk_ad_pos q1]
  obtain ⟨n1, n2⟩ := fk_okv_n (b := b) (b0 := b0) hv
  have hlen : f.2.1 < ((List.range (fk_nf f.1)).map (fun k => fk_z b b0 (h.2.2.2 x k))).length := by
    rw [List.length_map, List.length_range]
    exact w2
  have hset : (fk_ws cA b b0 h).set (x - 1) (b0 + x, .inr (f.1, ((List.range (fk_nf f.1)).map (fun k => fk_z b b0 (h.2.2.2 x k))).set f.2.1 (fk_z b b0 v))) = fk_ws cA b b0 (fk_put h x f.2.1 v) := by
    refine fk_ws_set q1 q2 rfl ?_ (fun y hy => fk_e_cg rfl (fk_put_o _ _ hy))
    rw [fk_e_obj (ci := f.1) (by rw [fk_put_k]; exact q3) w1, fk_put_c]
    congr 2
    apply List.ext_getElem?
    intro i
    rw [List.getElem?_set, List.getElem?_map, List.getElem?_map]
    by_cases hi2 : f.2.1 = i
    · subst hi2
      rw [if_pos rfl, if_pos hlen, List.getElem?_range w2]
      simp [va_up]
    · rw [if_neg hi2]
      by_cases hl2 : i < fk_nf f.1
      · rw [List.getElem?_range hl2]
        have hne : ¬ i = f.2.1 := fun z => hi2 z.symm
        simp [va_up, hne]
      · rw [List.getElem?_eq_none (by rw [List.length_range]; omega)]
        rfl
  have kk : ∀ (H1 : Heap) (locs1 : List Loc), va_P D vwCl ((fk_ws cA b b0 h).set (x - 1) (b0 + x, .inr (f.1, ((List.range (fk_nf f.1)).map (fun k => fk_z b b0 (h.2.2.2 x k))).set f.2.1 (fk_z b b0 v)))) H1 → va_D (fun q => b0 < q) ((fk_ws cA b b0 h).set (x - 1) (b0 + x, .inr (f.1, ((List.range (fk_nf f.1)).map (fun k => fk_z b b0 (h.2.2.2 x k))).set f.2.1 (fk_z b b0 v)))) → va_S (fun q => b0 < q) s.heap H1 locs1 → W p l e R s m args below meth c H1 locs1 (h.1 - n0) (h.2.1 - z0) (MQ below (fk_Qc D cA b b0 rr hh) args s (hh.1 - n0) (hh.2.1 - z0) (fun q => b0 < q)) (F0 m (pc + 3) ls (r.map (fk_z b b0))) := by
    intro H1 locs1 hP1 _ hS1
    rw [hset] at hP1
    exact fk_upd (h' := fk_put h x f.2.1 v) C hL hW hS a1 a2 (by omega) rfl rfl rfl (fk_put_o _ _ (by omega)) hP1 hS1 k
  by_cases hn : f.2.2 = 2
  · exact va_putF (ref := (fk_T f.1 f.2.1).1) (T := fk_T f.1) (N := fk_nf f.1) C.1 C.2.1 C.2.2.2.2.1 (fk_layg w1) (fk_ty f.1) (fk_tyok _ w1) (fk_nm _ w1) C.2.2.2.1 hW.1 hW.2.1 fk_ws_D hS (x - 1) he (fk_cl _ w1) f.2.1 w2 (C.2.2.2.2.1 _ (fk_gd_of (w4 (by omega)) rfl)) (fun _ h9 => h9) (w5 hn).1 (C.2.2.2.2.2.2.2.1 (hi hn)) (w5 hn).2 (fk_tyok _ w1 _ w2) n1 n2 hlen hd kk
  · by_cases hn1 : f.2.2 = 1
    · exact va_putN (ref := (fk_T f.1 f.2.1).1) (T := fk_T f.1) (N := fk_nf f.1) C.1 C.2.1 C.2.2.2.2.1 (fk_layg w1) (fk_ty f.1) (fk_tyok _ w1) (fk_nm _ w1) C.2.2.2.1 hW.1 hW.2.1 fk_ws_D hS (x - 1) he (fk_cl _ w1) f.2.1 w2 (va_Nw.use rfl (C.2.2.2.2.2.2.2.2.1.1.1 _ (w3 (Or.inl hn1)) rfl)) (fun _ h9 => h9) (w6 hn h3) (fk_tyok _ w1 _ w2) n1 n2 hlen hd kk
    · exact va_put (ref := (fk_T f.1 f.2.1).1) (T := fk_T f.1) (N := fk_nf f.1) C.1 C.2.1 C.2.2.2.2.1 (fk_layg w1) (fk_ty f.1) (fk_tyok _ w1) (fk_nm _ w1) C.2.2.2.1 hW.1 hW.2.1 fk_ws_D hS (x - 1) he (fk_cl _ w1) f.2.1 w2 (C.2.2.2.2.1 _ (fk_gd_of (w4 (by omega)) rfl)) (fun _ h9 => h9) (w6 hn h3) (fk_tyok _ w1 _ w2) n1 n2 hlen hd kk
end FKS
