section CL7
variable {N : Nat} {S : Nat → Int32} {v y y1 y2 : Nat → Nat → Int32} {l : Nat → Nat → Int64} {d p p' n H t : Nat} {T A A' : Nat → Int32}
theorem cl_undo (hR : cR S y) : ∃ a y1 y2, fk_ev (d + 8) qX11_undo 0 [.ref 1] [] (fk_E N y l) = some (some (.int a), fk_E N y1 l) ∧ fk_ev (d + 8) qX12_undo 0 [.ref 246] [] (fk_E N y1 l) = some (some (.int a), fk_E N y2 l) ∧ cR S y2 := by
  obtain ⟨r0, r1, r2, ⟨n, H, p1, p2, p3, p4⟩, ⟨k1, k2⟩, r5, r6, r7, r8, r9⟩ := id hR
  rcases k2 with ⟨k2, k3⟩ | ⟨k2, k3, n', H', o1, o2, o3, o4⟩
  · refine ⟨nI 0, y, y, ?_, mX12_undo_no (d := d + 7) k3, hR⟩
    simp (disch := first | assumption | omega) only [rX11_undo, k2, Option.bind_some, Option.toList_some, Option.toList_none, List.cons_append, List.nil_append, fk_b_0, nI_add, Nat.add_zero, Nat.zero_add, not_true_eq_false, not_false_eq_true, if_true, if_false, sI_le_t, sI_le_f, sI_lt_t, sI_lt_f, sI_eq_t, sI_eq_f, sI_rem, sI_div, sI_m1a, sI_m1b, sI_m1c, sI_m1d, sI_m1e, sI_m1f, sI_m2a, sI_m2b, sI_sub, pk_mul, sI_dec, fk_u_s, fk_u_o, sI_dec0, sI_z, sI_md, Bool.false_eq_true, Nat.reduceAdd, Nat.reduceMul, Nat.reduceSub, Nat.reduceMod, Nat.reduceDiv]
  · have hn := o1.1
    have h33 := n8
    have h234 : fk_at 234 7 := ⟨by decide, by decide, by decide +kernel⟩
    obtain ⟨z, e1, z1, z2⟩ := mX8_copyFrom (N := N) (l := l) (d := d + 6) (p := 33) (p' := 100) (Or.inl rfl) (Or.inr (Or.inl rfl)) (by omega) o3 o1 p3.2.1
    generalize hU : fk_uc z 237 0 235 0 3072 = U
    have Uo : ∀ c, c ≠ 235 → U c = z c := fun c h1 => by
      rw [← hU]
      funext j
      exact if_neg fun q => h1 q.1
    have U235 : ∀ i, i < 3072 → U 235 i = y 237 i := fun i hi => by
      rw [← hU]
      unfold fk_uc
      rw [if_pos ⟨rfl, by omega, by omega⟩, z2 237 (by omega)]
      congr 1
      omega
    have Uf : ∀ c, ¬ (33 ≤ c ∧ c < 100) → c ≠ 235 → U c = y c := fun c h1 h2 => by rw [Uo c h2, z2 c (by omega)]
    have e0 : fk_ev (d + 8) qX11_undo 0 [.ref 1] [] (fk_E N y l) = some (some (.int ((nI 1))), fk_E N U l) := by
      simp (disch := first | assumption | omega) only [rX11_undo, k2, e1, mX7_copyFrom (Or.inl ⟨rfl, rfl⟩), hU, Option.bind_some, Option.toList_some, Option.toList_none, List.cons_append, List.nil_append, fk_b_0, nI_add, Nat.add_zero, Nat.zero_add, not_true_eq_false, not_false_eq_true, if_true, if_false, sI_le_t, sI_le_f, sI_lt_t, sI_lt_f, sI_eq_t, sI_eq_f, sI_rem, sI_div, sI_m1a, sI_m1b, sI_m1c, sI_m1d, sI_m1e, sI_m1f, sI_m2a, sI_m2b, sI_sub, pk_mul, sI_dec, fk_u_s, fk_u_o, sI_dec0, sI_z, sI_md, Bool.false_eq_true, Nat.reduceAdd, Nat.reduceMul, Nat.reduceSub, Nat.reduceMod, Nat.reduceDiv]
    have e2 := mX12_undo_ok (N := N) (l := l) (d := d + 7) (y := U) (by rw [Uf 246 (by omega) (by omega)]; exact k3)
    generalize hV : fk_cp U 249 247 3912 = V at e2
    have V247 : ∀ i, i < 3912 → V 247 i = y 249 i := fun i hi => by
      rw [← hV]
      unfold fk_cp
      rw [if_pos ⟨rfl, hi⟩, Uf 249 (by omega) (by omega)]
    have Vo : ∀ c, c ≠ 247 → V c = U c := fun c h1 => by
      rw [← hV]
      funext j
      unfold fk_cp
      rw [if_neg fun q => h1 q.1]
    have Vf : ∀ c, ¬ (33 ≤ c ∧ c < 100) → c ≠ 235 → c ≠ 247 → V c = y c := fun c h1 h2 h3 => by rw [Vo c h3, Uf c h1 h2]
    have p33 : ck_pr 33 V (fun _ => nI 0) (V 247) := by
      refine ck_pr_hi (A := y 249) (ck_pr_k (y := z) z1 fun k h1 h2 => ?_) (by rw [ab_ok_n o1]; exact hn) fun i hi => V247 i (by omega)
      rw [Vo k (by omega), Uo k (by omega)]
    refine ⟨nI 1, U, V, e0, e2, cR_keep hR (fun k hk => Vf k (by omega) (by omega) (by omega)) (fun i hi => by rw [Vf 246 (by omega) (by omega) (by omega)]) (fun j hj => by rw [Vf _ (by omega) (by omega) (by omega)]; exact r9 j hj) ⟨n', H', ?_, ?_, p33, fun i hi => ?_⟩⟩
    · exact ab_ok_c (by rw [Vf 246 (by omega) (by omega) (by omega)]) (ab_ok_hi o1 fun i hi => V247 i (by omega))
    · refine ⟨fun j hj => by rw [V247 _ (by omega)]; exact o2.1 j hj, fun h j h1 h2 h3 h4 => ?_⟩
      rw [V247 _ (by omega)]
      exact o2.2 h j h1 h2 h3 fun hj => by have := h4 hj; rw [V247 _ (by omega)] at this; exact this
    · rw [Vo 235 (by omega), U235 i hi, o4 i hi, V247 _ (by omega)]
end CL7
