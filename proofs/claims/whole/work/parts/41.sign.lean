/-! TermNetModel: sign, add. -/
theorem tn_PT.len {sg : Nat → Option Nat} {ar : Nat → Nat} {pt : Nat → Nat → Nat} : ∀ {P : List (Nat × Nat × Nat)} {n : Nat} {hs : List (Nat × Nat)}, tn_PT sg ar pt n hs P → ∀ q ∈ P, q.2.1 ≤ hs.length ∧ q.1 ≤ n
  | [], _, _, _, q, hq => by cases hq
  | p :: P, n, hs, ⟨h1, ns, hs0, h2, h3, h4, h5, h6⟩, q, hq => by
    have hl : hs0.length ≤ hs.length := by rw [h2, List.length_append]; omega
    rcases List.mem_cons.mp hq with e | e
    · subst e; exact ⟨by omega, h1⟩
    · have := tn_PT.len h6 q e
      exact ⟨by omega, by omega⟩
theorem pu_drop_app {ms hs : List (Nat × Nat)} {k : Nat} (hk : k ≤ hs.length) : (ms ++ hs).drop ((ms ++ hs).length - k) = hs.drop (hs.length - k) := by
  rw [List.length_append, List.drop_append, List.drop_eq_nil_of_le (by omega), List.nil_append]
  congr 1
  omega
section AD
variable {n m : Nat} {ar : Nat → Nat} {sg : Nat → Option Nat} {pt : Nat → Nat → Nat} {hs : List (Nat × Nat)} {eq : Nat} {P : List (Nat × Nat × Nat)} {h : am_S} {Q : am_Q}
/-- the rows of the points, when the history grows -/
theorem tn_J.pts (J : tn_J n m ar sg pt hs eq P h) {sg0 : Nat → Option Nat} {ar0 : Nat → Nat} {pt0 : Nat → Nat → Nat} {n0 : Nat} (hP : tn_PT sg0 ar0 pt0 n0 hs P) {ms : List (Nat × Nat)} {h' : am_S} (f : ∀ k, 5 < k → k < 9 → h'.2 k = h.2 k) : ∀ i q, P.reverse[i]? = some q → h'.2 6 i = nI q.1 ∧ h'.2 7 i = nI q.2.2 ∧ ∀ t, t < q.1 → h'.2 8 (400 * i + t) = nI (pu_hg ((ms ++ hs).drop ((ms ++ hs).length - q.2.1)) t) := fun i q hq => by
  have hm : q ∈ P := List.mem_reverse.mp (List.mem_of_getElem? hq)
  rw [f 6 (by omega) (by omega), f 7 (by omega) (by omega), f 8 (by omega) (by omega), pu_drop_app (hP.len q hm).1]
  exact J.2.2.2.2 i q hq
theorem tn_B.al_sign (B : tn_B n m ar sg pt h) (j : Nat) : pu_al n sg sg ar (fun s => if s = m then j else ar s) pt pt := fun t ht => by
  refine ⟨rfl, ?_, fun _ _ => rfl⟩
  unfold pu_np
  cases e : sg t with
  | none => rfl
  | some s =>
    have := B.sm ht e
    show (if s = m then j else ar s) = ar s
    rw [if_neg (by omega)]
theorem tn_J.sign (J : tn_J n m ar sg pt hs eq P h) {j : Nat} (hj : j ≤ 3) (hm : m < 40) {h' : am_S} (f0 : h'.1 0 = nI (m + 1)) (f1 : ∀ i, i ≠ 0 → i ≠ 4 → h'.1 i = h.1 i) (f2 : h'.2 1 = upd (h.2 1) m (nI j)) (f3 : ∀ k, k ≠ 1 → h'.2 k = h.2 k) : tn_J n (m + 1) (fun s => if s = m then j else ar s) sg pt hs eq P h' := by
  obtain ⟨b, j2, j3, j4, j5⟩ := J
  have a := b.al_sign j
  obtain ⟨b1, b2, b3, b4, b5⟩ := b
  refine ⟨⟨⟨f0, by omega⟩, ⟨by rw [f1 1 (by omega) (by omega)]; exact b2.1, b2.2⟩, fun s q => ?_, fun t ht => ?_, a.told b5⟩, fun t ht => by rw [f3 4 (by omega)]; exact j2 t ht, by rw [f1 3 (by omega) (by omega)]; exact j3, by rw [f1 2 (by omega) (by omega)]; exact j4, fun i q hq => by rw [f3 6 (by omega), f3 7 (by omega), f3 8 (by omega)]; exact j5 i q hq⟩
  · rw [f2]
    simp only [upd]
    by_cases e : s = m
    · rw [if_pos e, if_pos e]; exact ⟨rfl, hj⟩
    · rw [if_neg e, if_neg e]; exact b3 s (by omega)
  · rw [f3 2 (by omega), f3 3 (by omega)]
    obtain ⟨d1, d2, d3⟩ := b4 t ht
    refine ⟨d1, fun s e => by have := d2 s e; omega, fun k hk => d3 k ?_⟩
    rw [(a t ht).2.1] at hk
    exact hk
set_option maxRecDepth 20000 in
/-- sign -/
theorem sp_56 (J : tn_J n m ar sg pt hs eq P h) {a : Int32} (h1 : ∀ j h', j ≤ 3 → a = nI j → m < 40 → tn_J n (m + 1) (fun s => if s = m then j else ar s) sg pt hs eq P h' → h'.1 4 = nI 0 → Q h' (.inl (some (.int (nI m)))))
    (h0 : (∀ j, j ≤ 3 → a ≠ nI j) → Q (upd h.1 4 (nI 1), h.2) (.inl (some (.int (nI 0))))) (h2 : ∀ j, j ≤ 3 → a = nI j → m = 40 → Q (upd h.1 4 (nI 2), h.2) (.inl (some (.int (nI 0))))) : am_AW tn_G tn_Y (56, 0, 0, [some (.ref 0), some (.int a)], [], h) Q := by
  have hm := J.1.m4
  refine am_AW.go [40] 20 ?_
  simp only [am_Zs, am_zn_1, am_g3, am_a3, am_kz_l, am_kz_r, am_mem, Bool.false_eq_true, am_Rs, am_R0, am_g2, am_al, am_kk_l, am_kk_r, am_step, am_op, am_one, am_two, am_br, am_inv, am_pp, am_ct, am_in, am_no, am_rc, am_s1, am_cut, am_s2, List.getElem?_cons_zero, List.getElem?_cons_succ, List.set_cons_zero, List.set_cons_succ, Value.category, List.cons_append, List.nil_append, am_f0, am_f1, am_f2, am_f3, am_cm1, am_c0, am_c1, am_c2, am_c3, am_c20, am_c40, am_c400, am_c401, am_c1600, true_and, and_true, true_implies, if_true, if_false, Nat.reduceAdd, Nat.reduceSub, Nat.reduceLT, Nat.reduceLeDiff, Nat.reduceEqDiff, reduceIte, Nat.le_refl, or_false, false_and, false_implies, or_true, true_or, implies_true, pk_us, pk_un, am_vs, am_vn, bx_uu, ne_eq, not_false_eq_true, not_true_eq_false, am_b0, am_b1, Nat.not_lt_zero, am_tl0, am_tl1, am_l1, kr_56, kn_56, kl_56, kc_56_0, kc_56_1, kc_56_2, kc_56_5, kc_56_6, kc_56_7, kc_56_10, kc_56_11, kc_56_14, kc_56_15, kf_56_57, kc_56_18, kc_56_20, kc_56_23, kc_56_24, kc_56_27, kc_56_28, kf_56_50, kc_56_31, kc_56_32, kc_56_35, kc_56_38, kc_56_39, kc_56_40, kc_56_41, kf_56_9, kc_56_44, kc_56_45, kc_56_48, kc_56_49, kc_56_50, kc_56_51, kc_56_52, kc_56_55, kc_56_56, kc_56_57, kc_56_60, kc_56_61, kc_56_64, kc_56_65, kc_56_66, tn_Y0, tn_Y1, tn_Y2, tn_Y3, tn_Y4, tn_Y5, tn_Y6, tn_Y7, tn_Y8, tn_Y9, tn_Y10, tn_Y11, tn_Y12, tn_Y13]
  rw [J.1.1.1, nI_eq (by omega) (by omega)]
  have bad : (∀ j, j ≤ 3 → a ≠ nI j) → (nI 1 ≤ 0 → am_AW tn_G tn_Y (56, 40, 0, [some (.ref 0), some (.int a)], [], (upd h.1 4 (nI 1), h.2)) Q) ∧ (¬ nI 1 ≤ 0 → Q (upd h.1 4 (nI 1), h.2) (.inl (some (.int (nI 0))))) := fun q => ⟨fun z => absurd z (by decide), fun _ => h0 q⟩
  refine ⟨fun lt => bad (fun j hj e => ?_), fun nlt => ⟨fun le => ?_, fun nle => bad (fun j hj e => ?_)⟩⟩
  · subst e; exact nI_pos (by omega) lt
  · rcases pk_ix a (n := 4) (by decide) with q | q | ⟨j, hj, q⟩
    · exact absurd q nlt
    · exact absurd (Int32.le_trans q le) (by decide)
    · subst q
      refine ⟨fun ne => ⟨fun _ => ?_, fun z => absurd (show nI 0 ≤ 0 by decide) z⟩, fun e => ⟨fun z => absurd z (by decide), fun _ => h2 j (by omega) rfl e⟩⟩
      refine am_AW.go [] 20 ?_
      simp only [am_Zs, am_zn_1, am_g3, am_a3, am_kz_l, am_kz_r, am_mem, Bool.false_eq_true, am_Rs, am_R0, am_g2, am_al, am_kk_l, am_kk_r, am_step, am_op, am_one, am_two, am_br, am_inv, am_pp, am_ct, am_in, am_no, am_rc, am_s1, am_cut, am_s2, List.getElem?_cons_zero, List.getElem?_cons_succ, List.set_cons_zero, List.set_cons_succ, Value.category, List.cons_append, List.nil_append, am_f0, am_f1, am_f2, am_f3, am_cm1, am_c0, am_c1, am_c2, am_c3, am_c20, am_c40, am_c400, am_c401, am_c1600, true_and, and_true, true_implies, if_true, if_false, Nat.reduceAdd, Nat.reduceSub, Nat.reduceLT, Nat.reduceLeDiff, Nat.reduceEqDiff, reduceIte, Nat.le_refl, or_false, false_and, false_implies, or_true, true_or, implies_true, pk_us, pk_un, am_vs, am_vn, bx_uu, ne_eq, not_false_eq_true, not_true_eq_false, am_b0, am_b1, Nat.not_lt_zero, am_tl0, am_tl1, am_l1, kr_56, kn_56, kl_56, kc_56_0, kc_56_1, kc_56_2, kc_56_5, kc_56_6, kc_56_7, kc_56_10, kc_56_11, kc_56_14, kc_56_15, kf_56_57, kc_56_18, kc_56_20, kc_56_23, kc_56_24, kc_56_27, kc_56_28, kf_56_50, kc_56_31, kc_56_32, kc_56_35, kc_56_38, kc_56_39, kc_56_40, kc_56_41, kf_56_9, kc_56_44, kc_56_45, kc_56_48, kc_56_49, kc_56_50, kc_56_51, kc_56_52, kc_56_55, kc_56_56, kc_56_57, kc_56_60, kc_56_61, kc_56_64, kc_56_65, kc_56_66, tn_Y0, tn_Y1, tn_Y2, tn_Y3, tn_Y4, tn_Y5, tn_Y6, tn_Y7, tn_Y8, tn_Y9, tn_Y10, tn_Y11, tn_Y12, tn_Y13]
      rw [J.1.1.1, cl_ (by omega), nI_add, show nI 1 = 1 by decide, nI_pred]
      refine ⟨vi_ (by omega) (by omega), h1 j _ (by omega) rfl (by omega) (J.sign (by omega) (by omega) ?_ (fun i q1 q2 => ?_) ?_ (fun k q1 => ?_)) ?_⟩
      · simp only [pk_us]
      · simp only [pk_un q1, pk_un q2]
      · simp only [am_vs]
      · simp only [am_vn q1]
      · simp only [pk_un (show (4 : Nat) ≠ 0 by decide), pk_us]
  · subst e
    exact nle (nI_le hj (by omega))
end AD
