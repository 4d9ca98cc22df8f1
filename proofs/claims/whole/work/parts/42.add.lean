/-! TermNetModel: add, unknown, term. -/
section TE
variable {n m : Nat} {ar : Nat → Nat} {sg sg' : Nat → Option Nat} {pt pt' : Nat → Nat → Nat} {hs hs' : List (Nat × Nat)} {eq : Nat} {P : List (Nat × Nat × Nat)} {h : am_S} {Q : am_Q}
theorem tn_B.new (B : tn_B n m ar sg pt h) (hn : n < 400) (a : pu_al n sg sg' ar ar pt pt') (hT : ∀ k, k < pu_np sg' ar n → pt' n k < n) (hm : ∀ s, sg' n = some s → s < m) {h' : am_S}
    (f0 : h'.1 0 = h.1 0) (f1 : h'.1 1 = nI (n + 1)) (f2 : h'.2 1 = h.2 1) (f3 : h'.2 2 n = tn_o (sg' n)) (f3' : ∀ t, t < n → h'.2 2 t = h.2 2 t) (f4 : ∀ k, k < pu_np sg' ar n → h'.2 3 (3 * n + k) = nI (pt' n k)) (f4' : ∀ i, i < 3 * n → h'.2 3 i = h.2 3 i) : tn_B (n + 1) m ar sg' pt' h' := by
  refine ⟨⟨by rw [f0]; exact B.1.1, B.1.2⟩, ⟨f1, by omega⟩, fun s q => by rw [f2]; exact B.2.2.1 s q, fun t ht => ?_, B.T.more a hT⟩
  by_cases e : t = n
  · subst e; exact ⟨f3, hm, f4⟩
  · have htn : t < n := by omega
    obtain ⟨a1, a2, a3⟩ := a t htn
    have p3 := B.p3 htn
    refine ⟨by rw [f3' t htn, a1]; exact B.sn htn, fun s es => B.sm htn (by rw [← a1]; exact es), fun k hk => ?_⟩
    rw [a2] at hk
    rw [f4' _ (by omega), a3 k hk]
    exact B.pa htn hk
set_option maxRecDepth 20000 in
/-- add -/
theorem sp_58 (J : tn_J n m ar sg pt hs eq P h) (hV : pu_V n hs) (hP : tn_PT sg ar pt n hs P) (hn : n < 400) (al : pu_al n sg sg' ar ar pt pt') (hT : ∀ k, k < pu_np sg' ar n → pt' n k < n) (hm : ∀ s, sg' n = some s → s < m) {s a b c : Int32} (hs9 : s = tn_o (sg' n)) (h3 : pu_np sg' ar n ≤ 3)
    (ha : ∀ k, k < pu_np sg' ar n → (if k = 0 then a else if k = 1 then b else c) = nI (pt' n k)) (R : pu_Res (n + 1) sg' ar pt' (pu_hg hs) 0 0 (pu_hg hs')) (hx : ∃ ms, hs' = ms ++ hs)
    (hQ : ∀ h', tn_J (n + 1) m ar sg' pt' hs' eq P h' → h'.1 4 = h.1 4 → Q h' (.inl (some (.int (nI n))))) :
    am_AW tn_G tn_Y (58, 0, 0, [some (.ref 0), some (.int s), some (.int a), some (.int b), some (.int c), none], [], h) Q := by
  have fin : ∀ h2 : am_S, h2.1 = h.1 → h2.2 2 = upd (h.2 2) n s → h2.2 3 = upd (upd (upd (h.2 3) (3 * n) a) (3 * n + 1) b) (3 * n + 2) c → h2.2 4 = upd (h.2 4) n (nI n) → (∀ k, k ≠ 2 → k ≠ 3 → k ≠ 4 → h2.2 k = h.2 k) → am_AW tn_G tn_Y (58, 64, 0, [some (.ref 0), some (.int s), some (.int a), some (.int b), some (.int c), none], [], h2) Q := fun h2 e1 e2 e3 e4 e5 => by
    have e10 : h2.1 1 = nI n := by rw [e1]; exact J.1.nn
    refine am_AW.go [] 18 ?_
    simp only [am_Zs, am_zn_1, am_g3, am_a3, am_kz_l, am_kz_r, am_mem, Bool.false_eq_true, am_Rs, am_R0, am_g2, am_al, am_kk_l, am_kk_r, am_step, am_op, am_one, am_two, am_br, am_inv, am_pp, am_ct, am_in, am_no, am_rc, am_s1, am_cut, am_s2, List.getElem?_cons_zero, List.getElem?_cons_succ, List.set_cons_zero, List.set_cons_succ, Value.category, List.cons_append, List.nil_append, am_f0, am_f1, am_f2, am_f3, am_cm1, am_c0, am_c1, am_c2, am_c3, am_c20, am_c40, am_c400, am_c401, am_c1600, true_and, and_true, true_implies, if_true, if_false, Nat.reduceAdd, Nat.reduceSub, Nat.reduceLT, Nat.reduceLeDiff, Nat.reduceEqDiff, reduceIte, Nat.le_refl, or_false, false_and, false_implies, or_true, true_or, implies_true, pk_us, pk_un, am_vs, am_vn, bx_uu, ne_eq, not_false_eq_true, not_true_eq_false, am_b0, am_b1, Nat.not_lt_zero, am_tl0, am_tl1, am_l1, kr_58, kn_58, kl_58, kc_58_0, kc_58_1, kf_58_13, kc_58_4, kc_58_5, kf_58_54, kc_58_8, kc_58_9, kc_58_10, kc_58_11, kf_58_16, kc_58_14, kc_58_15, kc_58_16, kc_58_19, kc_58_20, kc_58_21, kc_58_22, kc_58_23, kc_58_26, kc_58_27, kc_58_28, kc_58_31, kc_58_32, kc_58_33, kc_58_34, kc_58_35, kc_58_36, kc_58_37, kc_58_40, kc_58_41, kc_58_42, kc_58_45, kc_58_46, kc_58_47, kc_58_48, kc_58_50, kc_58_51, kc_58_52, kf_58_19, kc_58_55, kc_58_56, kc_58_59, kc_58_60, kc_58_63, kc_58_64, kc_58_65, kc_58_66, kc_58_69, kc_58_70, kc_58_71, kc_58_74, kc_58_75, kc_58_76, kc_58_79, kl_59, ko_59, kn_59, ka_58_60, kc_58_82, kc_58_84, kc_58_85, kc_58_88, kc_58_89, kc_58_90, tn_Y0, tn_Y1, tn_Y2, tn_Y3, tn_Y4, tn_Y5, tn_Y6, tn_Y7, tn_Y8, tn_Y9, tn_Y10, tn_Y11, tn_Y12, tn_Y13]
    rw [e10, nI_add]
    have B3 : tn_B (n + 1) m ar sg' pt' (upd h2.1 1 (nI (n + 1)), h2.2) := by
      refine J.1.new hn al hT hm ?_ ?_ (e5 1 (by decide) (by decide) (by decide)) ?_ (fun t ht => ?_) (fun k hk => ?_) (fun i hi => ?_)
      · simp only [pk_un (show (0 : Nat) ≠ 1 by decide)]; rw [e1]
      · simp only [pk_us]
      · show h2.2 2 n = _
        rw [e2, pk_us, hs9]
      · show h2.2 2 t = _
        rw [e2, pk_un (by omega)]
      · show h2.2 3 (3 * n + k) = _
        rw [e3, ← ha k hk]
        simp only [upd]
        by_cases k0 : k = 0
        · subst k0
          rw [if_neg (by omega), if_neg (by omega), if_pos (by omega), if_pos rfl]
        · by_cases k1 : k = 1
          · subst k1
            rw [if_neg (by omega), if_pos rfl, if_neg (by omega), if_pos rfl]
          · have k2 : k = 2 := by omega
            subst k2
            rw [if_pos rfl, if_neg (by omega), if_neg (by omega)]
      · show h2.2 3 i = _
        rw [e3]
        simp only [upd]
        rw [if_neg (by omega), if_neg (by omega), if_neg (by omega)]
    have gr3 : tn_gr 4 (n + 1) (pu_hg hs) (upd h2.1 1 (nI (n + 1)), h2.2) := fun t ht => by
      show h2.2 4 t = _
      rw [e4]
      by_cases e : t = n
      · subst e; rw [pk_us, pu_hg_new hV t (Nat.le_refl _)]
      · rw [pk_un e]; exact J.2.1 t (by omega)
    refine sp_59 B3 tn_Y4 (by decide) (hV.mono (Nat.le_succ n)) gr3 (fun h4 f4 hno => absurd R.1.2.2.2.1 (hno _ R.1.1 R.1.2.1 R.1.2.2.1)) (fun hs1 h4 v1 ⟨ns, v2⟩ v3 v4 v5 v6 v7 => ?_)
    simp only [am_Zs, am_zn_1, am_g3, am_a3, am_kz_l, am_kz_r, am_mem, Bool.false_eq_true, am_Rs, am_R0, am_g2, am_al, am_kk_l, am_kk_r, am_step, am_op, am_one, am_two, am_br, am_inv, am_pp, am_ct, am_in, am_no, am_rc, am_s1, am_cut, am_s2, List.getElem?_cons_zero, List.getElem?_cons_succ, List.set_cons_zero, List.set_cons_succ, Value.category, List.cons_append, List.nil_append, am_f0, am_f1, am_f2, am_f3, am_cm1, am_c0, am_c1, am_c2, am_c3, am_c20, am_c40, am_c400, am_c401, am_c1600, true_and, and_true, true_implies, if_true, if_false, Nat.reduceAdd, Nat.reduceSub, Nat.reduceLT, Nat.reduceLeDiff, Nat.reduceEqDiff, reduceIte, Nat.le_refl, or_false, false_and, false_implies, or_true, true_or, implies_true, pk_us, pk_un, am_vs, am_vn, bx_uu, ne_eq, not_false_eq_true, not_true_eq_false, am_b0, am_b1, Nat.not_lt_zero, am_tl0, am_tl1, am_l1, kr_58, kn_58, kl_58, kc_58_0, kc_58_1, kf_58_13, kc_58_4, kc_58_5, kf_58_54, kc_58_8, kc_58_9, kc_58_10, kc_58_11, kf_58_16, kc_58_14, kc_58_15, kc_58_16, kc_58_19, kc_58_20, kc_58_21, kc_58_22, kc_58_23, kc_58_26, kc_58_27, kc_58_28, kc_58_31, kc_58_32, kc_58_33, kc_58_34, kc_58_35, kc_58_36, kc_58_37, kc_58_40, kc_58_41, kc_58_42, kc_58_45, kc_58_46, kc_58_47, kc_58_48, kc_58_50, kc_58_51, kc_58_52, kf_58_19, kc_58_55, kc_58_56, kc_58_59, kc_58_60, kc_58_63, kc_58_64, kc_58_65, kc_58_66, kc_58_69, kc_58_70, kc_58_71, kc_58_74, kc_58_75, kc_58_76, kc_58_79, kl_59, ko_59, kn_59, ka_58_60, kc_58_82, kc_58_84, kc_58_85, kc_58_88, kc_58_89, kc_58_90, tn_Y0, tn_Y1, tn_Y2, tn_Y3, tn_Y4, tn_Y5, tn_Y6, tn_Y7, tn_Y8, tn_Y9, tn_Y10, tn_Y11, tn_Y12, tn_Y13]
    have B4 := B3.o (by decide) v7
    have le1 : pu_le (n + 1) (pu_hg hs) (pu_hg hs1) := fun i j _ _ e => by rw [v2]; exact pu_hg_sub ns e
    have same := pu_eq_of_le v1.part R.1.1 (v5 _ R.1.1 R.1.2.1 R.1.2.2.1 R.1.2.2.2.1) (R.2.2 _ ⟨v1.part, v3, v4, le1, rfl⟩)
    rw [B4.nn, show nI 1 = 1 by decide, nI_pred]
    obtain ⟨ms, hms⟩ := hx
    refine hQ h4 ⟨B4, fun t ht => by rw [v6 t ht, same t ht], ?_, ?_, ?_⟩ ?_
    · rw [v7.1]
      simp only [pk_un (show (3 : Nat) ≠ 1 by decide)]
      rw [e1]; exact J.2.2.1
    · rw [v7.1]
      simp only [pk_un (show (2 : Nat) ≠ 1 by decide)]
      rw [e1]; exact J.2.2.2.1
    · rw [hms]
      exact J.pts hP (fun k k1 k2 => by rw [v7.2 k (by omega)]; exact e5 k (by omega) (by omega) (by omega))
    · rw [v7.1]
      simp only [pk_un (show (4 : Nat) ≠ 1 by decide)]
      rw [e1]
  refine am_AW.go [36] 27 ?_
  simp only [am_Zs, am_zn_1, am_g3, am_a3, am_kz_l, am_kz_r, am_mem, Bool.false_eq_true, am_Rs, am_R0, am_g2, am_al, am_kk_l, am_kk_r, am_step, am_op, am_one, am_two, am_br, am_inv, am_pp, am_ct, am_in, am_no, am_rc, am_s1, am_cut, am_s2, List.getElem?_cons_zero, List.getElem?_cons_succ, List.set_cons_zero, List.set_cons_succ, Value.category, List.cons_append, List.nil_append, am_f0, am_f1, am_f2, am_f3, am_cm1, am_c0, am_c1, am_c2, am_c3, am_c20, am_c40, am_c400, am_c401, am_c1600, true_and, and_true, true_implies, if_true, if_false, Nat.reduceAdd, Nat.reduceSub, Nat.reduceLT, Nat.reduceLeDiff, Nat.reduceEqDiff, reduceIte, Nat.le_refl, or_false, false_and, false_implies, or_true, true_or, implies_true, pk_us, pk_un, am_vs, am_vn, bx_uu, ne_eq, not_false_eq_true, not_true_eq_false, am_b0, am_b1, Nat.not_lt_zero, am_tl0, am_tl1, am_l1, kr_58, kn_58, kl_58, kc_58_0, kc_58_1, kf_58_13, kc_58_4, kc_58_5, kf_58_54, kc_58_8, kc_58_9, kc_58_10, kc_58_11, kf_58_16, kc_58_14, kc_58_15, kc_58_16, kc_58_19, kc_58_20, kc_58_21, kc_58_22, kc_58_23, kc_58_26, kc_58_27, kc_58_28, kc_58_31, kc_58_32, kc_58_33, kc_58_34, kc_58_35, kc_58_36, kc_58_37, kc_58_40, kc_58_41, kc_58_42, kc_58_45, kc_58_46, kc_58_47, kc_58_48, kc_58_50, kc_58_51, kc_58_52, kf_58_19, kc_58_55, kc_58_56, kc_58_59, kc_58_60, kc_58_63, kc_58_64, kc_58_65, kc_58_66, kc_58_69, kc_58_70, kc_58_71, kc_58_74, kc_58_75, kc_58_76, kc_58_79, kl_59, ko_59, kn_59, ka_58_60, kc_58_82, kc_58_84, kc_58_85, kc_58_88, kc_58_89, kc_58_90, tn_Y0, tn_Y1, tn_Y2, tn_Y3, tn_Y4, tn_Y5, tn_Y6, tn_Y7, tn_Y8, tn_Y9, tn_Y10, tn_Y11, tn_Y12, tn_Y13]
  rw [J.1.nn, cl_ (by omega), pk_mul, nI_add, nI_clamp (by omega), nI_clamp (by omega)]
  refine ⟨vi_ (by omega) (by omega), vi_ (by omega) (by omega), vi_ (by omega) (by omega), ?_⟩
  refine am_AW.go [64] 20 ?_
  simp only [am_Zs, am_zn_1, am_g3, am_a3, am_kz_l, am_kz_r, am_mem, Bool.false_eq_true, am_Rs, am_R0, am_g2, am_al, am_kk_l, am_kk_r, am_step, am_op, am_one, am_two, am_br, am_inv, am_pp, am_ct, am_in, am_no, am_rc, am_s1, am_cut, am_s2, List.getElem?_cons_zero, List.getElem?_cons_succ, List.set_cons_zero, List.set_cons_succ, Value.category, List.cons_append, List.nil_append, am_f0, am_f1, am_f2, am_f3, am_cm1, am_c0, am_c1, am_c2, am_c3, am_c20, am_c40, am_c400, am_c401, am_c1600, true_and, and_true, true_implies, if_true, if_false, Nat.reduceAdd, Nat.reduceSub, Nat.reduceLT, Nat.reduceLeDiff, Nat.reduceEqDiff, reduceIte, Nat.le_refl, or_false, false_and, false_implies, or_true, true_or, implies_true, pk_us, pk_un, am_vs, am_vn, bx_uu, ne_eq, not_false_eq_true, not_true_eq_false, am_b0, am_b1, Nat.not_lt_zero, am_tl0, am_tl1, am_l1, kr_58, kn_58, kl_58, kc_58_0, kc_58_1, kf_58_13, kc_58_4, kc_58_5, kf_58_54, kc_58_8, kc_58_9, kc_58_10, kc_58_11, kf_58_16, kc_58_14, kc_58_15, kc_58_16, kc_58_19, kc_58_20, kc_58_21, kc_58_22, kc_58_23, kc_58_26, kc_58_27, kc_58_28, kc_58_31, kc_58_32, kc_58_33, kc_58_34, kc_58_35, kc_58_36, kc_58_37, kc_58_40, kc_58_41, kc_58_42, kc_58_45, kc_58_46, kc_58_47, kc_58_48, kc_58_50, kc_58_51, kc_58_52, kf_58_19, kc_58_55, kc_58_56, kc_58_59, kc_58_60, kc_58_63, kc_58_64, kc_58_65, kc_58_66, kc_58_69, kc_58_70, kc_58_71, kc_58_74, kc_58_75, kc_58_76, kc_58_79, kl_59, ko_59, kn_59, ka_58_60, kc_58_82, kc_58_84, kc_58_85, kc_58_88, kc_58_89, kc_58_90, tn_Y0, tn_Y1, tn_Y2, tn_Y3, tn_Y4, tn_Y5, tn_Y6, tn_Y7, tn_Y8, tn_Y9, tn_Y10, tn_Y11, tn_Y12, tn_Y13]
  rw [J.1.nn, cl_ (by omega), pk_mul, nI_add, nI_clamp (by omega)]
  refine ⟨vi_ (by omega) (by omega), vi_ (by omega) (by omega), ?_⟩
  refine fin _ rfl ?_ ?_ ?_ (fun k k1 k2 k3 => ?_)
  · simp only [am_vs, am_vn (show (2 : Nat) ≠ 4 by decide), am_vn (show (2 : Nat) ≠ 3 by decide)]
  · simp only [am_vs, am_vn (show (3 : Nat) ≠ 4 by decide), am_vn (show (3 : Nat) ≠ 2 by decide)]
  · simp only [am_vs, am_vn (show (4 : Nat) ≠ 3 by decide), am_vn (show (4 : Nat) ≠ 2 by decide)]
  · simp only [am_vn k1, am_vn k2, am_vn k3]
set_option maxRecDepth 20000 in
/-- unknown -/
theorem sp_57 (J : tn_J n m ar sg pt hs eq P h) (hV : pu_V n hs) (hP : tn_PT sg ar pt n hs P)
    (h1 : n < 400 → pu_Res (n + 1) (fun t => if t = n then none else sg t) ar (fun t k => if t = n then 0 else pt t k) (pu_hg hs) 0 0 (pu_hg hs)) (hQ : ∀ h', n < 400 → tn_J (n + 1) m ar (fun t => if t = n then none else sg t) (fun t k => if t = n then 0 else pt t k) hs eq P h' → h'.1 4 = nI 0 → Q h' (.inl (some (.int (nI n)))))
    (h0 : n = 400 → Q (upd h.1 4 (nI 1), h.2) (.inl (some (.int (nI 0))))) : am_AW tn_G tn_Y (57, 0, 0, [some (.ref 0)], [], h) Q := by
  have hn := J.1.le
  refine am_AW.go [30] 15 ?_
  simp only [am_Zs, am_zn_1, am_g3, am_a3, am_kz_l, am_kz_r, am_mem, Bool.false_eq_true, am_Rs, am_R0, am_g2, am_al, am_kk_l, am_kk_r, am_step, am_op, am_one, am_two, am_br, am_inv, am_pp, am_ct, am_in, am_no, am_rc, am_s1, am_cut, am_s2, List.getElem?_cons_zero, List.getElem?_cons_succ, List.set_cons_zero, List.set_cons_succ, Value.category, List.cons_append, List.nil_append, am_f0, am_f1, am_f2, am_f3, am_cm1, am_c0, am_c1, am_c2, am_c3, am_c20, am_c40, am_c400, am_c401, am_c1600, true_and, and_true, true_implies, if_true, if_false, Nat.reduceAdd, Nat.reduceSub, Nat.reduceLT, Nat.reduceLeDiff, Nat.reduceEqDiff, reduceIte, Nat.le_refl, or_false, false_and, false_implies, or_true, true_or, implies_true, pk_us, pk_un, am_vs, am_vn, bx_uu, ne_eq, not_false_eq_true, not_true_eq_false, am_b0, am_b1, Nat.not_lt_zero, am_tl0, am_tl1, am_l1, kr_57, kn_57, kl_57, kc_57_0, kc_57_1, kc_57_2, kf_57_54, kc_57_5, kc_57_8, kc_57_11, kc_57_12, kc_57_15, kc_57_16, kf_57_50, kc_57_19, kc_57_20, kc_57_23, kc_57_26, kc_57_27, kc_57_30, kc_57_31, kc_57_32, kc_57_33, kc_57_34, kc_57_35, kl_58, ko_58, kn_58, ka_57_64, kc_57_38, tn_Y0, tn_Y1, tn_Y2, tn_Y3, tn_Y4, tn_Y5, tn_Y6, tn_Y7, tn_Y8, tn_Y9, tn_Y10, tn_Y11, tn_Y12, tn_Y13]
  rw [J.1.nn, nI_eq (by omega) (by omega)]
  refine ⟨fun ne => ⟨fun _ => ?_, fun z => absurd (show nI 0 ≤ 0 by decide) z⟩, fun e => ⟨fun z => absurd z (by decide), fun _ => h0 e⟩⟩
  have h4 : n < 400 := by omega
  have np0 : pu_np (fun t => if t = n then none else sg t) ar n = 0 := by simp [pu_np]
  refine am_AW.go [] 9 ?_
  simp only [am_Zs, am_zn_1, am_g3, am_a3, am_kz_l, am_kz_r, am_mem, Bool.false_eq_true, am_Rs, am_R0, am_g2, am_al, am_kk_l, am_kk_r, am_step, am_op, am_one, am_two, am_br, am_inv, am_pp, am_ct, am_in, am_no, am_rc, am_s1, am_cut, am_s2, List.getElem?_cons_zero, List.getElem?_cons_succ, List.set_cons_zero, List.set_cons_succ, Value.category, List.cons_append, List.nil_append, am_f0, am_f1, am_f2, am_f3, am_cm1, am_c0, am_c1, am_c2, am_c3, am_c20, am_c40, am_c400, am_c401, am_c1600, true_and, and_true, true_implies, if_true, if_false, Nat.reduceAdd, Nat.reduceSub, Nat.reduceLT, Nat.reduceLeDiff, Nat.reduceEqDiff, reduceIte, Nat.le_refl, or_false, false_and, false_implies, or_true, true_or, implies_true, pk_us, pk_un, am_vs, am_vn, bx_uu, ne_eq, not_false_eq_true, not_true_eq_false, am_b0, am_b1, Nat.not_lt_zero, am_tl0, am_tl1, am_l1, kr_57, kn_57, kl_57, kc_57_0, kc_57_1, kc_57_2, kf_57_54, kc_57_5, kc_57_8, kc_57_11, kc_57_12, kc_57_15, kc_57_16, kf_57_50, kc_57_19, kc_57_20, kc_57_23, kc_57_26, kc_57_27, kc_57_30, kc_57_31, kc_57_32, kc_57_33, kc_57_34, kc_57_35, kl_58, ko_58, kn_58, ka_57_64, kc_57_38, tn_Y0, tn_Y1, tn_Y2, tn_Y3, tn_Y4, tn_Y5, tn_Y6, tn_Y7, tn_Y8, tn_Y9, tn_Y10, tn_Y11, tn_Y12, tn_Y13]
  refine sp_58 (J.fA tn_fA.t) hV hP h4 (tn_al_new none (fun _ => 0)) (fun k hk => by rw [np0] at hk; omega) (fun s q => by simp at q) (by simp [tn_o]) (by rw [np0]; omega) (fun k hk => by rw [np0] at hk; omega) (h1 h4) ⟨[], rfl⟩ (fun h' J' e => ?_)
  simp only [am_Zs, am_zn_1, am_g3, am_a3, am_kz_l, am_kz_r, am_mem, Bool.false_eq_true, am_Rs, am_R0, am_g2, am_al, am_kk_l, am_kk_r, am_step, am_op, am_one, am_two, am_br, am_inv, am_pp, am_ct, am_in, am_no, am_rc, am_s1, am_cut, am_s2, List.getElem?_cons_zero, List.getElem?_cons_succ, List.set_cons_zero, List.set_cons_succ, Value.category, List.cons_append, List.nil_append, am_f0, am_f1, am_f2, am_f3, am_cm1, am_c0, am_c1, am_c2, am_c3, am_c20, am_c40, am_c400, am_c401, am_c1600, true_and, and_true, true_implies, if_true, if_false, Nat.reduceAdd, Nat.reduceSub, Nat.reduceLT, Nat.reduceLeDiff, Nat.reduceEqDiff, reduceIte, Nat.le_refl, or_false, false_and, false_implies, or_true, true_or, implies_true, pk_us, pk_un, am_vs, am_vn, bx_uu, ne_eq, not_false_eq_true, not_true_eq_false, am_b0, am_b1, Nat.not_lt_zero, am_tl0, am_tl1, am_l1, kr_57, kn_57, kl_57, kc_57_0, kc_57_1, kc_57_2, kf_57_54, kc_57_5, kc_57_8, kc_57_11, kc_57_12, kc_57_15, kc_57_16, kf_57_50, kc_57_19, kc_57_20, kc_57_23, kc_57_26, kc_57_27, kc_57_30, kc_57_31, kc_57_32, kc_57_33, kc_57_34, kc_57_35, kl_58, ko_58, kn_58, ka_57_64, kc_57_38, tn_Y0, tn_Y1, tn_Y2, tn_Y3, tn_Y4, tn_Y5, tn_Y6, tn_Y7, tn_Y8, tn_Y9, tn_Y10, tn_Y11, tn_Y12, tn_Y13]
  exact hQ h' h4 J' (by rw [e]; simp only [pk_us])
end TE
