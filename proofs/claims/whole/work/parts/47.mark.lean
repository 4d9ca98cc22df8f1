/-! TermNetModel: mark, back. -/
section MB
variable {n m : Nat} {ar : Nat → Nat} {sg : Nat → Option Nat} {pt : Nat → Nat → Nat} {hs : List (Nat × Nat)} {eq : Nat} {P : List (Nat × Nat × Nat)} {h : am_S} {Q : am_Q}
set_option maxRecDepth 20000 in
theorem sp_74l (hN : h.1 1 = nI n) (hn : n ≤ 400) {i0 : Nat} (hi : h.1 2 = nI i0) (h20 : i0 < 20) {g : Nat → Nat} (gr : tn_gr 4 n g h)
    (hE : ∀ h1, (∀ u, u < n → h1.2 8 (400 * i0 + u) = nI (g u)) → (∀ j, j < 400 * i0 → h1.2 8 j = h.2 8 j) → tn_fo 8 h h1 → am_AW tn_G tn_Y (74, 90, 0, [some (.ref 0), some (.int (nI n))], [], h1) Q) :
    ∀ (d t : Nat), n - t = d → t ≤ n → ∀ h1, (∀ u, u < t → h1.2 8 (400 * i0 + u) = nI (g u)) → (∀ j, j < 400 * i0 → h1.2 8 j = h.2 8 j) → tn_fo 8 h h1 → am_AW tn_G tn_Y (74, 55, 0, [some (.ref 0), some (.int (nI t))], [], h1) Q := by
  intro d
  induction d with
  | zero =>
    intro t hd ht h1 q q2 f
    have : t = n := by omega
    subst this
    refine am_AW.go [63, 90] 6 ?_
    simp only [am_Zs, am_zn_1, am_g3, am_a3, am_kz_l, am_kz_r, am_mem, Bool.false_eq_true, am_Rs, am_R0, am_g2, am_al, am_kk_l, am_kk_r, am_step, am_op, am_one, am_two, am_br, am_inv, am_pp, am_ct, am_in, am_no, am_rc, am_s1, am_cut, am_s2, List.getElem?_cons_zero, List.getElem?_cons_succ, List.set_cons_zero, List.set_cons_succ, Value.category, List.cons_append, List.nil_append, am_f0, am_f1, am_f2, am_f3, am_cm1, am_c0, am_c1, am_c2, am_c3, am_c20, am_c40, am_c400, am_c401, am_c1600, true_and, and_true, true_implies, if_true, if_false, Nat.reduceAdd, Nat.reduceSub, Nat.reduceLT, Nat.reduceLeDiff, Nat.reduceEqDiff, reduceIte, Nat.le_refl, or_false, false_and, false_implies, or_true, true_or, implies_true, pk_us, pk_un, am_vs, am_vn, bx_uu, ne_eq, not_false_eq_true, not_true_eq_false, am_b0, am_b1, Nat.not_lt_zero, am_tl0, am_tl1, am_l1, kr_74, kn_74, kl_74, kc_74_0, kc_74_1, kc_74_2, kf_74_87, kc_74_5, kc_74_7, kc_74_10, kc_74_11, kc_74_14, kc_74_15, kf_74_50, kc_74_18, kc_74_19, kc_74_22, kc_74_25, kc_74_26, kc_74_27, kc_74_28, kf_74_25, kc_74_31, kc_74_32, kc_74_35, kc_74_36, kf_74_54, kc_74_39, kc_74_40, kc_74_41, kf_74_28, kc_74_44, kc_74_45, kc_74_48, kc_74_49, kf_74_80, kc_74_52, kc_74_53, kc_74_54, kc_74_55, kc_74_56, kc_74_57, kc_74_60, kc_74_63, kc_74_64, kf_74_31, kc_74_67, kc_74_70, kc_74_71, kc_74_74, kc_74_75, kc_74_76, kc_74_77, kc_74_78, kf_74_19, kc_74_81, kc_74_82, kc_74_83, kc_74_84, kc_74_87, kc_74_90, kc_74_91, kc_74_92, kc_74_95, kc_74_96, kc_74_97, kc_74_100, kc_74_101, kc_74_104, tn_Y0, tn_Y1, tn_Y2, tn_Y3, tn_Y4, tn_Y5, tn_Y6, tn_Y7, tn_Y8, tn_Y9, tn_Y10, tn_Y11, tn_Y12, tn_Y13]
    rw [f.1, hN, nI_leI (by omega) (by omega)]
    exact ⟨fun _ => hE h1 q q2 f, fun z => by omega⟩
  | succ d ih =>
    intro t hd ht h1 q q2 f
    refine am_AW.go [63, 90] 6 ?_
    simp only [am_Zs, am_zn_1, am_g3, am_a3, am_kz_l, am_kz_r, am_mem, Bool.false_eq_true, am_Rs, am_R0, am_g2, am_al, am_kk_l, am_kk_r, am_step, am_op, am_one, am_two, am_br, am_inv, am_pp, am_ct, am_in, am_no, am_rc, am_s1, am_cut, am_s2, List.getElem?_cons_zero, List.getElem?_cons_succ, List.set_cons_zero, List.set_cons_succ, Value.category, List.cons_append, List.nil_append, am_f0, am_f1, am_f2, am_f3, am_cm1, am_c0, am_c1, am_c2, am_c3, am_c20, am_c40, am_c400, am_c401, am_c1600, true_and, and_true, true_implies, if_true, if_false, Nat.reduceAdd, Nat.reduceSub, Nat.reduceLT, Nat.reduceLeDiff, Nat.reduceEqDiff, reduceIte, Nat.le_refl, or_false, false_and, false_implies, or_true, true_or, implies_true, pk_us, pk_un, am_vs, am_vn, bx_uu, ne_eq, not_false_eq_true, not_true_eq_false, am_b0, am_b1, Nat.not_lt_zero, am_tl0, am_tl1, am_l1, kr_74, kn_74, kl_74, kc_74_0, kc_74_1, kc_74_2, kf_74_87, kc_74_5, kc_74_7, kc_74_10, kc_74_11, kc_74_14, kc_74_15, kf_74_50, kc_74_18, kc_74_19, kc_74_22, kc_74_25, kc_74_26, kc_74_27, kc_74_28, kf_74_25, kc_74_31, kc_74_32, kc_74_35, kc_74_36, kf_74_54, kc_74_39, kc_74_40, kc_74_41, kf_74_28, kc_74_44, kc_74_45, kc_74_48, kc_74_49, kf_74_80, kc_74_52, kc_74_53, kc_74_54, kc_74_55, kc_74_56, kc_74_57, kc_74_60, kc_74_63, kc_74_64, kf_74_31, kc_74_67, kc_74_70, kc_74_71, kc_74_74, kc_74_75, kc_74_76, kc_74_77, kc_74_78, kf_74_19, kc_74_81, kc_74_82, kc_74_83, kc_74_84, kc_74_87, kc_74_90, kc_74_91, kc_74_92, kc_74_95, kc_74_96, kc_74_97, kc_74_100, kc_74_101, kc_74_104, tn_Y0, tn_Y1, tn_Y2, tn_Y3, tn_Y4, tn_Y5, tn_Y6, tn_Y7, tn_Y8, tn_Y9, tn_Y10, tn_Y11, tn_Y12, tn_Y13]
    rw [f.1, hN, nI_leI (by omega) (by omega)]
    refine ⟨fun z => by omega, fun _ => ?_⟩
    refine am_AW.go [55] 17 ?_
    simp only [am_Zs, am_zn_1, am_g3, am_a3, am_kz_l, am_kz_r, am_mem, Bool.false_eq_true, am_Rs, am_R0, am_g2, am_al, am_kk_l, am_kk_r, am_step, am_op, am_one, am_two, am_br, am_inv, am_pp, am_ct, am_in, am_no, am_rc, am_s1, am_cut, am_s2, List.getElem?_cons_zero, List.getElem?_cons_succ, List.set_cons_zero, List.set_cons_succ, Value.category, List.cons_append, List.nil_append, am_f0, am_f1, am_f2, am_f3, am_cm1, am_c0, am_c1, am_c2, am_c3, am_c20, am_c40, am_c400, am_c401, am_c1600, true_and, and_true, true_implies, if_true, if_false, Nat.reduceAdd, Nat.reduceSub, Nat.reduceLT, Nat.reduceLeDiff, Nat.reduceEqDiff, reduceIte, Nat.le_refl, or_false, false_and, false_implies, or_true, true_or, implies_true, pk_us, pk_un, am_vs, am_vn, bx_uu, ne_eq, not_false_eq_true, not_true_eq_false, am_b0, am_b1, Nat.not_lt_zero, am_tl0, am_tl1, am_l1, kr_74, kn_74, kl_74, kc_74_0, kc_74_1, kc_74_2, kf_74_87, kc_74_5, kc_74_7, kc_74_10, kc_74_11, kc_74_14, kc_74_15, kf_74_50, kc_74_18, kc_74_19, kc_74_22, kc_74_25, kc_74_26, kc_74_27, kc_74_28, kf_74_25, kc_74_31, kc_74_32, kc_74_35, kc_74_36, kf_74_54, kc_74_39, kc_74_40, kc_74_41, kf_74_28, kc_74_44, kc_74_45, kc_74_48, kc_74_49, kf_74_80, kc_74_52, kc_74_53, kc_74_54, kc_74_55, kc_74_56, kc_74_57, kc_74_60, kc_74_63, kc_74_64, kf_74_31, kc_74_67, kc_74_70, kc_74_71, kc_74_74, kc_74_75, kc_74_76, kc_74_77, kc_74_78, kf_74_19, kc_74_81, kc_74_82, kc_74_83, kc_74_84, kc_74_87, kc_74_90, kc_74_91, kc_74_92, kc_74_95, kc_74_96, kc_74_97, kc_74_100, kc_74_101, kc_74_104, tn_Y0, tn_Y1, tn_Y2, tn_Y3, tn_Y4, tn_Y5, tn_Y6, tn_Y7, tn_Y8, tn_Y9, tn_Y10, tn_Y11, tn_Y12, tn_Y13]
    rw [f.1, hi, pk_mul, nI_add, nI_clamp (by omega), cl_ (by omega), nI_add]
    refine ⟨vi_ (by omega) (by omega), vi_ (by omega) (by omega), ih (t + 1) (by omega) (by omega) _ (fun u hu => ?_) (fun j hj => ?_) ⟨rfl, fun k hk => ?_⟩⟩
    · simp only [am_vs]
      by_cases e : u = t
      · subst e
        rw [pk_us, f.2 4 (by decide)]
        exact gr u (by omega)
      · rw [pk_un (by omega)]; exact q u (by omega)
    · simp only [am_vs]
      rw [pk_un (by omega)]; exact q2 j hj
    · simp only [am_vn hk]; exact f.2 k hk
set_option maxRecDepth 20000 in
/-- mark -/
theorem sp_74 (J : tn_J n m ar sg pt hs eq P h) (h20 : P.length ≤ 20) (hP : tn_PT sg ar pt n hs P) (h1 : ∀ h', P.length < 20 → tn_J n m ar sg pt hs eq ((n, hs.length, eq) :: P) h' → h'.1 4 = nI 0 → Q h' (.inl (some (.int (nI (P.length + 1)))))) (h0 : P.length = 20 → Q (upd h.1 4 (nI 1), h.2) (.inl (some (.int (nI 0))))) :
    am_AW tn_G tn_Y (74, 0, 0, [some (.ref 0), none], [], h) Q := by
  have hn := J.1.le
  refine am_AW.go [27] 15 ?_
  simp only [am_Zs, am_zn_1, am_g3, am_a3, am_kz_l, am_kz_r, am_mem, Bool.false_eq_true, am_Rs, am_R0, am_g2, am_al, am_kk_l, am_kk_r, am_step, am_op, am_one, am_two, am_br, am_inv, am_pp, am_ct, am_in, am_no, am_rc, am_s1, am_cut, am_s2, List.getElem?_cons_zero, List.getElem?_cons_succ, List.set_cons_zero, List.set_cons_succ, Value.category, List.cons_append, List.nil_append, am_f0, am_f1, am_f2, am_f3, am_cm1, am_c0, am_c1, am_c2, am_c3, am_c20, am_c40, am_c400, am_c401, am_c1600, true_and, and_true, true_implies, if_true, if_false, Nat.reduceAdd, Nat.reduceSub, Nat.reduceLT, Nat.reduceLeDiff, Nat.reduceEqDiff, reduceIte, Nat.le_refl, or_false, false_and, false_implies, or_true, true_or, implies_true, pk_us, pk_un, am_vs, am_vn, bx_uu, ne_eq, not_false_eq_true, not_true_eq_false, am_b0, am_b1, Nat.not_lt_zero, am_tl0, am_tl1, am_l1, kr_74, kn_74, kl_74, kc_74_0, kc_74_1, kc_74_2, kf_74_87, kc_74_5, kc_74_7, kc_74_10, kc_74_11, kc_74_14, kc_74_15, kf_74_50, kc_74_18, kc_74_19, kc_74_22, kc_74_25, kc_74_26, kc_74_27, kc_74_28, kf_74_25, kc_74_31, kc_74_32, kc_74_35, kc_74_36, kf_74_54, kc_74_39, kc_74_40, kc_74_41, kf_74_28, kc_74_44, kc_74_45, kc_74_48, kc_74_49, kf_74_80, kc_74_52, kc_74_53, kc_74_54, kc_74_55, kc_74_56, kc_74_57, kc_74_60, kc_74_63, kc_74_64, kf_74_31, kc_74_67, kc_74_70, kc_74_71, kc_74_74, kc_74_75, kc_74_76, kc_74_77, kc_74_78, kf_74_19, kc_74_81, kc_74_82, kc_74_83, kc_74_84, kc_74_87, kc_74_90, kc_74_91, kc_74_92, kc_74_95, kc_74_96, kc_74_97, kc_74_100, kc_74_101, kc_74_104, tn_Y0, tn_Y1, tn_Y2, tn_Y3, tn_Y4, tn_Y5, tn_Y6, tn_Y7, tn_Y8, tn_Y9, tn_Y10, tn_Y11, tn_Y12, tn_Y13]
  rw [J.2.2.2.1, nI_eq (by omega) (by omega)]
  refine ⟨fun ne => ⟨fun _ => ?_, fun z => absurd (show nI 0 ≤ 0 by decide) z⟩, fun e => ⟨fun z => absurd z (by decide), fun _ => h0 e⟩⟩
  have hl : P.length < 20 := by omega
  refine am_AW.go [55] 18 ?_
  simp only [am_Zs, am_zn_1, am_g3, am_a3, am_kz_l, am_kz_r, am_mem, Bool.false_eq_true, am_Rs, am_R0, am_g2, am_al, am_kk_l, am_kk_r, am_step, am_op, am_one, am_two, am_br, am_inv, am_pp, am_ct, am_in, am_no, am_rc, am_s1, am_cut, am_s2, List.getElem?_cons_zero, List.getElem?_cons_succ, List.set_cons_zero, List.set_cons_succ, Value.category, List.cons_append, List.nil_append, am_f0, am_f1, am_f2, am_f3, am_cm1, am_c0, am_c1, am_c2, am_c3, am_c20, am_c40, am_c400, am_c401, am_c1600, true_and, and_true, true_implies, if_true, if_false, Nat.reduceAdd, Nat.reduceSub, Nat.reduceLT, Nat.reduceLeDiff, Nat.reduceEqDiff, reduceIte, Nat.le_refl, or_false, false_and, false_implies, or_true, true_or, implies_true, pk_us, pk_un, am_vs, am_vn, bx_uu, ne_eq, not_false_eq_true, not_true_eq_false, am_b0, am_b1, Nat.not_lt_zero, am_tl0, am_tl1, am_l1, kr_74, kn_74, kl_74, kc_74_0, kc_74_1, kc_74_2, kf_74_87, kc_74_5, kc_74_7, kc_74_10, kc_74_11, kc_74_14, kc_74_15, kf_74_50, kc_74_18, kc_74_19, kc_74_22, kc_74_25, kc_74_26, kc_74_27, kc_74_28, kf_74_25, kc_74_31, kc_74_32, kc_74_35, kc_74_36, kf_74_54, kc_74_39, kc_74_40, kc_74_41, kf_74_28, kc_74_44, kc_74_45, kc_74_48, kc_74_49, kf_74_80, kc_74_52, kc_74_53, kc_74_54, kc_74_55, kc_74_56, kc_74_57, kc_74_60, kc_74_63, kc_74_64, kf_74_31, kc_74_67, kc_74_70, kc_74_71, kc_74_74, kc_74_75, kc_74_76, kc_74_77, kc_74_78, kf_74_19, kc_74_81, kc_74_82, kc_74_83, kc_74_84, kc_74_87, kc_74_90, kc_74_91, kc_74_92, kc_74_95, kc_74_96, kc_74_97, kc_74_100, kc_74_101, kc_74_104, tn_Y0, tn_Y1, tn_Y2, tn_Y3, tn_Y4, tn_Y5, tn_Y6, tn_Y7, tn_Y8, tn_Y9, tn_Y10, tn_Y11, tn_Y12, tn_Y13]
  rw [J.2.2.2.1, J.1.nn, J.2.2.1, cl_ (by omega)]
  refine ⟨vi_ (by omega) (by omega), vi_ (by omega) (by omega), ?_⟩
  refine sp_74l (h := (upd h.1 4 (nI 0), va_up (va_up h.2 6 (upd (h.2 6) P.length (nI n))) 7 (upd (h.2 7) P.length (nI eq)))) (g := pu_hg hs) (i0 := P.length) ?_ hn ?_ hl (fun t ht => ?_) (fun h3 q1 q2 f => ?_) _ 0 rfl (Nat.zero_le _) _ (fun u hu => absurd hu (Nat.not_lt_zero _)) (fun _ _ => rfl) tn_fo.rf
  · simp only [pk_un (show (1 : Nat) ≠ 4 by decide)]; exact J.1.nn
  · simp only [pk_un (show (2 : Nat) ≠ 4 by decide)]; exact J.2.2.2.1
  · simp only [am_vn (show (4 : Nat) ≠ 7 by decide), am_vn (show (4 : Nat) ≠ 6 by decide)]; exact J.2.1 t ht
  · have num : h3.1 = upd h.1 4 (nI 0) := f.1
    have row : ∀ k, k ≠ 6 → k ≠ 7 → k ≠ 8 → h3.2 k = h.2 k := fun k k6 k7 k8 => by
      rw [f.2 k k8]
      simp only [am_vn k6, am_vn k7]
    have r6 : h3.2 6 = upd (h.2 6) P.length (nI n) := by
      rw [f.2 6 (by decide)]
      simp only [am_vn (show (6 : Nat) ≠ 7 by decide), am_vs]
    have r7 : h3.2 7 = upd (h.2 7) P.length (nI eq) := by
      rw [f.2 7 (by decide)]
      simp only [am_vs]
    refine am_AW.go [] 11 ?_
    simp only [am_Zs, am_zn_1, am_g3, am_a3, am_kz_l, am_kz_r, am_mem, Bool.false_eq_true, am_Rs, am_R0, am_g2, am_al, am_kk_l, am_kk_r, am_step, am_op, am_one, am_two, am_br, am_inv, am_pp, am_ct, am_in, am_no, am_rc, am_s1, am_cut, am_s2, List.getElem?_cons_zero, List.getElem?_cons_succ, List.set_cons_zero, List.set_cons_succ, Value.category, List.cons_append, List.nil_append, am_f0, am_f1, am_f2, am_f3, am_cm1, am_c0, am_c1, am_c2, am_c3, am_c20, am_c40, am_c400, am_c401, am_c1600, true_and, and_true, true_implies, if_true, if_false, Nat.reduceAdd, Nat.reduceSub, Nat.reduceLT, Nat.reduceLeDiff, Nat.reduceEqDiff, reduceIte, Nat.le_refl, or_false, false_and, false_implies, or_true, true_or, implies_true, pk_us, pk_un, am_vs, am_vn, bx_uu, ne_eq, not_false_eq_true, not_true_eq_false, am_b0, am_b1, Nat.not_lt_zero, am_tl0, am_tl1, am_l1, kr_74, kn_74, kl_74, kc_74_0, kc_74_1, kc_74_2, kf_74_87, kc_74_5, kc_74_7, kc_74_10, kc_74_11, kc_74_14, kc_74_15, kf_74_50, kc_74_18, kc_74_19, kc_74_22, kc_74_25, kc_74_26, kc_74_27, kc_74_28, kf_74_25, kc_74_31, kc_74_32, kc_74_35, kc_74_36, kf_74_54, kc_74_39, kc_74_40, kc_74_41, kf_74_28, kc_74_44, kc_74_45, kc_74_48, kc_74_49, kf_74_80, kc_74_52, kc_74_53, kc_74_54, kc_74_55, kc_74_56, kc_74_57, kc_74_60, kc_74_63, kc_74_64, kf_74_31, kc_74_67, kc_74_70, kc_74_71, kc_74_74, kc_74_75, kc_74_76, kc_74_77, kc_74_78, kf_74_19, kc_74_81, kc_74_82, kc_74_83, kc_74_84, kc_74_87, kc_74_90, kc_74_91, kc_74_92, kc_74_95, kc_74_96, kc_74_97, kc_74_100, kc_74_101, kc_74_104, tn_Y0, tn_Y1, tn_Y2, tn_Y3, tn_Y4, tn_Y5, tn_Y6, tn_Y7, tn_Y8, tn_Y9, tn_Y10, tn_Y11, tn_Y12, tn_Y13]
    rw [num]
    simp only [pk_un (show (2 : Nat) ≠ 4 by decide)]
    rw [J.2.2.2.1, nI_add]
    refine h1 _ hl ⟨J.1.fr (fun i hi => ?_) (fun k _ _ => row k (by omega) (by omega) (by omega)), fun t ht => ?_, ?_, ?_, fun i q hq => ?_⟩ ?_
    · simp only [pk_un (show i ≠ 2 by omega), pk_un (show i ≠ 4 by omega)]
    · show h3.2 4 t = _
      rw [row 4 (by decide) (by decide) (by decide)]; exact J.2.1 t ht
    · simp only [pk_un (show (3 : Nat) ≠ 2 by decide), pk_un (show (3 : Nat) ≠ 4 by decide)]; exact J.2.2.1
    · simp only [pk_us, List.length_cons]
    · show h3.2 6 i = _ ∧ h3.2 7 i = _ ∧ ∀ t, t < q.1 → h3.2 8 (400 * i + t) = _
      rw [List.reverse_cons] at hq
      by_cases e : i = P.length
      · subst e
        rw [List.getElem?_append_right (by simp)] at hq
        simp at hq
        subst hq
        rw [r6, r7, pk_us, pk_us]
        refine ⟨rfl, rfl, fun t ht => ?_⟩
        rw [q1 t ht]
        simp
      · have hi : i < P.length := by
          have := (List.getElem?_eq_some_iff.mp hq).1
          simp at this
          omega
        rw [List.getElem?_append_left (by simpa using hi)] at hq
        obtain ⟨p1, p2, p3⟩ := J.2.2.2.2 i q hq
        have hm : q ∈ P := List.mem_reverse.mp (List.mem_of_getElem? hq)
        have := (hP.len q hm).2
        rw [r6, r7, pk_un e, pk_un e]
        refine ⟨p1, p2, fun t ht => ?_⟩
        rw [q2 _ (by omega)]
        simp only [am_vn (show (8 : Nat) ≠ 7 by decide), am_vn (show (8 : Nat) ≠ 6 by decide)]
        exact p3 t ht
    · simp only [pk_un (show (4 : Nat) ≠ 2 by decide), pk_us]
end MB
