/-! Groups: settling, undoing. -/
section ST
variable {n m : Nat} {ar : Nat → Nat} {sg : Nat → Option Nat} {pt : Nat → Nat → Nat} {hs : List (Nat × Nat)} {h : am_S} {Q : am_Q}
/-- joinParts, its loop -/
theorem sp_8l (v : Option Value) {x c : Nat} (hx : x < n) (hc : c < n) (hs2 : sg x = sg c) (hQ : ∀ h', tn_C n m ar sg pt (pu_jp pt x c (pu_np sg ar x) hs) h' → tn_fG h h' → Q h' (.inl (some (.int (nI 1))))) :
    ∀ (d k : Nat) (h1 : am_S), pu_np sg ar x - k = d → k ≤ pu_np sg ar x → tn_C n m ar sg pt (pu_jp pt x c k hs) h1 → tn_fG h h1 → am_AW tn_G tn_X (8, 51, 0, [some (.ref 2), v, some (.int (nI x)), some (.int (nI c)), some (.int (nI k))], [], h1) Q := by
  intro d
  induction d with
  | zero =>
    intro k h1 hd hk C fr
    have h3 := C.p3 hx
    have hke : k = pu_np sg ar x := by omega
    refine am_AW.go [51] 60 ?_
    simp only [am_Zs, am_zn_1, am_g3, am_a3, am_kz_l, am_kz_r, am_mem, Bool.false_eq_true, am_Rs, am_R0, am_g2, am_al, am_kk_l, am_kk_r, am_step, am_op, am_one, am_two, am_br, am_inv, am_pp, am_ct, am_in, am_no, am_rc, am_s1, am_cut, am_s2, List.getElem?_cons_zero, List.getElem?_cons_succ, List.set_cons_zero, List.set_cons_succ, Value.category, List.cons_append, List.nil_append, am_f0, am_f1, am_f2, am_f3, am_cm1, am_c0, am_c1, am_c2, am_c3, am_c20, am_c40, am_c400, am_c401, am_c1600, true_and, and_true, true_implies, if_true, if_false, Nat.reduceAdd, Nat.reduceSub, Nat.reduceLT, Nat.reduceLeDiff, Nat.reduceEqDiff, reduceIte, Nat.le_refl, or_false, false_and, false_implies, or_true, true_or, implies_true, pk_us, pk_un, am_vs, am_vn, bx_uu, ne_eq, not_false_eq_true, not_true_eq_false, am_b0, am_b1, Nat.not_lt_zero, am_tl0, am_tl1, kr_8, kn_8, kl_8, kc_8_0, kc_8_1, kf_8_18, kc_8_4, kc_8_5, kc_8_6, kc_8_7, kc_8_8, kc_8_9, kl_9, ko_9, kn_9, ka_8_37, kc_8_12, kc_8_13, kc_8_14, kc_8_15, kc_8_18, kc_8_19, kc_8_20, kc_8_23, kc_8_24, kc_8_25, kc_8_26, kf_8_28, kc_8_29, kf_8_32, kc_8_32, kc_8_33, kc_8_34, kc_8_35, kc_8_38, kc_8_41, kc_8_42, kc_8_43, kc_8_46, kc_8_47, kc_8_48, kc_8_49, kc_8_51, kc_8_53, kc_8_54, kc_8_57, kc_8_58, kl_21, ko_21, kn_21, ka_8_41, kc_8_61, kc_8_64, kc_8_65, kc_8_66, kc_8_69, kc_8_70, kc_8_72, kl_22, ko_22, kn_22, ka_8_44, kc_8_75, kc_8_76, kc_8_79, kc_8_80, kc_8_82, kc_8_85, kl_4, ko_4, kn_4, ka_8_70, kc_8_88, kc_8_91, kc_8_94, kc_8_95, tn_X0, tn_X1, tn_X2, tn_X3, tn_X4, tn_X5, tn_X6, tn_X7, tn_X8, tn_X9, tn_X10, tn_X11, tn_X12, tn_X13, tn_X14, tn_X15, tn_X16, tn_X17, tn_X18, tn_X19, tn_X20, tn_X21, tn_X22]
    refine sp_21 C hx ?_
    simp only [am_Zs, am_zn_1, am_g3, am_a3, am_kz_l, am_kz_r, am_mem, Bool.false_eq_true, am_Rs, am_R0, am_g2, am_al, am_kk_l, am_kk_r, am_step, am_op, am_one, am_two, am_br, am_inv, am_pp, am_ct, am_in, am_no, am_rc, am_s1, am_cut, am_s2, List.getElem?_cons_zero, List.getElem?_cons_succ, List.set_cons_zero, List.set_cons_succ, Value.category, List.cons_append, List.nil_append, am_f0, am_f1, am_f2, am_f3, am_cm1, am_c0, am_c1, am_c2, am_c3, am_c20, am_c40, am_c400, am_c401, am_c1600, true_and, and_true, true_implies, if_true, if_false, Nat.reduceAdd, Nat.reduceSub, Nat.reduceLT, Nat.reduceLeDiff, Nat.reduceEqDiff, reduceIte, Nat.le_refl, or_false, false_and, false_implies, or_true, true_or, implies_true, pk_us, pk_un, am_vs, am_vn, bx_uu, ne_eq, not_false_eq_true, not_true_eq_false, am_b0, am_b1, Nat.not_lt_zero, am_tl0, am_tl1, kr_8, kn_8, kl_8, kc_8_0, kc_8_1, kf_8_18, kc_8_4, kc_8_5, kc_8_6, kc_8_7, kc_8_8, kc_8_9, kl_9, ko_9, kn_9, ka_8_37, kc_8_12, kc_8_13, kc_8_14, kc_8_15, kc_8_18, kc_8_19, kc_8_20, kc_8_23, kc_8_24, kc_8_25, kc_8_26, kf_8_28, kc_8_29, kf_8_32, kc_8_32, kc_8_33, kc_8_34, kc_8_35, kc_8_38, kc_8_41, kc_8_42, kc_8_43, kc_8_46, kc_8_47, kc_8_48, kc_8_49, kc_8_51, kc_8_53, kc_8_54, kc_8_57, kc_8_58, kl_21, ko_21, kn_21, ka_8_41, kc_8_61, kc_8_64, kc_8_65, kc_8_66, kc_8_69, kc_8_70, kc_8_72, kl_22, ko_22, kn_22, ka_8_44, kc_8_75, kc_8_76, kc_8_79, kc_8_80, kc_8_82, kc_8_85, kl_4, ko_4, kn_4, ka_8_70, kc_8_88, kc_8_91, kc_8_94, kc_8_95, tn_X0, tn_X1, tn_X2, tn_X3, tn_X4, tn_X5, tn_X6, tn_X7, tn_X8, tn_X9, tn_X10, tn_X11, tn_X12, tn_X13, tn_X14, tn_X15, tn_X16, tn_X17, tn_X18, tn_X19, tn_X20, tn_X21, tn_X22]
    rw [nI_leI (by omega) (by omega)]
    refine ⟨fun _ => ?_, fun q => by omega⟩
    rw [hke] at C
    exact hQ h1 C fr
  | succ d ih =>
    intro k h1 hd hk C fr
    have h3 := C.p3 hx
    have hk1 : k < pu_np sg ar x := by omega
    have hk2 : k < pu_np sg ar c := by rw [← pu_np_eq hs2]; exact hk1
    refine am_AW.go [51] 60 ?_
    simp only [am_Zs, am_zn_1, am_g3, am_a3, am_kz_l, am_kz_r, am_mem, Bool.false_eq_true, am_Rs, am_R0, am_g2, am_al, am_kk_l, am_kk_r, am_step, am_op, am_one, am_two, am_br, am_inv, am_pp, am_ct, am_in, am_no, am_rc, am_s1, am_cut, am_s2, List.getElem?_cons_zero, List.getElem?_cons_succ, List.set_cons_zero, List.set_cons_succ, Value.category, List.cons_append, List.nil_append, am_f0, am_f1, am_f2, am_f3, am_cm1, am_c0, am_c1, am_c2, am_c3, am_c20, am_c40, am_c400, am_c401, am_c1600, true_and, and_true, true_implies, if_true, if_false, Nat.reduceAdd, Nat.reduceSub, Nat.reduceLT, Nat.reduceLeDiff, Nat.reduceEqDiff, reduceIte, Nat.le_refl, or_false, false_and, false_implies, or_true, true_or, implies_true, pk_us, pk_un, am_vs, am_vn, bx_uu, ne_eq, not_false_eq_true, not_true_eq_false, am_b0, am_b1, Nat.not_lt_zero, am_tl0, am_tl1, kr_8, kn_8, kl_8, kc_8_0, kc_8_1, kf_8_18, kc_8_4, kc_8_5, kc_8_6, kc_8_7, kc_8_8, kc_8_9, kl_9, ko_9, kn_9, ka_8_37, kc_8_12, kc_8_13, kc_8_14, kc_8_15, kc_8_18, kc_8_19, kc_8_20, kc_8_23, kc_8_24, kc_8_25, kc_8_26, kf_8_28, kc_8_29, kf_8_32, kc_8_32, kc_8_33, kc_8_34, kc_8_35, kc_8_38, kc_8_41, kc_8_42, kc_8_43, kc_8_46, kc_8_47, kc_8_48, kc_8_49, kc_8_51, kc_8_53, kc_8_54, kc_8_57, kc_8_58, kl_21, ko_21, kn_21, ka_8_41, kc_8_61, kc_8_64, kc_8_65, kc_8_66, kc_8_69, kc_8_70, kc_8_72, kl_22, ko_22, kn_22, ka_8_44, kc_8_75, kc_8_76, kc_8_79, kc_8_80, kc_8_82, kc_8_85, kl_4, ko_4, kn_4, ka_8_70, kc_8_88, kc_8_91, kc_8_94, kc_8_95, tn_X0, tn_X1, tn_X2, tn_X3, tn_X4, tn_X5, tn_X6, tn_X7, tn_X8, tn_X9, tn_X10, tn_X11, tn_X12, tn_X13, tn_X14, tn_X15, tn_X16, tn_X17, tn_X18, tn_X19, tn_X20, tn_X21, tn_X22]
    refine sp_21 C hx ?_
    simp only [am_Zs, am_zn_1, am_g3, am_a3, am_kz_l, am_kz_r, am_mem, Bool.false_eq_true, am_Rs, am_R0, am_g2, am_al, am_kk_l, am_kk_r, am_step, am_op, am_one, am_two, am_br, am_inv, am_pp, am_ct, am_in, am_no, am_rc, am_s1, am_cut, am_s2, List.getElem?_cons_zero, List.getElem?_cons_succ, List.set_cons_zero, List.set_cons_succ, Value.category, List.cons_append, List.nil_append, am_f0, am_f1, am_f2, am_f3, am_cm1, am_c0, am_c1, am_c2, am_c3, am_c20, am_c40, am_c400, am_c401, am_c1600, true_and, and_true, true_implies, if_true, if_false, Nat.reduceAdd, Nat.reduceSub, Nat.reduceLT, Nat.reduceLeDiff, Nat.reduceEqDiff, reduceIte, Nat.le_refl, or_false, false_and, false_implies, or_true, true_or, implies_true, pk_us, pk_un, am_vs, am_vn, bx_uu, ne_eq, not_false_eq_true, not_true_eq_false, am_b0, am_b1, Nat.not_lt_zero, am_tl0, am_tl1, kr_8, kn_8, kl_8, kc_8_0, kc_8_1, kf_8_18, kc_8_4, kc_8_5, kc_8_6, kc_8_7, kc_8_8, kc_8_9, kl_9, ko_9, kn_9, ka_8_37, kc_8_12, kc_8_13, kc_8_14, kc_8_15, kc_8_18, kc_8_19, kc_8_20, kc_8_23, kc_8_24, kc_8_25, kc_8_26, kf_8_28, kc_8_29, kf_8_32, kc_8_32, kc_8_33, kc_8_34, kc_8_35, kc_8_38, kc_8_41, kc_8_42, kc_8_43, kc_8_46, kc_8_47, kc_8_48, kc_8_49, kc_8_51, kc_8_53, kc_8_54, kc_8_57, kc_8_58, kl_21, ko_21, kn_21, ka_8_41, kc_8_61, kc_8_64, kc_8_65, kc_8_66, kc_8_69, kc_8_70, kc_8_72, kl_22, ko_22, kn_22, ka_8_44, kc_8_75, kc_8_76, kc_8_79, kc_8_80, kc_8_82, kc_8_85, kl_4, ko_4, kn_4, ka_8_70, kc_8_88, kc_8_91, kc_8_94, kc_8_95, tn_X0, tn_X1, tn_X2, tn_X3, tn_X4, tn_X5, tn_X6, tn_X7, tn_X8, tn_X9, tn_X10, tn_X11, tn_X12, tn_X13, tn_X14, tn_X15, tn_X16, tn_X17, tn_X18, tn_X19, tn_X20, tn_X21, tn_X22]
    rw [nI_leI (by omega) (by omega)]
    refine ⟨fun q => by omega, fun _ => ?_⟩
    refine sp_22 C hx hk1 ?_
    simp only [am_Zs, am_zn_1, am_g3, am_a3, am_kz_l, am_kz_r, am_mem, Bool.false_eq_true, am_Rs, am_R0, am_g2, am_al, am_kk_l, am_kk_r, am_step, am_op, am_one, am_two, am_br, am_inv, am_pp, am_ct, am_in, am_no, am_rc, am_s1, am_cut, am_s2, List.getElem?_cons_zero, List.getElem?_cons_succ, List.set_cons_zero, List.set_cons_succ, Value.category, List.cons_append, List.nil_append, am_f0, am_f1, am_f2, am_f3, am_cm1, am_c0, am_c1, am_c2, am_c3, am_c20, am_c40, am_c400, am_c401, am_c1600, true_and, and_true, true_implies, if_true, if_false, Nat.reduceAdd, Nat.reduceSub, Nat.reduceLT, Nat.reduceLeDiff, Nat.reduceEqDiff, reduceIte, Nat.le_refl, or_false, false_and, false_implies, or_true, true_or, implies_true, pk_us, pk_un, am_vs, am_vn, bx_uu, ne_eq, not_false_eq_true, not_true_eq_false, am_b0, am_b1, Nat.not_lt_zero, am_tl0, am_tl1, kr_8, kn_8, kl_8, kc_8_0, kc_8_1, kf_8_18, kc_8_4, kc_8_5, kc_8_6, kc_8_7, kc_8_8, kc_8_9, kl_9, ko_9, kn_9, ka_8_37, kc_8_12, kc_8_13, kc_8_14, kc_8_15, kc_8_18, kc_8_19, kc_8_20, kc_8_23, kc_8_24, kc_8_25, kc_8_26, kf_8_28, kc_8_29, kf_8_32, kc_8_32, kc_8_33, kc_8_34, kc_8_35, kc_8_38, kc_8_41, kc_8_42, kc_8_43, kc_8_46, kc_8_47, kc_8_48, kc_8_49, kc_8_51, kc_8_53, kc_8_54, kc_8_57, kc_8_58, kl_21, ko_21, kn_21, ka_8_41, kc_8_61, kc_8_64, kc_8_65, kc_8_66, kc_8_69, kc_8_70, kc_8_72, kl_22, ko_22, kn_22, ka_8_44, kc_8_75, kc_8_76, kc_8_79, kc_8_80, kc_8_82, kc_8_85, kl_4, ko_4, kn_4, ka_8_70, kc_8_88, kc_8_91, kc_8_94, kc_8_95, tn_X0, tn_X1, tn_X2, tn_X3, tn_X4, tn_X5, tn_X6, tn_X7, tn_X8, tn_X9, tn_X10, tn_X11, tn_X12, tn_X13, tn_X14, tn_X15, tn_X16, tn_X17, tn_X18, tn_X19, tn_X20, tn_X21, tn_X22]
    refine sp_22 C hc hk2 ?_
    simp only [am_Zs, am_zn_1, am_g3, am_a3, am_kz_l, am_kz_r, am_mem, Bool.false_eq_true, am_Rs, am_R0, am_g2, am_al, am_kk_l, am_kk_r, am_step, am_op, am_one, am_two, am_br, am_inv, am_pp, am_ct, am_in, am_no, am_rc, am_s1, am_cut, am_s2, List.getElem?_cons_zero, List.getElem?_cons_succ, List.set_cons_zero, List.set_cons_succ, Value.category, List.cons_append, List.nil_append, am_f0, am_f1, am_f2, am_f3, am_cm1, am_c0, am_c1, am_c2, am_c3, am_c20, am_c40, am_c400, am_c401, am_c1600, true_and, and_true, true_implies, if_true, if_false, Nat.reduceAdd, Nat.reduceSub, Nat.reduceLT, Nat.reduceLeDiff, Nat.reduceEqDiff, reduceIte, Nat.le_refl, or_false, false_and, false_implies, or_true, true_or, implies_true, pk_us, pk_un, am_vs, am_vn, bx_uu, ne_eq, not_false_eq_true, not_true_eq_false, am_b0, am_b1, Nat.not_lt_zero, am_tl0, am_tl1, kr_8, kn_8, kl_8, kc_8_0, kc_8_1, kf_8_18, kc_8_4, kc_8_5, kc_8_6, kc_8_7, kc_8_8, kc_8_9, kl_9, ko_9, kn_9, ka_8_37, kc_8_12, kc_8_13, kc_8_14, kc_8_15, kc_8_18, kc_8_19, kc_8_20, kc_8_23, kc_8_24, kc_8_25, kc_8_26, kf_8_28, kc_8_29, kf_8_32, kc_8_32, kc_8_33, kc_8_34, kc_8_35, kc_8_38, kc_8_41, kc_8_42, kc_8_43, kc_8_46, kc_8_47, kc_8_48, kc_8_49, kc_8_51, kc_8_53, kc_8_54, kc_8_57, kc_8_58, kl_21, ko_21, kn_21, ka_8_41, kc_8_61, kc_8_64, kc_8_65, kc_8_66, kc_8_69, kc_8_70, kc_8_72, kl_22, ko_22, kn_22, ka_8_44, kc_8_75, kc_8_76, kc_8_79, kc_8_80, kc_8_82, kc_8_85, kl_4, ko_4, kn_4, ka_8_70, kc_8_88, kc_8_91, kc_8_94, kc_8_95, tn_X0, tn_X1, tn_X2, tn_X3, tn_X4, tn_X5, tn_X6, tn_X7, tn_X8, tn_X9, tn_X10, tn_X11, tn_X12, tn_X13, tn_X14, tn_X15, tn_X16, tn_X17, tn_X18, tn_X19, tn_X20, tn_X21, tn_X22]
    refine sp_4 C (C.pl hx hk1) (C.pl hc hk2) (fun h2 C2 fr2 => ?_)
    simp only [am_Zs, am_zn_1, am_g3, am_a3, am_kz_l, am_kz_r, am_mem, Bool.false_eq_true, am_Rs, am_R0, am_g2, am_al, am_kk_l, am_kk_r, am_step, am_op, am_one, am_two, am_br, am_inv, am_pp, am_ct, am_in, am_no, am_rc, am_s1, am_cut, am_s2, List.getElem?_cons_zero, List.getElem?_cons_succ, List.set_cons_zero, List.set_cons_succ, Value.category, List.cons_append, List.nil_append, am_f0, am_f1, am_f2, am_f3, am_cm1, am_c0, am_c1, am_c2, am_c3, am_c20, am_c40, am_c400, am_c401, am_c1600, true_and, and_true, true_implies, if_true, if_false, Nat.reduceAdd, Nat.reduceSub, Nat.reduceLT, Nat.reduceLeDiff, Nat.reduceEqDiff, reduceIte, Nat.le_refl, or_false, false_and, false_implies, or_true, true_or, implies_true, pk_us, pk_un, am_vs, am_vn, bx_uu, ne_eq, not_false_eq_true, not_true_eq_false, am_b0, am_b1, Nat.not_lt_zero, am_tl0, am_tl1, kr_8, kn_8, kl_8, kc_8_0, kc_8_1, kf_8_18, kc_8_4, kc_8_5, kc_8_6, kc_8_7, kc_8_8, kc_8_9, kl_9, ko_9, kn_9, ka_8_37, kc_8_12, kc_8_13, kc_8_14, kc_8_15, kc_8_18, kc_8_19, kc_8_20, kc_8_23, kc_8_24, kc_8_25, kc_8_26, kf_8_28, kc_8_29, kf_8_32, kc_8_32, kc_8_33, kc_8_34, kc_8_35, kc_8_38, kc_8_41, kc_8_42, kc_8_43, kc_8_46, kc_8_47, kc_8_48, kc_8_49, kc_8_51, kc_8_53, kc_8_54, kc_8_57, kc_8_58, kl_21, ko_21, kn_21, ka_8_41, kc_8_61, kc_8_64, kc_8_65, kc_8_66, kc_8_69, kc_8_70, kc_8_72, kl_22, ko_22, kn_22, ka_8_44, kc_8_75, kc_8_76, kc_8_79, kc_8_80, kc_8_82, kc_8_85, kl_4, ko_4, kn_4, ka_8_70, kc_8_88, kc_8_91, kc_8_94, kc_8_95, tn_X0, tn_X1, tn_X2, tn_X3, tn_X4, tn_X5, tn_X6, tn_X7, tn_X8, tn_X9, tn_X10, tn_X11, tn_X12, tn_X13, tn_X14, tn_X15, tn_X16, tn_X17, tn_X18, tn_X19, tn_X20, tn_X21, tn_X22]
    rw [nI_add]
    exact ih (k + 1) h2 (by omega) (by omega) C2 (fr.tr fr2)
/-- Groups.joinParts -/
theorem sp_8 (C : tn_C n m ar sg pt hs h) {l : Nat} (hl : l < n) (h1 : pu_hs sg hs l = none ∨ pu_hs sg hs l = pu_hs sg hs (pu_hg hs l) → Q h (.inl (some (.int (nI 1)))))
    (h2 : ∀ x c, pu_hs sg hs l = some x → pu_hs sg hs (pu_hg hs l) = some c → sg x ≠ sg c → Q h (.inl (some (.int (nI 0)))))
    (h3 : ∀ x c, pu_hs sg hs l = some x → pu_hs sg hs (pu_hg hs l) = some c → sg x = sg c → ∀ h', tn_C n m ar sg pt (pu_jp pt x c (pu_np sg ar x) hs) h' → tn_fG h h' → Q h' (.inl (some (.int (nI 1))))) :
    am_AW tn_G tn_X (8, 0, 0, [some (.ref 2), some (.int (nI l)), none, none, none], [], h) Q := by
  have hn := C.le
  have hg := C.g hl
  refine am_AW.go [51] 60 ?_
  simp only [am_Zs, am_zn_1, am_g3, am_a3, am_kz_l, am_kz_r, am_mem, Bool.false_eq_true, am_Rs, am_R0, am_g2, am_al, am_kk_l, am_kk_r, am_step, am_op, am_one, am_two, am_br, am_inv, am_pp, am_ct, am_in, am_no, am_rc, am_s1, am_cut, am_s2, List.getElem?_cons_zero, List.getElem?_cons_succ, List.set_cons_zero, List.set_cons_succ, Value.category, List.cons_append, List.nil_append, am_f0, am_f1, am_f2, am_f3, am_cm1, am_c0, am_c1, am_c2, am_c3, am_c20, am_c40, am_c400, am_c401, am_c1600, true_and, and_true, true_implies, if_true, if_false, Nat.reduceAdd, Nat.reduceSub, Nat.reduceLT, Nat.reduceLeDiff, Nat.reduceEqDiff, reduceIte, Nat.le_refl, or_false, false_and, false_implies, or_true, true_or, implies_true, pk_us, pk_un, am_vs, am_vn, bx_uu, ne_eq, not_false_eq_true, not_true_eq_false, am_b0, am_b1, Nat.not_lt_zero, am_tl0, am_tl1, kr_8, kn_8, kl_8, kc_8_0, kc_8_1, kf_8_18, kc_8_4, kc_8_5, kc_8_6, kc_8_7, kc_8_8, kc_8_9, kl_9, ko_9, kn_9, ka_8_37, kc_8_12, kc_8_13, kc_8_14, kc_8_15, kc_8_18, kc_8_19, kc_8_20, kc_8_23, kc_8_24, kc_8_25, kc_8_26, kf_8_28, kc_8_29, kf_8_32, kc_8_32, kc_8_33, kc_8_34, kc_8_35, kc_8_38, kc_8_41, kc_8_42, kc_8_43, kc_8_46, kc_8_47, kc_8_48, kc_8_49, kc_8_51, kc_8_53, kc_8_54, kc_8_57, kc_8_58, kl_21, ko_21, kn_21, ka_8_41, kc_8_61, kc_8_64, kc_8_65, kc_8_66, kc_8_69, kc_8_70, kc_8_72, kl_22, ko_22, kn_22, ka_8_44, kc_8_75, kc_8_76, kc_8_79, kc_8_80, kc_8_82, kc_8_85, kl_4, ko_4, kn_4, ka_8_70, kc_8_88, kc_8_91, kc_8_94, kc_8_95, tn_X0, tn_X1, tn_X2, tn_X3, tn_X4, tn_X5, tn_X6, tn_X7, tn_X8, tn_X9, tn_X10, tn_X11, tn_X12, tn_X13, tn_X14, tn_X15, tn_X16, tn_X17, tn_X18, tn_X19, tn_X20, tn_X21, tn_X22]
  refine ⟨vi_ (by omega) (by omega), ?_⟩
  refine sp_9 C hl ?_
  simp only [am_Zs, am_zn_1, am_g3, am_a3, am_kz_l, am_kz_r, am_mem, Bool.false_eq_true, am_Rs, am_R0, am_g2, am_al, am_kk_l, am_kk_r, am_step, am_op, am_one, am_two, am_br, am_inv, am_pp, am_ct, am_in, am_no, am_rc, am_s1, am_cut, am_s2, List.getElem?_cons_zero, List.getElem?_cons_succ, List.set_cons_zero, List.set_cons_succ, Value.category, List.cons_append, List.nil_append, am_f0, am_f1, am_f2, am_f3, am_cm1, am_c0, am_c1, am_c2, am_c3, am_c20, am_c40, am_c400, am_c401, am_c1600, true_and, and_true, true_implies, if_true, if_false, Nat.reduceAdd, Nat.reduceSub, Nat.reduceLT, Nat.reduceLeDiff, Nat.reduceEqDiff, reduceIte, Nat.le_refl, or_false, false_and, false_implies, or_true, true_or, implies_true, pk_us, pk_un, am_vs, am_vn, bx_uu, ne_eq, not_false_eq_true, not_true_eq_false, am_b0, am_b1, Nat.not_lt_zero, am_tl0, am_tl1, kr_8, kn_8, kl_8, kc_8_0, kc_8_1, kf_8_18, kc_8_4, kc_8_5, kc_8_6, kc_8_7, kc_8_8, kc_8_9, kl_9, ko_9, kn_9, ka_8_37, kc_8_12, kc_8_13, kc_8_14, kc_8_15, kc_8_18, kc_8_19, kc_8_20, kc_8_23, kc_8_24, kc_8_25, kc_8_26, kf_8_28, kc_8_29, kf_8_32, kc_8_32, kc_8_33, kc_8_34, kc_8_35, kc_8_38, kc_8_41, kc_8_42, kc_8_43, kc_8_46, kc_8_47, kc_8_48, kc_8_49, kc_8_51, kc_8_53, kc_8_54, kc_8_57, kc_8_58, kl_21, ko_21, kn_21, ka_8_41, kc_8_61, kc_8_64, kc_8_65, kc_8_66, kc_8_69, kc_8_70, kc_8_72, kl_22, ko_22, kn_22, ka_8_44, kc_8_75, kc_8_76, kc_8_79, kc_8_80, kc_8_82, kc_8_85, kl_4, ko_4, kn_4, ka_8_70, kc_8_88, kc_8_91, kc_8_94, kc_8_95, tn_X0, tn_X1, tn_X2, tn_X3, tn_X4, tn_X5, tn_X6, tn_X7, tn_X8, tn_X9, tn_X10, tn_X11, tn_X12, tn_X13, tn_X14, tn_X15, tn_X16, tn_X17, tn_X18, tn_X19, tn_X20, tn_X21, tn_X22]
  rw [cl_ (by omega), C.sp hl, C.spn hl]
  refine ⟨fun e => h1 (Or.inl e), fun hne => ?_⟩
  cases hx : pu_hs sg hs l with
  | none => exact absurd hx hne
  | some x =>
    obtain ⟨c, hc, -, -⟩ := pu_common (sg := sg) C.V hx
    have hxn := C.sx hl hx
    have hcn := C.sx hg hc
    simp only [hc, tn_o]
    rw [nI_eq (by omega) (by omega), cl_ (by omega), cl_ (by omega), C.sn hxn, C.sn hcn]
    refine ⟨fun hxc => ⟨vi_ (by omega) (by omega), vi_ (by omega) (by omega), fun e => ?_, fun e => ?_⟩, fun e => h1 (Or.inr (by rw [hx, hc, e]))⟩
    · have es : sg x = sg c := by
        cases e1 : sg x with
        | none =>
          rw [e1] at e
          have := (C.son hcn).mp e.symm
          rw [this]
        | some a =>
          cases e2 : sg c with
          | none =>
            rw [e2] at e
            have := (C.son hxn).mp e
            rw [e1] at this
            cases this
          | some b =>
            rw [e1, e2] at e
            have b1 := C.sm hxn e1
            have b2 := C.sm hcn e2
            have b3 := C.m4
            rw [(nI_eq (by omega) (by omega)).mp e]
      exact sp_8l _ hxn hcn es (h3 x c hx hc es) _ 0 h rfl (Nat.zero_le _) C tn_fG.rf
    · exact h2 x c hx hc (fun es => e (by rw [es]))
/-- settle, its loop -/
theorem sp_7l (w : Int32) {hs0 : List (Nat × Nat)} {a b : Nat}
    (h1 : ∀ hs' h', tn_C n m ar sg pt hs' h' → tn_fG h h' → pu_SI n sg ar pt hs0 a b hs'.length hs' → Q h' (.inl (some (.int (nI 1)))))
    (h0 : ∀ hs' h', tn_C n m ar sg pt hs' h' → tn_fG h h' → (∃ ns, hs' = ns ++ hs0) → (∀ g', ¬ pu_Clo n sg ar pt (pu_hg hs0) a b g') → Q h' (.inl (some (.int (nI 0))))) :
    ∀ (d i : Nat) (hs : List (Nat × Nat)) (h2 : am_S), 400 - i = d → tn_C n m ar sg pt hs h2 → tn_fG h h2 → pu_SI n sg ar pt hs0 a b i hs → am_AW tn_G tn_X (7, 2, 0, [some (.ref 2), some (.int w), some (.int (nI i))], [], h2) Q := by
  intro d
  induction d with
  | zero =>
    intro i hs h2 hd C fr S
    have hn := C.le
    have hi := S.2.2.1
    have hl := pu_len0 C.V
    have : i = hs.length := by omega
    subst this
    refine am_AW.go [2] 60 ?_
    simp only [am_Zs, am_zn_1, am_g3, am_a3, am_kz_l, am_kz_r, am_mem, Bool.false_eq_true, am_Rs, am_R0, am_g2, am_al, am_kk_l, am_kk_r, am_step, am_op, am_one, am_two, am_br, am_inv, am_pp, am_ct, am_in, am_no, am_rc, am_s1, am_cut, am_s2, List.getElem?_cons_zero, List.getElem?_cons_succ, List.set_cons_zero, List.set_cons_succ, Value.category, List.cons_append, List.nil_append, am_f0, am_f1, am_f2, am_f3, am_cm1, am_c0, am_c1, am_c2, am_c3, am_c20, am_c40, am_c400, am_c401, am_c1600, true_and, and_true, true_implies, if_true, if_false, Nat.reduceAdd, Nat.reduceSub, Nat.reduceLT, Nat.reduceLeDiff, Nat.reduceEqDiff, reduceIte, Nat.le_refl, or_false, false_and, false_implies, or_true, true_or, implies_true, pk_us, pk_un, am_vs, am_vn, bx_uu, ne_eq, not_false_eq_true, not_true_eq_false, am_b0, am_b1, Nat.not_lt_zero, am_tl0, am_tl1, kr_7, kn_7, kl_7, kc_7_0, kc_7_1, kc_7_2, kc_7_3, kc_7_6, kc_7_9, kc_7_10, kc_7_11, kf_7_24, kc_7_14, kc_7_17, kc_7_18, kc_7_19, kf_7_21, kc_7_22, kc_7_23, kc_7_24, kl_8, ko_8, kn_8, ka_7_66, kc_7_27, kc_7_30, kc_7_31, kc_7_32, kc_7_35, kc_7_38, kc_7_39, tn_X0, tn_X1, tn_X2, tn_X3, tn_X4, tn_X5, tn_X6, tn_X7, tn_X8, tn_X9, tn_X10, tn_X11, tn_X12, tn_X13, tn_X14, tn_X15, tn_X16, tn_X17, tn_X18, tn_X19, tn_X20, tn_X21, tn_X22]
    rw [nI_leI (by omega) (by omega)]
    exact ⟨fun _ => h1 hs h2 C fr S, fun q => by omega⟩
  | succ d ih =>
    intro i hs h2 hd C fr S
    have hn := C.le
    have hi := S.2.2.1
    have hl := pu_len0 C.V
    refine am_AW.go [2] 60 ?_
    simp only [am_Zs, am_zn_1, am_g3, am_a3, am_kz_l, am_kz_r, am_mem, Bool.false_eq_true, am_Rs, am_R0, am_g2, am_al, am_kk_l, am_kk_r, am_step, am_op, am_one, am_two, am_br, am_inv, am_pp, am_ct, am_in, am_no, am_rc, am_s1, am_cut, am_s2, List.getElem?_cons_zero, List.getElem?_cons_succ, List.set_cons_zero, List.set_cons_succ, Value.category, List.cons_append, List.nil_append, am_f0, am_f1, am_f2, am_f3, am_cm1, am_c0, am_c1, am_c2, am_c3, am_c20, am_c40, am_c400, am_c401, am_c1600, true_and, and_true, true_implies, if_true, if_false, Nat.reduceAdd, Nat.reduceSub, Nat.reduceLT, Nat.reduceLeDiff, Nat.reduceEqDiff, reduceIte, Nat.le_refl, or_false, false_and, false_implies, or_true, true_or, implies_true, pk_us, pk_un, am_vs, am_vn, bx_uu, ne_eq, not_false_eq_true, not_true_eq_false, am_b0, am_b1, Nat.not_lt_zero, am_tl0, am_tl1, kr_7, kn_7, kl_7, kc_7_0, kc_7_1, kc_7_2, kc_7_3, kc_7_6, kc_7_9, kc_7_10, kc_7_11, kf_7_24, kc_7_14, kc_7_17, kc_7_18, kc_7_19, kf_7_21, kc_7_22, kc_7_23, kc_7_24, kl_8, ko_8, kn_8, ka_7_66, kc_7_27, kc_7_30, kc_7_31, kc_7_32, kc_7_35, kc_7_38, kc_7_39, tn_X0, tn_X1, tn_X2, tn_X3, tn_X4, tn_X5, tn_X6, tn_X7, tn_X8, tn_X9, tn_X10, tn_X11, tn_X12, tn_X13, tn_X14, tn_X15, tn_X16, tn_X17, tn_X18, tn_X19, tn_X20, tn_X21, tn_X22]
    rw [nI_leI (by omega) (by omega), C.2.2.1, nI_leI (by omega) (by omega), cl_ (by omega)]
    refine ⟨fun q => by omega, fun _ => ⟨fun q => ?_, fun q => ⟨vi_ (by omega) (by omega), ?_⟩⟩⟩
    · have : i = hs.length := by omega
      subst this
      exact h1 hs h2 C fr S
    · have hil : i < hs.reverse.length := by rw [List.length_reverse]; omega
      have hq : hs.reverse[i]? = some hs.reverse[i] := List.getElem?_eq_getElem hil
      rw [C.2.2.2.2.2.2.2.2 i _ hq]
      have hmem : hs.reverse[i] ∈ hs := List.mem_reverse.mp (List.mem_of_getElem? hq)
      have hln : (hs.reverse[i]).2 < n := by
        have key : ∀ {hs : List (Nat × Nat)}, pu_V n hs → ∀ q ∈ hs, q.2 < n := by
          intro hs
          induction hs with
          | nil => intro _ q hq; cases hq
          | cons p hs ih =>
            intro h q hq
            rcases List.mem_cons.mp hq with e | hq
            · subst e; exact h.2.1
            · exact ih h.2.2.2.2 q hq
        exact key C.V _ hmem
      refine sp_8 C hln (fun e => ?_) (fun x c hx hc e => ?_) (fun x c hx hc e h3 C3 fr3 => ?_)
      · simp only [am_Zs, am_zn_1, am_g3, am_a3, am_kz_l, am_kz_r, am_mem, Bool.false_eq_true, am_Rs, am_R0, am_g2, am_al, am_kk_l, am_kk_r, am_step, am_op, am_one, am_two, am_br, am_inv, am_pp, am_ct, am_in, am_no, am_rc, am_s1, am_cut, am_s2, List.getElem?_cons_zero, List.getElem?_cons_succ, List.set_cons_zero, List.set_cons_succ, Value.category, List.cons_append, List.nil_append, am_f0, am_f1, am_f2, am_f3, am_cm1, am_c0, am_c1, am_c2, am_c3, am_c20, am_c40, am_c400, am_c401, am_c1600, true_and, and_true, true_implies, if_true, if_false, Nat.reduceAdd, Nat.reduceSub, Nat.reduceLT, Nat.reduceLeDiff, Nat.reduceEqDiff, reduceIte, Nat.le_refl, or_false, false_and, false_implies, or_true, true_or, implies_true, pk_us, pk_un, am_vs, am_vn, bx_uu, ne_eq, not_false_eq_true, not_true_eq_false, am_b0, am_b1, Nat.not_lt_zero, am_tl0, am_tl1, kr_7, kn_7, kl_7, kc_7_0, kc_7_1, kc_7_2, kc_7_3, kc_7_6, kc_7_9, kc_7_10, kc_7_11, kf_7_24, kc_7_14, kc_7_17, kc_7_18, kc_7_19, kf_7_21, kc_7_22, kc_7_23, kc_7_24, kl_8, ko_8, kn_8, ka_7_66, kc_7_27, kc_7_30, kc_7_31, kc_7_32, kc_7_35, kc_7_38, kc_7_39, tn_X0, tn_X1, tn_X2, tn_X3, tn_X4, tn_X5, tn_X6, tn_X7, tn_X8, tn_X9, tn_X10, tn_X11, tn_X12, tn_X13, tn_X14, tn_X15, tn_X16, tn_X17, tn_X18, tn_X19, tn_X20, tn_X21, tn_X22]
        refine ⟨fun _ => ?_, fun q => absurd q (by decide)⟩
        rw [nI_add]
        exact ih (i + 1) hs h2 (by omega) C fr (pu_SI_skip S hq e)
      · simp only [am_Zs, am_zn_1, am_g3, am_a3, am_kz_l, am_kz_r, am_mem, Bool.false_eq_true, am_Rs, am_R0, am_g2, am_al, am_kk_l, am_kk_r, am_step, am_op, am_one, am_two, am_br, am_inv, am_pp, am_ct, am_in, am_no, am_rc, am_s1, am_cut, am_s2, List.getElem?_cons_zero, List.getElem?_cons_succ, List.set_cons_zero, List.set_cons_succ, Value.category, List.cons_append, List.nil_append, am_f0, am_f1, am_f2, am_f3, am_cm1, am_c0, am_c1, am_c2, am_c3, am_c20, am_c40, am_c400, am_c401, am_c1600, true_and, and_true, true_implies, if_true, if_false, Nat.reduceAdd, Nat.reduceSub, Nat.reduceLT, Nat.reduceLeDiff, Nat.reduceEqDiff, reduceIte, Nat.le_refl, or_false, false_and, false_implies, or_true, true_or, implies_true, pk_us, pk_un, am_vs, am_vn, bx_uu, ne_eq, not_false_eq_true, not_true_eq_false, am_b0, am_b1, Nat.not_lt_zero, am_tl0, am_tl1, kr_7, kn_7, kl_7, kc_7_0, kc_7_1, kc_7_2, kc_7_3, kc_7_6, kc_7_9, kc_7_10, kc_7_11, kf_7_24, kc_7_14, kc_7_17, kc_7_18, kc_7_19, kf_7_21, kc_7_22, kc_7_23, kc_7_24, kl_8, ko_8, kn_8, ka_7_66, kc_7_27, kc_7_30, kc_7_31, kc_7_32, kc_7_35, kc_7_38, kc_7_39, tn_X0, tn_X1, tn_X2, tn_X3, tn_X4, tn_X5, tn_X6, tn_X7, tn_X8, tn_X9, tn_X10, tn_X11, tn_X12, tn_X13, tn_X14, tn_X15, tn_X16, tn_X17, tn_X18, tn_X19, tn_X20, tn_X21, tn_X22]
        exact ⟨fun q => absurd nI_0 q, fun _ => h0 hs h2 C fr S.2.1 (fun g' hg' => pu_SI_clash S hln hx hc e g' hg')⟩
      · simp only [am_Zs, am_zn_1, am_g3, am_a3, am_kz_l, am_kz_r, am_mem, Bool.false_eq_true, am_Rs, am_R0, am_g2, am_al, am_kk_l, am_kk_r, am_step, am_op, am_one, am_two, am_br, am_inv, am_pp, am_ct, am_in, am_no, am_rc, am_s1, am_cut, am_s2, List.getElem?_cons_zero, List.getElem?_cons_succ, List.set_cons_zero, List.set_cons_succ, Value.category, List.cons_append, List.nil_append, am_f0, am_f1, am_f2, am_f3, am_cm1, am_c0, am_c1, am_c2, am_c3, am_c20, am_c40, am_c400, am_c401, am_c1600, true_and, and_true, true_implies, if_true, if_false, Nat.reduceAdd, Nat.reduceSub, Nat.reduceLT, Nat.reduceLeDiff, Nat.reduceEqDiff, reduceIte, Nat.le_refl, or_false, false_and, false_implies, or_true, true_or, implies_true, pk_us, pk_un, am_vs, am_vn, bx_uu, ne_eq, not_false_eq_true, not_true_eq_false, am_b0, am_b1, Nat.not_lt_zero, am_tl0, am_tl1, kr_7, kn_7, kl_7, kc_7_0, kc_7_1, kc_7_2, kc_7_3, kc_7_6, kc_7_9, kc_7_10, kc_7_11, kf_7_24, kc_7_14, kc_7_17, kc_7_18, kc_7_19, kf_7_21, kc_7_22, kc_7_23, kc_7_24, kl_8, ko_8, kn_8, ka_7_66, kc_7_27, kc_7_30, kc_7_31, kc_7_32, kc_7_35, kc_7_38, kc_7_39, tn_X0, tn_X1, tn_X2, tn_X3, tn_X4, tn_X5, tn_X6, tn_X7, tn_X8, tn_X9, tn_X10, tn_X11, tn_X12, tn_X13, tn_X14, tn_X15, tn_X16, tn_X17, tn_X18, tn_X19, tn_X20, tn_X21, tn_X22]
        refine ⟨fun _ => ?_, fun q => absurd q (by decide)⟩
        rw [nI_add]
        exact ih (i + 1) _ h3 (by omega) C3 (fr.tr fr3) (pu_SI_step C.T S hq hx hc e)
/-- Groups.settle, behind a join -/
theorem sp_7 {hs0 : List (Nat × Nat)} {a b : Nat} (C : tn_C n m ar sg pt hs h) (S : pu_SI n sg ar pt hs0 a b hs0.length hs)
    (h1 : ∀ hs' h', tn_C n m ar sg pt hs' h' → tn_fG h h' → pu_SI n sg ar pt hs0 a b hs'.length hs' → Q h' (.inl (some (.int (nI 1)))))
    (h0 : ∀ hs' h', tn_C n m ar sg pt hs' h' → tn_fG h h' → (∃ ns, hs' = ns ++ hs0) → (∀ g', ¬ pu_Clo n sg ar pt (pu_hg hs0) a b g') → Q h' (.inl (some (.int (nI 0))))) :
    am_AW tn_G tn_X (7, 0, 0, [some (.ref 2), some (.int (nI hs0.length)), none], [], h) Q := by
  refine am_AW.go [2] 60 ?_
  simp only [am_Zs, am_zn_1, am_g3, am_a3, am_kz_l, am_kz_r, am_mem, Bool.false_eq_true, am_Rs, am_R0, am_g2, am_al, am_kk_l, am_kk_r, am_step, am_op, am_one, am_two, am_br, am_inv, am_pp, am_ct, am_in, am_no, am_rc, am_s1, am_cut, am_s2, List.getElem?_cons_zero, List.getElem?_cons_succ, List.set_cons_zero, List.set_cons_succ, Value.category, List.cons_append, List.nil_append, am_f0, am_f1, am_f2, am_f3, am_cm1, am_c0, am_c1, am_c2, am_c3, am_c20, am_c40, am_c400, am_c401, am_c1600, true_and, and_true, true_implies, if_true, if_false, Nat.reduceAdd, Nat.reduceSub, Nat.reduceLT, Nat.reduceLeDiff, Nat.reduceEqDiff, reduceIte, Nat.le_refl, or_false, false_and, false_implies, or_true, true_or, implies_true, pk_us, pk_un, am_vs, am_vn, bx_uu, ne_eq, not_false_eq_true, not_true_eq_false, am_b0, am_b1, Nat.not_lt_zero, am_tl0, am_tl1, kr_7, kn_7, kl_7, kc_7_0, kc_7_1, kc_7_2, kc_7_3, kc_7_6, kc_7_9, kc_7_10, kc_7_11, kf_7_24, kc_7_14, kc_7_17, kc_7_18, kc_7_19, kf_7_21, kc_7_22, kc_7_23, kc_7_24, kl_8, ko_8, kn_8, ka_7_66, kc_7_27, kc_7_30, kc_7_31, kc_7_32, kc_7_35, kc_7_38, kc_7_39, tn_X0, tn_X1, tn_X2, tn_X3, tn_X4, tn_X5, tn_X6, tn_X7, tn_X8, tn_X9, tn_X10, tn_X11, tn_X12, tn_X13, tn_X14, tn_X15, tn_X16, tn_X17, tn_X18, tn_X19, tn_X20, tn_X21, tn_X22]
  exact sp_7l _ h1 h0 _ hs0.length hs h rfl C tn_fG.rf S
/-- the state but for the number of merges -/
def tn_D (n m : Nat) (ar : Nat → Nat) (sg : Nat → Option Nat) (pt : Nat → Nat → Nat) (hs : List (Nat × Nat)) (h : am_S) : Prop := tn_C n m ar sg pt hs (upd h.1 4 (nI hs.length), h.2)
theorem tn_C.D (C : tn_C n m ar sg pt hs h) : tn_D n m ar sg pt hs h := by
  have e : upd h.1 4 (nI hs.length) = h.1 := by
    funext i
    simp only [upd]
    by_cases hi : i = 4
    · subst hi; rw [if_pos rfl, C.2.2.1]
    · rw [if_neg hi]
  unfold tn_D
  rw [e]
  exact C
/-- Groups.undo -/
theorem sp_14 {w l : Nat} (C : tn_D n m ar sg pt ((w, l) :: hs) h) (hQ : ∀ h', tn_D n m ar sg pt hs h' → h'.1 = h.1 → (∀ k, (k < 11 ∨ 13 < k) → h'.2 k = h.2 k) → Q h' (.inl none)) : am_AW tn_G tn_X (14, 0, 0, [some (.ref 2), some (.int (nI l)), none], [], h) Q := by
  have hV := C.V
  obtain ⟨h1, h2, h3, h4, h5⟩ := id hV
  simp only at h1 h2 h3 h4
  have hn := C.le
  have hwn : w < n := by omega
  have hgl : pu_hg ((w, l) :: hs) l = w := by simp only [pu_hg, h4, if_true]
  have cld := fun {t : Nat} (ht : t < n) => C.ld ht
  have crg := fun {t : Nat} (ht : t < n) => C.rg ht
  have csp := fun {t : Nat} (ht : t < n) => C.sp ht
  simp only at cld crg csp
  have hrl : pu_hr ((w, l) :: hs) l = pu_hr hs w := by simp only [pu_hr, if_true]; rw [if_neg (by omega)]
  have hrw : pu_hr ((w, l) :: hs) w = pu_hr hs l := by simp only [pu_hr, if_true]
  have hring : ∀ t, t < n → upd (upd (h.2 12) w (h.2 12 l)) l (h.2 12 w) t = nI (pu_hr hs t) := fun t ht => by
    rw [crg h2, crg hwn, hrl, hrw]
    simp only [upd]
    by_cases e1 : t = l
    · rw [if_pos e1, e1]
    · rw [if_neg e1]
      by_cases e2 : t = w
      · rw [if_pos e2, e2]
      · rw [if_neg e2, crg ht]
        simp only [pu_hr, if_neg e1, if_neg e2]
  obtain ⟨r1, r5, r6⟩ := pu_ring h5 l h4
  have r2 : ∀ y ∈ l :: pu_ht hs l, y < n := fun y hy => by
    apply Nat.lt_of_not_le
    intro q
    have e1 := (r6 y).mp hy
    have e2 := pu_hg_new h5 y q
    omega
  have r4 := pu_nd_len r5 r2
  simp only [List.length_cons] at r4
  refine am_AW.go [] 60 ?_
  simp only [am_Zs, am_zn_1, am_g3, am_a3, am_kz_l, am_kz_r, am_mem, Bool.false_eq_true, am_Rs, am_R0, am_g2, am_al, am_kk_l, am_kk_r, am_step, am_op, am_one, am_two, am_br, am_inv, am_pp, am_ct, am_in, am_no, am_rc, am_s1, am_cut, am_s2, List.getElem?_cons_zero, List.getElem?_cons_succ, List.set_cons_zero, List.set_cons_succ, Value.category, List.cons_append, List.nil_append, am_f0, am_f1, am_f2, am_f3, am_cm1, am_c0, am_c1, am_c2, am_c3, am_c20, am_c40, am_c400, am_c401, am_c1600, true_and, and_true, true_implies, if_true, if_false, Nat.reduceAdd, Nat.reduceSub, Nat.reduceLT, Nat.reduceLeDiff, Nat.reduceEqDiff, reduceIte, Nat.le_refl, or_false, false_and, false_implies, or_true, true_or, implies_true, pk_us, pk_un, am_vs, am_vn, bx_uu, ne_eq, not_false_eq_true, not_true_eq_false, am_b0, am_b1, Nat.not_lt_zero, am_tl0, am_tl1, kr_14, kn_14, kl_14, kc_14_0, kc_14_1, kf_14_9, kc_14_4, kc_14_5, kc_14_6, kc_14_7, kc_14_8, kc_14_9, kc_14_10, kl_6, ko_6, kn_6, ka_14_63, kc_14_13, kc_14_14, kc_14_15, kc_14_16, kl_5, ko_5, kn_5, ka_14_59, kc_14_19, kc_14_20, kf_14_18, kc_14_23, kc_14_24, kc_14_25, kc_14_26, kc_14_29, kc_14_30, kc_14_31, kc_14_34, kc_14_35, kc_14_38, kc_14_39, kc_14_40, kc_14_41, tn_X0, tn_X1, tn_X2, tn_X3, tn_X4, tn_X5, tn_X6, tn_X7, tn_X8, tn_X9, tn_X10, tn_X11, tn_X12, tn_X13, tn_X14, tn_X15, tn_X16, tn_X17, tn_X18, tn_X19, tn_X20, tn_X21, tn_X22]
  rw [cl_ (by omega), cld h2, hgl]
  refine ⟨vi_ (by omega) (by omega), ?_⟩
  refine sp_6 (by omega) (by omega) ?_
  simp only [am_Zs, am_zn_1, am_g3, am_a3, am_kz_l, am_kz_r, am_mem, Bool.false_eq_true, am_Rs, am_R0, am_g2, am_al, am_kk_l, am_kk_r, am_step, am_op, am_one, am_two, am_br, am_inv, am_pp, am_ct, am_in, am_no, am_rc, am_s1, am_cut, am_s2, List.getElem?_cons_zero, List.getElem?_cons_succ, List.set_cons_zero, List.set_cons_succ, Value.category, List.cons_append, List.nil_append, am_f0, am_f1, am_f2, am_f3, am_cm1, am_c0, am_c1, am_c2, am_c3, am_c20, am_c40, am_c400, am_c401, am_c1600, true_and, and_true, true_implies, if_true, if_false, Nat.reduceAdd, Nat.reduceSub, Nat.reduceLT, Nat.reduceLeDiff, Nat.reduceEqDiff, reduceIte, Nat.le_refl, or_false, false_and, false_implies, or_true, true_or, implies_true, pk_us, pk_un, am_vs, am_vn, bx_uu, ne_eq, not_false_eq_true, not_true_eq_false, am_b0, am_b1, Nat.not_lt_zero, am_tl0, am_tl1, kr_14, kn_14, kl_14, kc_14_0, kc_14_1, kf_14_9, kc_14_4, kc_14_5, kc_14_6, kc_14_7, kc_14_8, kc_14_9, kc_14_10, kl_6, ko_6, kn_6, ka_14_63, kc_14_13, kc_14_14, kc_14_15, kc_14_16, kl_5, ko_5, kn_5, ka_14_59, kc_14_19, kc_14_20, kf_14_18, kc_14_23, kc_14_24, kc_14_25, kc_14_26, kc_14_29, kc_14_30, kc_14_31, kc_14_34, kc_14_35, kc_14_38, kc_14_39, kc_14_40, kc_14_41, tn_X0, tn_X1, tn_X2, tn_X3, tn_X4, tn_X5, tn_X6, tn_X7, tn_X8, tn_X9, tn_X10, tn_X11, tn_X12, tn_X13, tn_X14, tn_X15, tn_X16, tn_X17, tn_X18, tn_X19, tn_X20, tn_X21, tn_X22]
  refine sp_5 (pu_hr hs) r1 (fun y hy => ⟨by have := r2 y hy; omega, by simp only [am_vs]; exact hring y (r2 y hy)⟩) (List.nodup_cons.mp r5).1 (by omega) ?_
  simp only [am_Zs, am_zn_1, am_g3, am_a3, am_kz_l, am_kz_r, am_mem, Bool.false_eq_true, am_Rs, am_R0, am_g2, am_al, am_kk_l, am_kk_r, am_step, am_op, am_one, am_two, am_br, am_inv, am_pp, am_ct, am_in, am_no, am_rc, am_s1, am_cut, am_s2, List.getElem?_cons_zero, List.getElem?_cons_succ, List.set_cons_zero, List.set_cons_succ, Value.category, List.cons_append, List.nil_append, am_f0, am_f1, am_f2, am_f3, am_cm1, am_c0, am_c1, am_c2, am_c3, am_c20, am_c40, am_c400, am_c401, am_c1600, true_and, and_true, true_implies, if_true, if_false, Nat.reduceAdd, Nat.reduceSub, Nat.reduceLT, Nat.reduceLeDiff, Nat.reduceEqDiff, reduceIte, Nat.le_refl, or_false, false_and, false_implies, or_true, true_or, implies_true, pk_us, pk_un, am_vs, am_vn, bx_uu, ne_eq, not_false_eq_true, not_true_eq_false, am_b0, am_b1, Nat.not_lt_zero, am_tl0, am_tl1, kr_14, kn_14, kl_14, kc_14_0, kc_14_1, kf_14_9, kc_14_4, kc_14_5, kc_14_6, kc_14_7, kc_14_8, kc_14_9, kc_14_10, kl_6, ko_6, kn_6, ka_14_63, kc_14_13, kc_14_14, kc_14_15, kc_14_16, kl_5, ko_5, kn_5, ka_14_59, kc_14_19, kc_14_20, kf_14_18, kc_14_23, kc_14_24, kc_14_25, kc_14_26, kc_14_29, kc_14_30, kc_14_31, kc_14_34, kc_14_35, kc_14_38, kc_14_39, kc_14_40, kc_14_41, tn_X0, tn_X1, tn_X2, tn_X3, tn_X4, tn_X5, tn_X6, tn_X7, tn_X8, tn_X9, tn_X10, tn_X11, tn_X12, tn_X13, tn_X14, tn_X15, tn_X16, tn_X17, tn_X18, tn_X19, tn_X20, tn_X21, tn_X22]
  rw [cl_ (by omega), cl_ (by omega), csp hwn, csp h2]
  have hspl : pu_hs sg ((w, l) :: hs) l = pu_hs sg hs l := by simp only [pu_hs]; rw [if_neg (by omega)]
  have hld : ∀ t, t < n → tn_wr (h.2 11) (l :: pu_ht hs l) (nI l) t = nI (pu_hg hs t) := fun t ht => by
    simp only [tn_wr, r6 t]
    by_cases e : pu_hg hs t = l
    · rw [if_pos e, e]
    · rw [if_neg e, cld ht]
      simp only [pu_hg, if_neg e]
  have htr : ∀ (i : Nat) (q : Nat × Nat), hs.reverse[i]? = some q → h.2 14 i = nI q.2 := fun i q hq => C.2.2.2.2.2.2.2.2 i q (by
    rw [List.reverse_cons, List.getElem?_append_left (List.getElem?_eq_some_iff.mp hq).1]
    exact hq)
  refine ⟨vi_ (by omega) (by omega), vi_ (by omega) (by omega), fun hne => ?_, fun e => ⟨vi_ (by omega) (by omega), ?_⟩⟩
  · refine hQ _ (C.mk' ⟨fun i hi => ?_, fun k hk => ?_⟩ h5 ?_ (fun t ht => ⟨?_, ?_, ?_⟩) (fun i q hq => ?_)) rfl (fun k hk => ?_)
    · simp only [pk_un hi]
    · simp only [am_vn (show k ≠ 12 by omega), am_vn (show k ≠ 11 by omega)]
    · simp only [pk_us]
    · simp only [am_vs]; exact hld t ht
    · simp only [am_vn (show (12 : Nat) ≠ 11 by decide), am_vs]; exact hring t ht
    · simp only [am_vn (show (13 : Nat) ≠ 11 by decide), am_vn (show (13 : Nat) ≠ 12 by decide)]
      rw [csp ht]
      by_cases e2 : t = w
      · subst e2
        cases e3 : pu_hs sg hs t with
        | none =>
          exfalso
          apply hne
          simp only [pu_hs, if_true, e3]
          rw [if_neg (by omega)]
        | some z => simp only [pu_hs, if_true, e3]
      · simp only [pu_hs, if_neg e2]
    · simp only [am_vn (show (14 : Nat) ≠ 11 by decide), am_vn (show (14 : Nat) ≠ 12 by decide)]
      exact htr i q hq
    · simp only [am_vn (show k ≠ 12 by omega), am_vn (show k ≠ 11 by omega)]
  · have hnone : pu_hs sg hs w = none := by
      cases e3 : pu_hs sg hs w with
      | none => rfl
      | some z =>
        exfalso
        have ew : pu_hs sg ((w, l) :: hs) w = some z := by simp only [pu_hs, if_true, e3]
        rw [ew, hspl] at e
        have z1 := (pu_shape_of sg h5 w z e3).1
        have zn := pu_shape_lt h5 hwn e3
        cases e4 : pu_hs sg hs l with
        | none =>
          rw [e4] at e
          have := (tn_o_none (x := some z) (fun k hk => by cases hk; omega)).mp e
          cases this
        | some y =>
          rw [e4] at e
          have yn := pu_shape_lt h5 h2 e4
          have y1 := (pu_shape_of sg h5 l y e4).1
          have := (nI_eq (by omega) (by omega)).mp e
          subst this
          omega
    refine hQ _ (C.mk' ⟨fun i hi => ?_, fun k hk => ?_⟩ h5 ?_ (fun t ht => ⟨?_, ?_, ?_⟩) (fun i q hq => ?_)) rfl (fun k hk => ?_)
    · simp only [pk_un hi]
    · simp only [am_vn (show k ≠ 13 by omega), am_vn (show k ≠ 12 by omega), am_vn (show k ≠ 11 by omega)]
    · simp only [pk_us]
    · simp only [am_vn (show (11 : Nat) ≠ 13 by decide), am_vs]; exact hld t ht
    · simp only [am_vn (show (12 : Nat) ≠ 13 by decide), am_vn (show (12 : Nat) ≠ 11 by decide), am_vs]; exact hring t ht
    · simp only [am_vs, upd]
      by_cases e2 : t = w
      · rw [if_pos e2, e2, hnone]; rfl
      · rw [if_neg e2, csp ht]
        simp only [pu_hs, if_neg e2]
    · simp only [am_vn (show (14 : Nat) ≠ 13 by decide), am_vn (show (14 : Nat) ≠ 11 by decide), am_vn (show (14 : Nat) ≠ 12 by decide)]
      exact htr i q hq
    · simp only [am_vn (show k ≠ 13 by omega), am_vn (show k ≠ 12 by omega), am_vn (show k ≠ 11 by omega)]
def tn_pd (j : Nat) : Int32 := match j with
  | 0 => -1
  | k + 1 => nI k
/-- undoTo, its loop -/
theorem sp_13l {hs0 : List (Nat × Nat)} (hQ : ∀ h', tn_C n m ar sg pt hs0 h' → tn_fG h h' → Q h' (.inl none)) : ∀ (ns : List (Nat × Nat)) (h1 : am_S), tn_D n m ar sg pt (ns ++ hs0) h1 → tn_fG h h1 →
    am_AW tn_G tn_X (13, 7, 0, [some (.ref 2), some (.int (nI hs0.length)), some (.int (tn_pd (ns ++ hs0).length))], [], h1) Q := by
  intro ns
  induction ns with
  | nil =>
    intro h1 C fr
    have hn := C.le
    have hl := pu_len0 C.V
    simp only [List.nil_append] at hl C ⊢
    refine am_AW.go [7] 60 ?_
    simp only [am_Zs, am_zn_1, am_g3, am_a3, am_kz_l, am_kz_r, am_mem, Bool.false_eq_true, am_Rs, am_R0, am_g2, am_al, am_kk_l, am_kk_r, am_step, am_op, am_one, am_two, am_br, am_inv, am_pp, am_ct, am_in, am_no, am_rc, am_s1, am_cut, am_s2, List.getElem?_cons_zero, List.getElem?_cons_succ, List.set_cons_zero, List.set_cons_succ, Value.category, List.cons_append, List.nil_append, am_f0, am_f1, am_f2, am_f3, am_cm1, am_c0, am_c1, am_c2, am_c3, am_c20, am_c40, am_c400, am_c401, am_c1600, true_and, and_true, true_implies, if_true, if_false, Nat.reduceAdd, Nat.reduceSub, Nat.reduceLT, Nat.reduceLeDiff, Nat.reduceEqDiff, reduceIte, Nat.le_refl, or_false, false_and, false_implies, or_true, true_or, implies_true, pk_us, pk_un, am_vs, am_vn, bx_uu, ne_eq, not_false_eq_true, not_true_eq_false, am_b0, am_b1, Nat.not_lt_zero, am_tl0, am_tl1, kr_13, kn_13, kl_13, kc_13_0, kc_13_1, kf_13_24, kc_13_4, kc_13_5, kc_13_6, kc_13_7, kc_13_8, kc_13_9, kc_13_12, kc_13_13, kc_13_14, kf_13_21, kc_13_17, kc_13_18, kc_13_19, kl_14, ko_14, kn_14, ka_13_73, kc_13_22, kc_13_25, kc_13_28, kc_13_29, kc_13_30, kc_13_33, tn_X0, tn_X1, tn_X2, tn_X3, tn_X4, tn_X5, tn_X6, tn_X7, tn_X8, tn_X9, tn_X10, tn_X11, tn_X12, tn_X13, tn_X14, tn_X15, tn_X16, tn_X17, tn_X18, tn_X19, tn_X20, tn_X21, tn_X22]
    refine ⟨fun _ => hQ _ C ⟨fun i hi => ?_, fr.2⟩, fun q => ?_⟩
    · simp only [pk_un hi]; exact fr.1 i hi
    · exfalso
      apply q
      cases hs0 with
      | nil => decide
      | cons p hs0 =>
        simp only [List.length_cons] at hl
        exact nI_lt (by simp) (by simp only [List.length_cons]; omega)
  | cons p ns ih =>
    intro h1 C fr
    obtain ⟨w, l⟩ := p
    have hn := C.le
    have hl := pu_len0 C.V
    simp only [List.cons_append, List.length_cons, List.length_append] at hl
    have hpd : tn_pd ((w, l) :: (ns ++ hs0)).length = nI (ns ++ hs0).length := rfl
    have htr := C.2.2.2.2.2.2.2.2 (ns ++ hs0).length (w, l) (by
      rw [List.cons_append, List.reverse_cons, List.getElem?_append_right (by rw [List.length_reverse]; exact Nat.le_refl _), List.length_reverse, Nat.sub_self]
      rfl)
    simp only at htr
    refine am_AW.go [7] 60 ?_
    simp only [am_Zs, am_zn_1, am_g3, am_a3, am_kz_l, am_kz_r, am_mem, Bool.false_eq_true, am_Rs, am_R0, am_g2, am_al, am_kk_l, am_kk_r, am_step, am_op, am_one, am_two, am_br, am_inv, am_pp, am_ct, am_in, am_no, am_rc, am_s1, am_cut, am_s2, List.getElem?_cons_zero, List.getElem?_cons_succ, List.set_cons_zero, List.set_cons_succ, Value.category, List.cons_append, List.nil_append, am_f0, am_f1, am_f2, am_f3, am_cm1, am_c0, am_c1, am_c2, am_c3, am_c20, am_c40, am_c400, am_c401, am_c1600, true_and, and_true, true_implies, if_true, if_false, Nat.reduceAdd, Nat.reduceSub, Nat.reduceLT, Nat.reduceLeDiff, Nat.reduceEqDiff, reduceIte, Nat.le_refl, or_false, false_and, false_implies, or_true, true_or, implies_true, pk_us, pk_un, am_vs, am_vn, bx_uu, ne_eq, not_false_eq_true, not_true_eq_false, am_b0, am_b1, Nat.not_lt_zero, am_tl0, am_tl1, kr_13, kn_13, kl_13, kc_13_0, kc_13_1, kf_13_24, kc_13_4, kc_13_5, kc_13_6, kc_13_7, kc_13_8, kc_13_9, kc_13_12, kc_13_13, kc_13_14, kf_13_21, kc_13_17, kc_13_18, kc_13_19, kl_14, ko_14, kn_14, ka_13_73, kc_13_22, kc_13_25, kc_13_28, kc_13_29, kc_13_30, kc_13_33, tn_X0, tn_X1, tn_X2, tn_X3, tn_X4, tn_X5, tn_X6, tn_X7, tn_X8, tn_X9, tn_X10, tn_X11, tn_X12, tn_X13, tn_X14, tn_X15, tn_X16, tn_X17, tn_X18, tn_X19, tn_X20, tn_X21, tn_X22]
    rw [hpd, cl_ (by rw [List.length_append]; omega), htr]
    refine ⟨fun q => absurd q (nI_nlt (by rw [List.length_append]; omega) (by rw [List.length_append]; omega)), fun _ => ⟨vi_ (by rw [List.length_append]; omega) (by omega), ?_⟩⟩
    refine sp_14 C (fun h2 C2 e1 e2 => ?_)
    simp only [am_Zs, am_zn_1, am_g3, am_a3, am_kz_l, am_kz_r, am_mem, Bool.false_eq_true, am_Rs, am_R0, am_g2, am_al, am_kk_l, am_kk_r, am_step, am_op, am_one, am_two, am_br, am_inv, am_pp, am_ct, am_in, am_no, am_rc, am_s1, am_cut, am_s2, List.getElem?_cons_zero, List.getElem?_cons_succ, List.set_cons_zero, List.set_cons_succ, Value.category, List.cons_append, List.nil_append, am_f0, am_f1, am_f2, am_f3, am_cm1, am_c0, am_c1, am_c2, am_c3, am_c20, am_c40, am_c400, am_c401, am_c1600, true_and, and_true, true_implies, if_true, if_false, Nat.reduceAdd, Nat.reduceSub, Nat.reduceLT, Nat.reduceLeDiff, Nat.reduceEqDiff, reduceIte, Nat.le_refl, or_false, false_and, false_implies, or_true, true_or, implies_true, pk_us, pk_un, am_vs, am_vn, bx_uu, ne_eq, not_false_eq_true, not_true_eq_false, am_b0, am_b1, Nat.not_lt_zero, am_tl0, am_tl1, kr_13, kn_13, kl_13, kc_13_0, kc_13_1, kf_13_24, kc_13_4, kc_13_5, kc_13_6, kc_13_7, kc_13_8, kc_13_9, kc_13_12, kc_13_13, kc_13_14, kf_13_21, kc_13_17, kc_13_18, kc_13_19, kl_14, ko_14, kn_14, ka_13_73, kc_13_22, kc_13_25, kc_13_28, kc_13_29, kc_13_30, kc_13_33, tn_X0, tn_X1, tn_X2, tn_X3, tn_X4, tn_X5, tn_X6, tn_X7, tn_X8, tn_X9, tn_X10, tn_X11, tn_X12, tn_X13, tn_X14, tn_X15, tn_X16, tn_X17, tn_X18, tn_X19, tn_X20, tn_X21, tn_X22]
    have hpd2 : nI (ns ++ hs0).length + -1 = tn_pd (ns ++ hs0).length := by
      cases hz : (ns ++ hs0).length with
      | zero => decide
      | succ k => rw [pk_m1]; rfl
    rw [hpd2]
    exact ih h2 C2 (fr.tr ⟨fun i _ => by rw [e1], fun k hk => e2 k (by omega)⟩)
/-- Groups.undoTo -/
theorem sp_13 {ns hs0 : List (Nat × Nat)} (C : tn_C n m ar sg pt (ns ++ hs0) h) (hQ : ∀ h', tn_C n m ar sg pt hs0 h' → tn_fG h h' → Q h' (.inl none)) : am_AW tn_G tn_X (13, 0, 0, [some (.ref 2), some (.int (nI hs0.length)), none], [], h) Q := by
  refine am_AW.go [7] 60 ?_
  simp only [am_Zs, am_zn_1, am_g3, am_a3, am_kz_l, am_kz_r, am_mem, Bool.false_eq_true, am_Rs, am_R0, am_g2, am_al, am_kk_l, am_kk_r, am_step, am_op, am_one, am_two, am_br, am_inv, am_pp, am_ct, am_in, am_no, am_rc, am_s1, am_cut, am_s2, List.getElem?_cons_zero, List.getElem?_cons_succ, List.set_cons_zero, List.set_cons_succ, Value.category, List.cons_append, List.nil_append, am_f0, am_f1, am_f2, am_f3, am_cm1, am_c0, am_c1, am_c2, am_c3, am_c20, am_c40, am_c400, am_c401, am_c1600, true_and, and_true, true_implies, if_true, if_false, Nat.reduceAdd, Nat.reduceSub, Nat.reduceLT, Nat.reduceLeDiff, Nat.reduceEqDiff, reduceIte, Nat.le_refl, or_false, false_and, false_implies, or_true, true_or, implies_true, pk_us, pk_un, am_vs, am_vn, bx_uu, ne_eq, not_false_eq_true, not_true_eq_false, am_b0, am_b1, Nat.not_lt_zero, am_tl0, am_tl1, kr_13, kn_13, kl_13, kc_13_0, kc_13_1, kf_13_24, kc_13_4, kc_13_5, kc_13_6, kc_13_7, kc_13_8, kc_13_9, kc_13_12, kc_13_13, kc_13_14, kf_13_21, kc_13_17, kc_13_18, kc_13_19, kl_14, ko_14, kn_14, ka_13_73, kc_13_22, kc_13_25, kc_13_28, kc_13_29, kc_13_30, kc_13_33, tn_X0, tn_X1, tn_X2, tn_X3, tn_X4, tn_X5, tn_X6, tn_X7, tn_X8, tn_X9, tn_X10, tn_X11, tn_X12, tn_X13, tn_X14, tn_X15, tn_X16, tn_X17, tn_X18, tn_X19, tn_X20, tn_X21, tn_X22]
  have hpd : h.1 4 - nI 1 = tn_pd (ns ++ hs0).length := by
    rw [C.2.2.1]
    cases hz : (ns ++ hs0).length with
    | zero => decide
    | succ k => rw [show nI 1 = 1 by decide, nI_pred]; rfl
  rw [hpd]
  exact sp_13l hQ ns h C.D tn_fG.rf
end ST
