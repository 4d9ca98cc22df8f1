/-! TermNetModel: back, count. -/
section BC
variable {n m : Nat} {ar : Nat → Nat} {sg : Nat → Option Nat} {pt : Nat → Nat → Nat} {hs : List (Nat × Nat)} {eq : Nat} {P : List (Nat × Nat × Nat)} {h : am_S} {Q : am_Q}
theorem tn_B.cut (B : tn_B n m ar sg pt h) {n' : Nat} (hn : n' ≤ n) {h' : am_S} (f0 : h'.1 0 = h.1 0) (f1 : h'.1 1 = nI n') (f2 : ∀ k, 1 ≤ k → k ≤ 3 → h'.2 k = h.2 k) : tn_B n' m ar sg pt h' := by
  have := B.le
  refine ⟨⟨by rw [f0]; exact B.1.1, B.1.2⟩, ⟨f1, by omega⟩, fun s q => by rw [f2 1 (by omega) (by omega)]; exact B.2.2.1 s q, fun t ht => by rw [f2 2 (by omega) (by omega), f2 3 (by omega) (by omega)]; exact B.2.2.2.1 t (by omega), fun t ht => B.T t (by omega)⟩
set_option maxRecDepth 20000 in
theorem sp_75l {n' : Nat} (hN : h.1 1 = nI n') (hn : n' ≤ 400) {i0 : Nat} (hi : h.1 2 = nI i0) (h20 : i0 < 20) {g : Nat → Nat} (hd8 : ∀ t, t < n' → h.2 8 (400 * i0 + t) = nI (g t))
    (hE : ∀ h1, tn_gr 4 n' g h1 → tn_fo 4 h h1 → am_AW tn_G tn_Y (75, 98, 0, [some (.ref 0), some (.int (nI n'))], [], h1) Q) :
    ∀ (d t : Nat), n' - t = d → t ≤ n' → ∀ h1, (∀ u, u < t → h1.2 4 u = nI (g u)) → tn_fo 4 h h1 → am_AW tn_G tn_Y (75, 63, 0, [some (.ref 0), some (.int (nI t))], [], h1) Q := by
  intro d
  induction d with
  | zero =>
    intro t hd ht h1 q f
    have : t = n' := by omega
    subst this
    refine am_AW.go [71, 98] 6 ?_
    simp only [am_Zs, am_zn_1, am_g3, am_a3, am_kz_l, am_kz_r, am_mem, Bool.false_eq_true, am_Rs, am_R0, am_g2, am_al, am_kk_l, am_kk_r, am_step, am_op, am_one, am_two, am_br, am_inv, am_pp, am_ct, am_in, am_no, am_rc, am_s1, am_cut, am_s2, List.getElem?_cons_zero, List.getElem?_cons_succ, List.set_cons_zero, List.set_cons_succ, Value.category, List.cons_append, List.nil_append, am_f0, am_f1, am_f2, am_f3, am_cm1, am_c0, am_c1, am_c2, am_c3, am_c20, am_c40, am_c400, am_c401, am_c1600, true_and, and_true, true_implies, if_true, if_false, Nat.reduceAdd, Nat.reduceSub, Nat.reduceLT, Nat.reduceLeDiff, Nat.reduceEqDiff, reduceIte, Nat.le_refl, or_false, false_and, false_implies, or_true, true_or, implies_true, pk_us, pk_un, am_vs, am_vn, bx_uu, ne_eq, not_false_eq_true, not_true_eq_false, am_b0, am_b1, Nat.not_lt_zero, am_tl0, am_tl1, am_l1, kr_75, kn_75, kl_75, kc_75_0, kc_75_1, kc_75_2, kf_75_87, kc_75_5, kc_75_8, kc_75_9, kc_75_12, kc_75_13, kf_75_50, kc_75_16, kc_75_17, kc_75_20, kc_75_23, kc_75_24, kc_75_25, kc_75_26, kc_75_27, kc_75_30, kc_75_31, kc_75_32, kc_75_35, kc_75_36, kc_75_37, kf_75_25, kc_75_40, kc_75_41, kc_75_44, kc_75_45, kf_75_54, kc_75_48, kc_75_49, kc_75_50, kf_75_28, kc_75_53, kc_75_54, kc_75_57, kc_75_58, kf_75_80, kc_75_61, kc_75_62, kc_75_63, kc_75_64, kc_75_65, kc_75_68, kc_75_71, kc_75_72, kf_75_19, kc_75_75, kc_75_76, kc_75_77, kf_75_31, kc_75_80, kc_75_83, kc_75_84, kc_75_87, kc_75_88, kc_75_89, kc_75_90, kc_75_91, kc_75_92, kc_75_95, kc_75_98, kc_75_99, kc_75_102, tn_Y0, tn_Y1, tn_Y2, tn_Y3, tn_Y4, tn_Y5, tn_Y6, tn_Y7, tn_Y8, tn_Y9, tn_Y10, tn_Y11, tn_Y12, tn_Y13]
    rw [f.1, hN, nI_leI (by omega) (by omega)]
    exact ⟨fun _ => hE h1 q f, fun z => by omega⟩
  | succ d ih =>
    intro t hd ht h1 q f
    refine am_AW.go [71, 98] 6 ?_
    simp only [am_Zs, am_zn_1, am_g3, am_a3, am_kz_l, am_kz_r, am_mem, Bool.false_eq_true, am_Rs, am_R0, am_g2, am_al, am_kk_l, am_kk_r, am_step, am_op, am_one, am_two, am_br, am_inv, am_pp, am_ct, am_in, am_no, am_rc, am_s1, am_cut, am_s2, List.getElem?_cons_zero, List.getElem?_cons_succ, List.set_cons_zero, List.set_cons_succ, Value.category, List.cons_append, List.nil_append, am_f0, am_f1, am_f2, am_f3, am_cm1, am_c0, am_c1, am_c2, am_c3, am_c20, am_c40, am_c400, am_c401, am_c1600, true_and, and_true, true_implies, if_true, if_false, Nat.reduceAdd, Nat.reduceSub, Nat.reduceLT, Nat.reduceLeDiff, Nat.reduceEqDiff, reduceIte, Nat.le_refl, or_false, false_and, false_implies, or_true, true_or, implies_true, pk_us, pk_un, am_vs, am_vn, bx_uu, ne_eq, not_false_eq_true, not_true_eq_false, am_b0, am_b1, Nat.not_lt_zero, am_tl0, am_tl1, am_l1, kr_75, kn_75, kl_75, kc_75_0, kc_75_1, kc_75_2, kf_75_87, kc_75_5, kc_75_8, kc_75_9, kc_75_12, kc_75_13, kf_75_50, kc_75_16, kc_75_17, kc_75_20, kc_75_23, kc_75_24, kc_75_25, kc_75_26, kc_75_27, kc_75_30, kc_75_31, kc_75_32, kc_75_35, kc_75_36, kc_75_37, kf_75_25, kc_75_40, kc_75_41, kc_75_44, kc_75_45, kf_75_54, kc_75_48, kc_75_49, kc_75_50, kf_75_28, kc_75_53, kc_75_54, kc_75_57, kc_75_58, kf_75_80, kc_75_61, kc_75_62, kc_75_63, kc_75_64, kc_75_65, kc_75_68, kc_75_71, kc_75_72, kf_75_19, kc_75_75, kc_75_76, kc_75_77, kf_75_31, kc_75_80, kc_75_83, kc_75_84, kc_75_87, kc_75_88, kc_75_89, kc_75_90, kc_75_91, kc_75_92, kc_75_95, kc_75_98, kc_75_99, kc_75_102, tn_Y0, tn_Y1, tn_Y2, tn_Y3, tn_Y4, tn_Y5, tn_Y6, tn_Y7, tn_Y8, tn_Y9, tn_Y10, tn_Y11, tn_Y12, tn_Y13]
    rw [f.1, hN, nI_leI (by omega) (by omega)]
    refine ⟨fun z => by omega, fun _ => ?_⟩
    refine am_AW.go [63] 17 ?_
    simp only [am_Zs, am_zn_1, am_g3, am_a3, am_kz_l, am_kz_r, am_mem, Bool.false_eq_true, am_Rs, am_R0, am_g2, am_al, am_kk_l, am_kk_r, am_step, am_op, am_one, am_two, am_br, am_inv, am_pp, am_ct, am_in, am_no, am_rc, am_s1, am_cut, am_s2, List.getElem?_cons_zero, List.getElem?_cons_succ, List.set_cons_zero, List.set_cons_succ, Value.category, List.cons_append, List.nil_append, am_f0, am_f1, am_f2, am_f3, am_cm1, am_c0, am_c1, am_c2, am_c3, am_c20, am_c40, am_c400, am_c401, am_c1600, true_and, and_true, true_implies, if_true, if_false, Nat.reduceAdd, Nat.reduceSub, Nat.reduceLT, Nat.reduceLeDiff, Nat.reduceEqDiff, reduceIte, Nat.le_refl, or_false, false_and, false_implies, or_true, true_or, implies_true, pk_us, pk_un, am_vs, am_vn, bx_uu, ne_eq, not_false_eq_true, not_true_eq_false, am_b0, am_b1, Nat.not_lt_zero, am_tl0, am_tl1, am_l1, kr_75, kn_75, kl_75, kc_75_0, kc_75_1, kc_75_2, kf_75_87, kc_75_5, kc_75_8, kc_75_9, kc_75_12, kc_75_13, kf_75_50, kc_75_16, kc_75_17, kc_75_20, kc_75_23, kc_75_24, kc_75_25, kc_75_26, kc_75_27, kc_75_30, kc_75_31, kc_75_32, kc_75_35, kc_75_36, kc_75_37, kf_75_25, kc_75_40, kc_75_41, kc_75_44, kc_75_45, kf_75_54, kc_75_48, kc_75_49, kc_75_50, kf_75_28, kc_75_53, kc_75_54, kc_75_57, kc_75_58, kf_75_80, kc_75_61, kc_75_62, kc_75_63, kc_75_64, kc_75_65, kc_75_68, kc_75_71, kc_75_72, kf_75_19, kc_75_75, kc_75_76, kc_75_77, kf_75_31, kc_75_80, kc_75_83, kc_75_84, kc_75_87, kc_75_88, kc_75_89, kc_75_90, kc_75_91, kc_75_92, kc_75_95, kc_75_98, kc_75_99, kc_75_102, tn_Y0, tn_Y1, tn_Y2, tn_Y3, tn_Y4, tn_Y5, tn_Y6, tn_Y7, tn_Y8, tn_Y9, tn_Y10, tn_Y11, tn_Y12, tn_Y13]
    rw [f.1, hi, pk_mul, nI_add, nI_clamp (by omega), nI_clamp (by omega), nI_add]
    refine ⟨vi_ (by omega) (by omega), vi_ (by omega) (by omega), ih (t + 1) (by omega) (by omega) _ (fun u hu => ?_) ⟨rfl, fun k hk => ?_⟩⟩
    · simp only [am_vs]
      by_cases e : u = t
      · subst e
        rw [pk_us, f.2 8 (by decide)]
        exact hd8 u (by omega)
      · rw [pk_un e]; exact q u (by omega)
    · simp only [am_vn hk]; exact f.2 k hk
set_option maxRecDepth 20000 in
/-- back -/
theorem sp_75 (J : tn_J n m ar sg pt hs eq P h) (h20 : P.length ≤ 20)
    (h1 : ∀ q P' h', P = q :: P' → q.1 ≤ n → (∀ ns hs0, hs = ns ++ hs0 → hs0.length = q.2.1 → tn_PT sg ar pt q.1 hs0 P' → tn_J q.1 m ar sg pt hs0 q.2.2 P' h') → h'.1 4 = nI 0 → Q h' (.inl (some (.int (nI P'.length))))) (hP : tn_PT sg ar pt n hs P) (h0 : P = [] → Q (upd h.1 4 (nI 1), h.2) (.inl (some (.int (nI 0))))) :
    am_AW tn_G tn_Y (75, 0, 0, [some (.ref 0), none], [], h) Q := by
  have hn := J.1.le
  refine am_AW.go [25] 14 ?_
  simp only [am_Zs, am_zn_1, am_g3, am_a3, am_kz_l, am_kz_r, am_mem, Bool.false_eq_true, am_Rs, am_R0, am_g2, am_al, am_kk_l, am_kk_r, am_step, am_op, am_one, am_two, am_br, am_inv, am_pp, am_ct, am_in, am_no, am_rc, am_s1, am_cut, am_s2, List.getElem?_cons_zero, List.getElem?_cons_succ, List.set_cons_zero, List.set_cons_succ, Value.category, List.cons_append, List.nil_append, am_f0, am_f1, am_f2, am_f3, am_cm1, am_c0, am_c1, am_c2, am_c3, am_c20, am_c40, am_c400, am_c401, am_c1600, true_and, and_true, true_implies, if_true, if_false, Nat.reduceAdd, Nat.reduceSub, Nat.reduceLT, Nat.reduceLeDiff, Nat.reduceEqDiff, reduceIte, Nat.le_refl, or_false, false_and, false_implies, or_true, true_or, implies_true, pk_us, pk_un, am_vs, am_vn, bx_uu, ne_eq, not_false_eq_true, not_true_eq_false, am_b0, am_b1, Nat.not_lt_zero, am_tl0, am_tl1, am_l1, kr_75, kn_75, kl_75, kc_75_0, kc_75_1, kc_75_2, kf_75_87, kc_75_5, kc_75_8, kc_75_9, kc_75_12, kc_75_13, kf_75_50, kc_75_16, kc_75_17, kc_75_20, kc_75_23, kc_75_24, kc_75_25, kc_75_26, kc_75_27, kc_75_30, kc_75_31, kc_75_32, kc_75_35, kc_75_36, kc_75_37, kf_75_25, kc_75_40, kc_75_41, kc_75_44, kc_75_45, kf_75_54, kc_75_48, kc_75_49, kc_75_50, kf_75_28, kc_75_53, kc_75_54, kc_75_57, kc_75_58, kf_75_80, kc_75_61, kc_75_62, kc_75_63, kc_75_64, kc_75_65, kc_75_68, kc_75_71, kc_75_72, kf_75_19, kc_75_75, kc_75_76, kc_75_77, kf_75_31, kc_75_80, kc_75_83, kc_75_84, kc_75_87, kc_75_88, kc_75_89, kc_75_90, kc_75_91, kc_75_92, kc_75_95, kc_75_98, kc_75_99, kc_75_102, tn_Y0, tn_Y1, tn_Y2, tn_Y3, tn_Y4, tn_Y5, tn_Y6, tn_Y7, tn_Y8, tn_Y9, tn_Y10, tn_Y11, tn_Y12, tn_Y13]
  rw [J.2.2.2.1]
  cases P with
  | nil => exact ⟨fun z => absurd nI_0 z, fun _ => ⟨fun z => absurd z (by decide), fun _ => h0 rfl⟩⟩
  | cons q P' =>
    simp only [List.length_cons] at h20 ⊢
    have ne : ¬ nI (P'.length + 1) = 0 := fun z => by
      rw [← nI_0, nI_eq (by omega) (by omega)] at z
      omega
    refine ⟨fun _ => ⟨fun _ => ?_, fun z => absurd (show nI 0 ≤ 0 by decide) z⟩, fun z => absurd z ne⟩
    have hq : (q :: P').reverse[P'.length]? = some q := by
      rw [List.reverse_cons, List.getElem?_append_right (by simp)]
      simp
    obtain ⟨r1, r2, r3⟩ := J.2.2.2.2 _ q hq
    have hqn := (hP.len q List.mem_cons_self).2
    have jl : h.1 2 = nI (P'.length + 1) := J.2.2.2.1
    refine am_AW.go [63] 24 ?_
    simp only [am_Zs, am_zn_1, am_g3, am_a3, am_kz_l, am_kz_r, am_mem, Bool.false_eq_true, am_Rs, am_R0, am_g2, am_al, am_kk_l, am_kk_r, am_step, am_op, am_one, am_two, am_br, am_inv, am_pp, am_ct, am_in, am_no, am_rc, am_s1, am_cut, am_s2, List.getElem?_cons_zero, List.getElem?_cons_succ, List.set_cons_zero, List.set_cons_succ, Value.category, List.cons_append, List.nil_append, am_f0, am_f1, am_f2, am_f3, am_cm1, am_c0, am_c1, am_c2, am_c3, am_c20, am_c40, am_c400, am_c401, am_c1600, true_and, and_true, true_implies, if_true, if_false, Nat.reduceAdd, Nat.reduceSub, Nat.reduceLT, Nat.reduceLeDiff, Nat.reduceEqDiff, reduceIte, Nat.le_refl, or_false, false_and, false_implies, or_true, true_or, implies_true, pk_us, pk_un, am_vs, am_vn, bx_uu, ne_eq, not_false_eq_true, not_true_eq_false, am_b0, am_b1, Nat.not_lt_zero, am_tl0, am_tl1, am_l1, kr_75, kn_75, kl_75, kc_75_0, kc_75_1, kc_75_2, kf_75_87, kc_75_5, kc_75_8, kc_75_9, kc_75_12, kc_75_13, kf_75_50, kc_75_16, kc_75_17, kc_75_20, kc_75_23, kc_75_24, kc_75_25, kc_75_26, kc_75_27, kc_75_30, kc_75_31, kc_75_32, kc_75_35, kc_75_36, kc_75_37, kf_75_25, kc_75_40, kc_75_41, kc_75_44, kc_75_45, kf_75_54, kc_75_48, kc_75_49, kc_75_50, kf_75_28, kc_75_53, kc_75_54, kc_75_57, kc_75_58, kf_75_80, kc_75_61, kc_75_62, kc_75_63, kc_75_64, kc_75_65, kc_75_68, kc_75_71, kc_75_72, kf_75_19, kc_75_75, kc_75_76, kc_75_77, kf_75_31, kc_75_80, kc_75_83, kc_75_84, kc_75_87, kc_75_88, kc_75_89, kc_75_90, kc_75_91, kc_75_92, kc_75_95, kc_75_98, kc_75_99, kc_75_102, tn_Y0, tn_Y1, tn_Y2, tn_Y3, tn_Y4, tn_Y5, tn_Y6, tn_Y7, tn_Y8, tn_Y9, tn_Y10, tn_Y11, tn_Y12, tn_Y13]
    rw [jl, show nI 1 = 1 by decide, nI_pred, cl_ (by omega), r1, r2]
    refine ⟨vi_ (by omega) (by omega), vi_ (by omega) (by omega), ?_⟩
    have fin : ∀ h2 : am_S, h2.1 0 = h.1 0 → h2.1 1 = nI q.1 → h2.1 2 = nI P'.length → h2.1 3 = nI q.2.2 → h2.1 4 = nI 0 → h2.2 = h.2 → am_AW tn_G tn_Y (75, 63, 0, [some (.ref 0), some (.int (nI 0))], [], h2) Q := fun h2 e0 e1 e2 e3 e4 e5 => by
      refine sp_75l e1 (by omega) e2 (by omega) (g := pu_hg (hs.drop (hs.length - q.2.1))) (fun t ht => by rw [e5]; exact r3 t ht) (fun h3 g3 f3 => ?_) _ 0 rfl (Nat.zero_le _) h2 (fun u hu => absurd hu (Nat.not_lt_zero _)) tn_fo.rf
      refine am_AW.go [] 5 ?_
      simp only [am_Zs, am_zn_1, am_g3, am_a3, am_kz_l, am_kz_r, am_mem, Bool.false_eq_true, am_Rs, am_R0, am_g2, am_al, am_kk_l, am_kk_r, am_step, am_op, am_one, am_two, am_br, am_inv, am_pp, am_ct, am_in, am_no, am_rc, am_s1, am_cut, am_s2, List.getElem?_cons_zero, List.getElem?_cons_succ, List.set_cons_zero, List.set_cons_succ, Value.category, List.cons_append, List.nil_append, am_f0, am_f1, am_f2, am_f3, am_cm1, am_c0, am_c1, am_c2, am_c3, am_c20, am_c40, am_c400, am_c401, am_c1600, true_and, and_true, true_implies, if_true, if_false, Nat.reduceAdd, Nat.reduceSub, Nat.reduceLT, Nat.reduceLeDiff, Nat.reduceEqDiff, reduceIte, Nat.le_refl, or_false, false_and, false_implies, or_true, true_or, implies_true, pk_us, pk_un, am_vs, am_vn, bx_uu, ne_eq, not_false_eq_true, not_true_eq_false, am_b0, am_b1, Nat.not_lt_zero, am_tl0, am_tl1, am_l1, kr_75, kn_75, kl_75, kc_75_0, kc_75_1, kc_75_2, kf_75_87, kc_75_5, kc_75_8, kc_75_9, kc_75_12, kc_75_13, kf_75_50, kc_75_16, kc_75_17, kc_75_20, kc_75_23, kc_75_24, kc_75_25, kc_75_26, kc_75_27, kc_75_30, kc_75_31, kc_75_32, kc_75_35, kc_75_36, kc_75_37, kf_75_25, kc_75_40, kc_75_41, kc_75_44, kc_75_45, kf_75_54, kc_75_48, kc_75_49, kc_75_50, kf_75_28, kc_75_53, kc_75_54, kc_75_57, kc_75_58, kf_75_80, kc_75_61, kc_75_62, kc_75_63, kc_75_64, kc_75_65, kc_75_68, kc_75_71, kc_75_72, kf_75_19, kc_75_75, kc_75_76, kc_75_77, kf_75_31, kc_75_80, kc_75_83, kc_75_84, kc_75_87, kc_75_88, kc_75_89, kc_75_90, kc_75_91, kc_75_92, kc_75_95, kc_75_98, kc_75_99, kc_75_102, tn_Y0, tn_Y1, tn_Y2, tn_Y3, tn_Y4, tn_Y5, tn_Y6, tn_Y7, tn_Y8, tn_Y9, tn_Y10, tn_Y11, tn_Y12, tn_Y13]
      rw [f3.1, e2]
      refine h1 q P' h3 rfl hqn (fun ns hs0 q1 q2 q3 => ⟨J.1.cut hqn (by rw [f3.1, e0]) (by rw [f3.1, e1]) (fun k _ _ => by rw [f3.2 k (by omega), e5]), fun t ht => ?_, by rw [f3.1, e3], by rw [f3.1, e2], fun i p hp => ?_⟩) (by rw [f3.1, e4])
      · rw [g3 t ht, q1, ← q2, pu_drop_app (Nat.le_refl _), Nat.sub_self, List.drop_zero]
      · have hm : p ∈ P' := List.mem_reverse.mp (List.mem_of_getElem? hp)
        have hi : i < P'.length := by
          have := (List.getElem?_eq_some_iff.mp hp).1
          simpa using this
        have z := J.2.2.2.2 i p (by rw [List.reverse_cons, List.getElem?_append_left (by simpa using hi)]; exact hp)
        rw [f3.2 6 (by decide), f3.2 7 (by decide), f3.2 8 (by decide), e5, ← pu_drop_app (ms := ns) (q3.len p hm).1, ← q1]
        exact z
    refine fin _ ?_ ?_ ?_ ?_ ?_ rfl
    · simp only [pk_un (show (0 : Nat) ≠ 3 by decide), pk_un (show (0 : Nat) ≠ 1 by decide), pk_un (show (0 : Nat) ≠ 2 by decide), pk_un (show (0 : Nat) ≠ 4 by decide)]
    · simp only [pk_un (show (1 : Nat) ≠ 3 by decide), pk_us]
    · simp only [pk_un (show (2 : Nat) ≠ 3 by decide), pk_un (show (2 : Nat) ≠ 1 by decide), pk_us]
    · simp only [pk_us]
    · simp only [pk_un (show (4 : Nat) ≠ 3 by decide), pk_un (show (4 : Nat) ≠ 1 by decide), pk_un (show (4 : Nat) ≠ 2 by decide), pk_us]
end BC
