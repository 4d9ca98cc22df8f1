/-! TermNetModel: count. -/
theorem am_sw76 (mk : Nat → am_C) (x : Int) : am_sw mk 69 x 0 0 [39, 44, 49, 54, 59, 61] = [(x = 0, mk 108), (x = 1, mk 113), (x = 2, mk 118), (x = 3, mk 123), (x = 4, mk 128), (x = 5, mk 130)] := rfl
theorem am_so76 : (am_swo 69 [39, 44, 49, 54, 59, 61] = true) = True := by simp [am_swo]
theorem am_sz76 : ((5 : Int) + 1 = 0 + ((#[39, 44, 49, 54, 59, 61] : Array Int).size : Int)) = True := by simp
section CO
variable {n m : Nat} {ar : Nat → Nat} {sg : Nat → Option Nat} {pt : Nat → Nat → Nat} {hs : List (Nat × Nat)} {eq : Nat} {P : List (Nat × Nat × Nat)} {h : am_S} {Q : am_Q}
set_option maxRecDepth 20000 in
theorem sp_76l {kn : Nat → Option Nat} (hN : h.1 1 = nI n) (hn : n ≤ 400) (hV : pu_V n hs) (gr : tn_gr 4 n (pu_hg hs) h) (KN : tn_kn n sg hs kn) (kr : ∀ u, u < n → h.2 9 u = tn_o (kn u)) {a a2 : Int32}
    (hE : am_AW tn_G tn_Y (76, 68, 0, [some (.ref 0), some (.int a), some (.int a2), some (.int (nI (pu_cn (fun t => decide (pu_hg hs t = t)) n))), some (.int (nI (pu_cn (fun t => decide (pu_hg hs t = t ∧ kn t ≠ none)) n))), some (.int (nI n))], [], h) Q) :
    ∀ (d t : Nat), n - t = d → t ≤ n → am_AW tn_G tn_Y (76, 22, 0, [some (.ref 0), some (.int a), some (.int a2), some (.int (nI (pu_cn (fun t => decide (pu_hg hs t = t)) t))), some (.int (nI (pu_cn (fun t => decide (pu_hg hs t = t ∧ kn t ≠ none)) t))), some (.int (nI t))], [], h) Q := by
  intro d
  induction d with
  | zero =>
    intro t hd ht
    have : t = n := by omega
    subst this
    refine am_AW.go [31, 68] 6 ?_
    simp only [am_Zs, am_zn_1, am_g3, am_a3, am_kz_l, am_kz_r, am_mem, Bool.false_eq_true, am_Rs, am_R0, am_g2, am_al, am_kk_l, am_kk_r, am_step, am_op, am_one, am_two, am_br, am_inv, am_pp, am_ct, am_in, am_no, am_rc, am_s1, am_cut, am_s2, List.getElem?_cons_zero, List.getElem?_cons_succ, List.set_cons_zero, List.set_cons_succ, Value.category, List.cons_append, List.nil_append, am_f0, am_f1, am_f2, am_f3, am_cm1, am_c0, am_c1, am_c2, am_c3, am_c20, am_c40, am_c400, am_c401, am_c1600, true_and, and_true, true_implies, if_true, if_false, Nat.reduceAdd, Nat.reduceSub, Nat.reduceLT, Nat.reduceLeDiff, Nat.reduceEqDiff, reduceIte, Nat.le_refl, or_false, false_and, false_implies, or_true, true_or, implies_true, pk_us, pk_un, am_vs, am_vn, bx_uu, ne_eq, not_false_eq_true, not_true_eq_false, am_b0, am_b1, Nat.not_lt_zero, am_tl0, am_tl1, am_l1, kr_76, kn_76, kl_76, kc_76_0, kc_76_1, kc_76_2, kf_76_50, kc_76_5, kc_76_6, kc_76_7, kf_76_19, kc_76_10, kl_64, ko_64, kn_64, ka_76_77, kc_76_13, kc_76_14, kc_76_15, kc_76_16, kc_76_17, kc_76_19, kc_76_20, kc_76_22, kc_76_24, kc_76_25, kf_76_54, kc_76_28, kc_76_31, kc_76_32, kc_76_35, kc_76_37, kc_76_38, kc_76_40, kc_76_43, kc_76_46, kc_76_49, kc_76_50, kf_76_34, kc_76_53, kc_76_55, kc_76_56, kc_76_59, kc_76_62, kc_76_65, kc_76_68, kc_76_69, kc_76_108, kc_76_109, kf_76_57, kc_76_112, kc_76_113, kc_76_114, kc_76_117, kc_76_118, kc_76_119, kf_76_87, kc_76_122, kc_76_123, kc_76_124, kf_76_80, kc_76_127, kc_76_128, kc_76_129, kc_76_130, kc_76_132, kc_76_133, kc_76_134, tn_Y0, tn_Y1, tn_Y2, tn_Y3, tn_Y4, tn_Y5, tn_Y6, tn_Y7, tn_Y8, tn_Y9, tn_Y10, tn_Y11, tn_Y12, tn_Y13]
    rw [hN, nI_leI (by omega) (by omega)]
    exact ⟨fun _ => hE, fun z => by omega⟩
  | succ d ih =>
    intro t hd ht
    have htn : t < n := by omega
    have gl := hV.part.lt htn
    have klt : tn_o (kn t) < 0 ↔ kn t = none := tn_o_lt fun k e => by
      have := ((KN t htn).1 k e).1
      omega
    have i1 := ih (t + 1) (by omega) (by omega)
    refine am_AW.go [31, 68] 6 ?_
    simp only [am_Zs, am_zn_1, am_g3, am_a3, am_kz_l, am_kz_r, am_mem, Bool.false_eq_true, am_Rs, am_R0, am_g2, am_al, am_kk_l, am_kk_r, am_step, am_op, am_one, am_two, am_br, am_inv, am_pp, am_ct, am_in, am_no, am_rc, am_s1, am_cut, am_s2, List.getElem?_cons_zero, List.getElem?_cons_succ, List.set_cons_zero, List.set_cons_succ, Value.category, List.cons_append, List.nil_append, am_f0, am_f1, am_f2, am_f3, am_cm1, am_c0, am_c1, am_c2, am_c3, am_c20, am_c40, am_c400, am_c401, am_c1600, true_and, and_true, true_implies, if_true, if_false, Nat.reduceAdd, Nat.reduceSub, Nat.reduceLT, Nat.reduceLeDiff, Nat.reduceEqDiff, reduceIte, Nat.le_refl, or_false, false_and, false_implies, or_true, true_or, implies_true, pk_us, pk_un, am_vs, am_vn, bx_uu, ne_eq, not_false_eq_true, not_true_eq_false, am_b0, am_b1, Nat.not_lt_zero, am_tl0, am_tl1, am_l1, kr_76, kn_76, kl_76, kc_76_0, kc_76_1, kc_76_2, kf_76_50, kc_76_5, kc_76_6, kc_76_7, kf_76_19, kc_76_10, kl_64, ko_64, kn_64, ka_76_77, kc_76_13, kc_76_14, kc_76_15, kc_76_16, kc_76_17, kc_76_19, kc_76_20, kc_76_22, kc_76_24, kc_76_25, kf_76_54, kc_76_28, kc_76_31, kc_76_32, kc_76_35, kc_76_37, kc_76_38, kc_76_40, kc_76_43, kc_76_46, kc_76_49, kc_76_50, kf_76_34, kc_76_53, kc_76_55, kc_76_56, kc_76_59, kc_76_62, kc_76_65, kc_76_68, kc_76_69, kc_76_108, kc_76_109, kf_76_57, kc_76_112, kc_76_113, kc_76_114, kc_76_117, kc_76_118, kc_76_119, kf_76_87, kc_76_122, kc_76_123, kc_76_124, kf_76_80, kc_76_127, kc_76_128, kc_76_129, kc_76_130, kc_76_132, kc_76_133, kc_76_134, tn_Y0, tn_Y1, tn_Y2, tn_Y3, tn_Y4, tn_Y5, tn_Y6, tn_Y7, tn_Y8, tn_Y9, tn_Y10, tn_Y11, tn_Y12, tn_Y13]
    rw [hN, nI_leI (by omega) (by omega)]
    refine ⟨fun z => by omega, fun _ => ?_⟩
    refine am_AW.go [22, 46] 10 ?_
    simp only [am_Zs, am_zn_1, am_g3, am_a3, am_kz_l, am_kz_r, am_mem, Bool.false_eq_true, am_Rs, am_R0, am_g2, am_al, am_kk_l, am_kk_r, am_step, am_op, am_one, am_two, am_br, am_inv, am_pp, am_ct, am_in, am_no, am_rc, am_s1, am_cut, am_s2, List.getElem?_cons_zero, List.getElem?_cons_succ, List.set_cons_zero, List.set_cons_succ, Value.category, List.cons_append, List.nil_append, am_f0, am_f1, am_f2, am_f3, am_cm1, am_c0, am_c1, am_c2, am_c3, am_c20, am_c40, am_c400, am_c401, am_c1600, true_and, and_true, true_implies, if_true, if_false, Nat.reduceAdd, Nat.reduceSub, Nat.reduceLT, Nat.reduceLeDiff, Nat.reduceEqDiff, reduceIte, Nat.le_refl, or_false, false_and, false_implies, or_true, true_or, implies_true, pk_us, pk_un, am_vs, am_vn, bx_uu, ne_eq, not_false_eq_true, not_true_eq_false, am_b0, am_b1, Nat.not_lt_zero, am_tl0, am_tl1, am_l1, kr_76, kn_76, kl_76, kc_76_0, kc_76_1, kc_76_2, kf_76_50, kc_76_5, kc_76_6, kc_76_7, kf_76_19, kc_76_10, kl_64, ko_64, kn_64, ka_76_77, kc_76_13, kc_76_14, kc_76_15, kc_76_16, kc_76_17, kc_76_19, kc_76_20, kc_76_22, kc_76_24, kc_76_25, kf_76_54, kc_76_28, kc_76_31, kc_76_32, kc_76_35, kc_76_37, kc_76_38, kc_76_40, kc_76_43, kc_76_46, kc_76_49, kc_76_50, kf_76_34, kc_76_53, kc_76_55, kc_76_56, kc_76_59, kc_76_62, kc_76_65, kc_76_68, kc_76_69, kc_76_108, kc_76_109, kf_76_57, kc_76_112, kc_76_113, kc_76_114, kc_76_117, kc_76_118, kc_76_119, kf_76_87, kc_76_122, kc_76_123, kc_76_124, kf_76_80, kc_76_127, kc_76_128, kc_76_129, kc_76_130, kc_76_132, kc_76_133, kc_76_134, tn_Y0, tn_Y1, tn_Y2, tn_Y3, tn_Y4, tn_Y5, tn_Y6, tn_Y7, tn_Y8, tn_Y9, tn_Y10, tn_Y11, tn_Y12, tn_Y13]
    rw [cl_ (by omega), gr t htn, nI_eq (by omega) (by omega), nI_add]
    refine ⟨vi_ (by omega) (by omega), fun e => ?_, fun e => ?_⟩
    · refine am_AW.go [22] 10 ?_
      simp only [am_Zs, am_zn_1, am_g3, am_a3, am_kz_l, am_kz_r, am_mem, Bool.false_eq_true, am_Rs, am_R0, am_g2, am_al, am_kk_l, am_kk_r, am_step, am_op, am_one, am_two, am_br, am_inv, am_pp, am_ct, am_in, am_no, am_rc, am_s1, am_cut, am_s2, List.getElem?_cons_zero, List.getElem?_cons_succ, List.set_cons_zero, List.set_cons_succ, Value.category, List.cons_append, List.nil_append, am_f0, am_f1, am_f2, am_f3, am_cm1, am_c0, am_c1, am_c2, am_c3, am_c20, am_c40, am_c400, am_c401, am_c1600, true_and, and_true, true_implies, if_true, if_false, Nat.reduceAdd, Nat.reduceSub, Nat.reduceLT, Nat.reduceLeDiff, Nat.reduceEqDiff, reduceIte, Nat.le_refl, or_false, false_and, false_implies, or_true, true_or, implies_true, pk_us, pk_un, am_vs, am_vn, bx_uu, ne_eq, not_false_eq_true, not_true_eq_false, am_b0, am_b1, Nat.not_lt_zero, am_tl0, am_tl1, am_l1, kr_76, kn_76, kl_76, kc_76_0, kc_76_1, kc_76_2, kf_76_50, kc_76_5, kc_76_6, kc_76_7, kf_76_19, kc_76_10, kl_64, ko_64, kn_64, ka_76_77, kc_76_13, kc_76_14, kc_76_15, kc_76_16, kc_76_17, kc_76_19, kc_76_20, kc_76_22, kc_76_24, kc_76_25, kf_76_54, kc_76_28, kc_76_31, kc_76_32, kc_76_35, kc_76_37, kc_76_38, kc_76_40, kc_76_43, kc_76_46, kc_76_49, kc_76_50, kf_76_34, kc_76_53, kc_76_55, kc_76_56, kc_76_59, kc_76_62, kc_76_65, kc_76_68, kc_76_69, kc_76_108, kc_76_109, kf_76_57, kc_76_112, kc_76_113, kc_76_114, kc_76_117, kc_76_118, kc_76_119, kf_76_87, kc_76_122, kc_76_123, kc_76_124, kf_76_80, kc_76_127, kc_76_128, kc_76_129, kc_76_130, kc_76_132, kc_76_133, kc_76_134, tn_Y0, tn_Y1, tn_Y2, tn_Y3, tn_Y4, tn_Y5, tn_Y6, tn_Y7, tn_Y8, tn_Y9, tn_Y10, tn_Y11, tn_Y12, tn_Y13]
      rw [cl_ (by omega), kr t htn, klt, nI_add, nI_add, nI_add]
      refine ⟨vi_ (by omega) (by omega), fun e2 => ?_, fun e2 => ?_⟩
      · simp only [pu_cn, e, e2, ne_eq, not_true_eq_false, and_false, decide_false, decide_true, Bool.false_eq_true, if_false, if_true, Nat.add_zero] at i1
        exact i1
      · simp only [pu_cn, e, e2, ne_eq, not_false_eq_true, and_self, decide_true, if_true] at i1
        exact i1
    · simp only [pu_cn, e, false_and, decide_false, Bool.false_eq_true, if_false, Nat.add_zero] at i1
      exact i1
set_option maxRecDepth 20000 in
/-- count -/
theorem sp_76 (J : tn_J n m ar sg pt hs eq P h) (hV : pu_V n hs) (G : pu_Good n sg ar pt (pu_hg hs)) {a : Int32} (hQ : ∀ h', tn_fA h h' → h'.1 4 = nI 0 → Q h' (.inl (some (.int (tn_ct n m sg hs eq P a))))) : am_AW tn_G tn_Y (76, 0, 0, [some (.ref 0), some (.int a), none, none, none, none], [], h) Q := by
  have hn := J.1.le
  have fA0 : tn_fA h (upd h.1 4 (nI 0), h.2) := tn_fA.t
  have J1 := J.fA fA0
  refine am_AW.go [22] 16 ?_
  simp only [am_Zs, am_zn_1, am_g3, am_a3, am_kz_l, am_kz_r, am_mem, Bool.false_eq_true, am_Rs, am_R0, am_g2, am_al, am_kk_l, am_kk_r, am_step, am_op, am_one, am_two, am_br, am_inv, am_pp, am_ct, am_in, am_no, am_rc, am_s1, am_cut, am_s2, List.getElem?_cons_zero, List.getElem?_cons_succ, List.set_cons_zero, List.set_cons_succ, Value.category, List.cons_append, List.nil_append, am_f0, am_f1, am_f2, am_f3, am_cm1, am_c0, am_c1, am_c2, am_c3, am_c20, am_c40, am_c400, am_c401, am_c1600, true_and, and_true, true_implies, if_true, if_false, Nat.reduceAdd, Nat.reduceSub, Nat.reduceLT, Nat.reduceLeDiff, Nat.reduceEqDiff, reduceIte, Nat.le_refl, or_false, false_and, false_implies, or_true, true_or, implies_true, pk_us, pk_un, am_vs, am_vn, bx_uu, ne_eq, not_false_eq_true, not_true_eq_false, am_b0, am_b1, Nat.not_lt_zero, am_tl0, am_tl1, am_l1, kr_76, kn_76, kl_76, kc_76_0, kc_76_1, kc_76_2, kf_76_50, kc_76_5, kc_76_6, kc_76_7, kf_76_19, kc_76_10, kl_64, ko_64, kn_64, ka_76_77, kc_76_13, kc_76_14, kc_76_15, kc_76_16, kc_76_17, kc_76_19, kc_76_20, kc_76_22, kc_76_24, kc_76_25, kf_76_54, kc_76_28, kc_76_31, kc_76_32, kc_76_35, kc_76_37, kc_76_38, kc_76_40, kc_76_43, kc_76_46, kc_76_49, kc_76_50, kf_76_34, kc_76_53, kc_76_55, kc_76_56, kc_76_59, kc_76_62, kc_76_65, kc_76_68, kc_76_69, kc_76_108, kc_76_109, kf_76_57, kc_76_112, kc_76_113, kc_76_114, kc_76_117, kc_76_118, kc_76_119, kf_76_87, kc_76_122, kc_76_123, kc_76_124, kf_76_80, kc_76_127, kc_76_128, kc_76_129, kc_76_130, kc_76_132, kc_76_133, kc_76_134, tn_Y0, tn_Y1, tn_Y2, tn_Y3, tn_Y4, tn_Y5, tn_Y6, tn_Y7, tn_Y8, tn_Y9, tn_Y10, tn_Y11, tn_Y12, tn_Y13]
  refine sp_64 J1.1 tn_Y4 (by decide) hV G.2.1 J1.2.1 (fun kn L fs fd h3 KN K all f => ?_) (fun h3 na f => absurd G.2.2.2 na)
  simp only [am_Zs, am_zn_1, am_g3, am_a3, am_kz_l, am_kz_r, am_mem, Bool.false_eq_true, am_Rs, am_R0, am_g2, am_al, am_kk_l, am_kk_r, am_step, am_op, am_one, am_two, am_br, am_inv, am_pp, am_ct, am_in, am_no, am_rc, am_s1, am_cut, am_s2, List.getElem?_cons_zero, List.getElem?_cons_succ, List.set_cons_zero, List.set_cons_succ, Value.category, List.cons_append, List.nil_append, am_f0, am_f1, am_f2, am_f3, am_cm1, am_c0, am_c1, am_c2, am_c3, am_c20, am_c40, am_c400, am_c401, am_c1600, true_and, and_true, true_implies, if_true, if_false, Nat.reduceAdd, Nat.reduceSub, Nat.reduceLT, Nat.reduceLeDiff, Nat.reduceEqDiff, reduceIte, Nat.le_refl, or_false, false_and, false_implies, or_true, true_or, implies_true, pk_us, pk_un, am_vs, am_vn, bx_uu, ne_eq, not_false_eq_true, not_true_eq_false, am_b0, am_b1, Nat.not_lt_zero, am_tl0, am_tl1, am_l1, kr_76, kn_76, kl_76, kc_76_0, kc_76_1, kc_76_2, kf_76_50, kc_76_5, kc_76_6, kc_76_7, kf_76_19, kc_76_10, kl_64, ko_64, kn_64, ka_76_77, kc_76_13, kc_76_14, kc_76_15, kc_76_16, kc_76_17, kc_76_19, kc_76_20, kc_76_22, kc_76_24, kc_76_25, kf_76_54, kc_76_28, kc_76_31, kc_76_32, kc_76_35, kc_76_37, kc_76_38, kc_76_40, kc_76_43, kc_76_46, kc_76_49, kc_76_50, kf_76_34, kc_76_53, kc_76_55, kc_76_56, kc_76_59, kc_76_62, kc_76_65, kc_76_68, kc_76_69, kc_76_108, kc_76_109, kf_76_57, kc_76_112, kc_76_113, kc_76_114, kc_76_117, kc_76_118, kc_76_119, kf_76_87, kc_76_122, kc_76_123, kc_76_124, kf_76_80, kc_76_127, kc_76_128, kc_76_129, kc_76_130, kc_76_132, kc_76_133, kc_76_134, tn_Y0, tn_Y1, tn_Y2, tn_Y3, tn_Y4, tn_Y5, tn_Y6, tn_Y7, tn_Y8, tn_Y9, tn_Y10, tn_Y11, tn_Y12, tn_Y13]
  have fA : tn_fA h h3 := fA0.tr f.A
  have J3 := J.fA fA
  have q := hQ h3 fA (by rw [f.1]; simp only [pk_us])
  have ld : pu_cn (fun t => decide (pu_hg hs t = t)) n = n - hs.length := by have := pu_ld hV; omega
  have kk : pu_cn (fun t => decide (pu_hg hs t = t ∧ kn t ≠ none)) n = pu_cn (fun t => decide (pu_hg hs t = t ∧ pu_hs sg hs t ≠ none)) n := pu_cn_congr (fun u hu => by
    by_cases z : pu_hg hs u = u
    · simp only [z, true_and, ne_eq, KN.non hV hu z]
    · simp only [z, false_and])
  refine sp_76l J3.1.nn hn hV J3.2.1 KN K.1 ?_ _ 0 rfl (Nat.zero_le _)
  rw [ld, kk]
  refine am_AW.go [] 6 ?_
  simp only [am_Zs, am_zn_1, am_g3, am_a3, am_kz_l, am_kz_r, am_mem, Bool.false_eq_true, am_Rs, am_R0, am_g2, am_al, am_kk_l, am_kk_r, am_step, am_op, am_one, am_two, am_br, am_inv, am_pp, am_ct, am_in, am_no, am_rc, am_s1, am_cut, am_s2, List.getElem?_cons_zero, List.getElem?_cons_succ, List.set_cons_zero, List.set_cons_succ, Value.category, List.cons_append, List.nil_append, am_f0, am_f1, am_f2, am_f3, am_cm1, am_c0, am_c1, am_c2, am_c3, am_c20, am_c40, am_c400, am_c401, am_c1600, true_and, and_true, true_implies, if_true, if_false, Nat.reduceAdd, Nat.reduceSub, Nat.reduceLT, Nat.reduceLeDiff, Nat.reduceEqDiff, reduceIte, Nat.le_refl, or_false, false_and, false_implies, or_true, true_or, implies_true, pk_us, pk_un, am_vs, am_vn, bx_uu, ne_eq, not_false_eq_true, not_true_eq_false, am_b0, am_b1, Nat.not_lt_zero, am_tl0, am_tl1, am_l1, kr_76, kn_76, kl_76, kc_76_0, kc_76_1, kc_76_2, kf_76_50, kc_76_5, kc_76_6, kc_76_7, kf_76_19, kc_76_10, kl_64, ko_64, kn_64, ka_76_77, kc_76_13, kc_76_14, kc_76_15, kc_76_16, kc_76_17, kc_76_19, kc_76_20, kc_76_22, kc_76_24, kc_76_25, kf_76_54, kc_76_28, kc_76_31, kc_76_32, kc_76_35, kc_76_37, kc_76_38, kc_76_40, kc_76_43, kc_76_46, kc_76_49, kc_76_50, kf_76_34, kc_76_53, kc_76_55, kc_76_56, kc_76_59, kc_76_62, kc_76_65, kc_76_68, kc_76_69, kc_76_108, kc_76_109, kf_76_57, kc_76_112, kc_76_113, kc_76_114, kc_76_117, kc_76_118, kc_76_119, kf_76_87, kc_76_122, kc_76_123, kc_76_124, kf_76_80, kc_76_127, kc_76_128, kc_76_129, kc_76_130, kc_76_132, kc_76_133, kc_76_134, tn_Y0, tn_Y1, tn_Y2, tn_Y3, tn_Y4, tn_Y5, tn_Y6, tn_Y7, tn_Y8, tn_Y9, tn_Y10, tn_Y11, tn_Y12, tn_Y13, am_sw76, am_so76, am_sz76]
  refine ⟨fun e => ?_, fun e => ?_, fun e => ?_, fun e => ?_, fun e => ?_, fun e => ?_, fun e => ?_⟩
  · rw [tn_ct, if_neg (by omega), if_neg (by omega), if_neg (by omega), if_neg (by omega), if_neg (by omega), if_neg (by omega)] at q
    exact q
  · rw [tn_ct, if_pos e] at q
    rw [J3.1.1.1]
    exact q
  · rw [tn_ct, if_neg (by omega), if_pos e] at q
    rw [J3.1.nn]
    exact q
  · rw [tn_ct, if_neg (by omega), if_neg (by omega), if_pos e] at q
    rw [J3.2.2.2.1]
    exact q
  · rw [tn_ct, if_neg (by omega), if_neg (by omega), if_neg (by omega), if_pos e] at q
    rw [J3.2.2.1]
    exact q
  · rw [tn_ct, if_neg (by omega), if_neg (by omega), if_neg (by omega), if_neg (by omega), if_pos e] at q
    exact q
  · rw [tn_ct, if_neg (by omega), if_neg (by omega), if_neg (by omega), if_neg (by omega), if_neg (by omega), if_pos e] at q
    exact q
end CO
