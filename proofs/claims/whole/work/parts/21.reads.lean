/-! THE CLASS'S STATE: n terms, m signs with ar parts, sg and pt as told, hs the merges that stand (the latest first). -/
def tn_o (x : Option Nat) : Int32 := match x with
  | none => -1
  | some k => nI k
theorem tn_o_none {x : Option Nat} (h : ∀ k, x = some k → k < 2 ^ 31) : tn_o x = -1 ↔ x = none := by
  cases x with
  | none => simp [tn_o]
  | some k =>
    simp only [tn_o, reduceCtorEq, iff_false]
    intro e
    have h1 := congrArg Int32.toInt e
    rw [nI_toInt (h k rfl)] at h1
    have h2 : (-1 : Int32).toInt = -1 := by decide
    rw [h2] at h1
    omega
def tn_C (n m : Nat) (ar : Nat → Nat) (sg : Nat → Option Nat) (pt : Nat → Nat → Nat) (hs : List (Nat × Nat)) (h : am_S) : Prop :=
  (h.1 2 = nI m ∧ m ≤ 40) ∧ (h.1 3 = nI n ∧ n ≤ 400) ∧ h.1 4 = nI hs.length ∧ (∀ s, s < m → h.2 8 s = nI (ar s) ∧ ar s ≤ 3) ∧
  (∀ t, t < n → h.2 9 t = tn_o (sg t) ∧ (∀ s, sg t = some s → s < m) ∧ ∀ k, k < pu_np sg ar t → h.2 10 (t * 3 + k) = nI (pt t k)) ∧ pu_Told n sg ar pt ∧ pu_V n hs ∧
  (∀ t, t < n → h.2 11 t = nI (pu_hg hs t) ∧ h.2 12 t = nI (pu_hr hs t) ∧ h.2 13 t = tn_o (pu_hs sg hs t)) ∧ ∀ (i : Nat) (q : Nat × Nat), hs.reverse[i]? = some q → h.2 14 i = nI q.2
section CC
variable {n m : Nat} {ar : Nat → Nat} {sg : Nat → Option Nat} {pt : Nat → Nat → Nat} {hs : List (Nat × Nat)} {h : am_S}
theorem tn_C.le (C : tn_C n m ar sg pt hs h) : n ≤ 400 := C.2.1.2
theorem tn_C.nn (C : tn_C n m ar sg pt hs h) : h.1 3 = nI n := C.2.1.1
theorem tn_C.V (C : tn_C n m ar sg pt hs h) : pu_V n hs := C.2.2.2.2.2.2.1
theorem tn_C.T (C : tn_C n m ar sg pt hs h) : pu_Told n sg ar pt := C.2.2.2.2.2.1
theorem tn_C.ld (C : tn_C n m ar sg pt hs h) {t : Nat} (ht : t < n) : h.2 11 t = nI (pu_hg hs t) := (C.2.2.2.2.2.2.2.1 t ht).1
theorem tn_C.rg (C : tn_C n m ar sg pt hs h) {t : Nat} (ht : t < n) : h.2 12 t = nI (pu_hr hs t) := (C.2.2.2.2.2.2.2.1 t ht).2.1
theorem tn_C.sp (C : tn_C n m ar sg pt hs h) {t : Nat} (ht : t < n) : h.2 13 t = tn_o (pu_hs sg hs t) := (C.2.2.2.2.2.2.2.1 t ht).2.2
theorem tn_C.sn (C : tn_C n m ar sg pt hs h) {t : Nat} (ht : t < n) : h.2 9 t = tn_o (sg t) := (C.2.2.2.2.1 t ht).1
theorem tn_C.sm (C : tn_C n m ar sg pt hs h) {t s : Nat} (ht : t < n) (e : sg t = some s) : s < m := (C.2.2.2.2.1 t ht).2.1 s e
theorem tn_C.pa (C : tn_C n m ar sg pt hs h) {t k : Nat} (ht : t < n) (hk : k < pu_np sg ar t) : h.2 10 (t * 3 + k) = nI (pt t k) := (C.2.2.2.2.1 t ht).2.2 k hk
theorem tn_C.ay (C : tn_C n m ar sg pt hs h) {s : Nat} (e : s < m) : h.2 8 s = nI (ar s) := (C.2.2.2.1 s e).1
theorem tn_C.a3 (C : tn_C n m ar sg pt hs h) {s : Nat} (e : s < m) : ar s ≤ 3 := (C.2.2.2.1 s e).2
theorem tn_C.m4 (C : tn_C n m ar sg pt hs h) : m ≤ 40 := C.1.2
theorem tn_C.g (C : tn_C n m ar sg pt hs h) {t : Nat} (ht : t < n) : pu_hg hs t < n := C.V.part.lt ht
theorem tn_C.p3 (C : tn_C n m ar sg pt hs h) {t : Nat} (ht : t < n) : pu_np sg ar t ≤ 3 := by
  unfold pu_np
  cases e : sg t with
  | none => exact Nat.zero_le _
  | some s => exact C.a3 (C.sm ht e)
theorem tn_C.sx (C : tn_C n m ar sg pt hs h) {t x : Nat} (ht : t < n) (e : pu_hs sg hs t = some x) : x < n := pu_shape_lt C.V ht e
theorem tn_C.son (C : tn_C n m ar sg pt hs h) {t : Nat} (ht : t < n) : tn_o (sg t) = -1 ↔ sg t = none := tn_o_none fun k e => by
  have := C.sm ht e
  have := C.m4
  omega
theorem tn_C.spn (C : tn_C n m ar sg pt hs h) {t : Nat} (ht : t < n) : tn_o (pu_hs sg hs t) = -1 ↔ pu_hs sg hs t = none := tn_o_none fun k e => by
  have := C.sx ht e
  have := C.le
  omega
theorem tn_C.pl (C : tn_C n m ar sg pt hs h) {t k : Nat} (ht : t < n) (hk : k < pu_np sg ar t) : pt t k < n := Nat.lt_trans (C.T t ht k hk) ht
end CC
theorem cl_ {t : Nat} (h : t < 401) : (nI t).toNatClampNeg = t := nI_clamp (by omega)
theorem vi_ {t N : Nat} (h : t < N) (hN : N ≤ 8000) : vp_in (nI t) N := vp_in_nI h (by omega)
/-- the degree of a group: parts of its shape -/
def tn_dg (ar : Nat → Nat) (sg : Nat → Option Nat) (hs : List (Nat × Nat)) (t : Nat) : Nat := match pu_hs sg hs (pu_hg hs t) with
  | none => 0
  | some x => pu_np sg ar x
section RD
variable {n m : Nat} {ar : Nat → Nat} {sg : Nat → Option Nat} {pt : Nat → Nat → Nat} {hs : List (Nat × Nat)} {h : am_S} {Q : am_Q}
/-- Groups.leaderOf -/
theorem sp_10 (C : tn_C n m ar sg pt hs h) {t : Nat} (ht : t < n) (hQ : Q h (.inl (some (.int (nI (pu_hg hs t)))))) : am_AW tn_G tn_X (10, 0, 0, [some (.ref 2), some (.int (nI t))], [], h) Q := by
  have hn := C.le
  refine am_AW.run 5 ?_
  simp only [am_Zs, am_zn_1, am_g3, am_a3, am_kz_l, am_kz_r, am_mem, Bool.false_eq_true, am_Rs, am_R0, am_g2, am_al, am_kk_l, am_kk_r, am_step, am_op, am_one, am_two, am_br, am_inv, am_pp, am_ct, am_in, am_no, am_rc, am_s1, am_cut, am_s2, List.getElem?_cons_zero, List.getElem?_cons_succ, List.set_cons_zero, List.set_cons_succ, Value.category, List.cons_append, List.nil_append, am_f0, am_f1, am_f2, am_f3, am_cm1, am_c0, am_c1, am_c2, am_c3, am_c20, am_c40, am_c400, am_c401, am_c1600, true_and, and_true, true_implies, if_true, if_false, Nat.reduceAdd, Nat.reduceSub, Nat.reduceLT, Nat.reduceLeDiff, Nat.reduceEqDiff, reduceIte, Nat.le_refl, or_false, false_and, false_implies, or_true, true_or, implies_true, pk_us, pk_un, am_vs, am_vn, bx_uu, ne_eq, not_false_eq_true, not_true_eq_false, am_b0, am_b1, Nat.not_lt_zero, am_tl0, am_tl1, kr_10, kn_10, kl_10, kc_10_0, kc_10_1, kf_10_9, kc_10_4, kc_10_5, kc_10_6, tn_X0, tn_X1, tn_X2, tn_X3, tn_X4, tn_X5, tn_X6, tn_X7, tn_X8, tn_X9, tn_X10, tn_X11, tn_X12, tn_X13, tn_X14, tn_X15, tn_X16, tn_X17, tn_X18, tn_X19, tn_X20, tn_X21, tn_X22]
  rw [cl_ (by omega), C.ld ht]
  exact ⟨vi_ (by omega) (by omega), hQ⟩
/-- Groups.shapeOf -/
theorem sp_9 (C : tn_C n m ar sg pt hs h) {t : Nat} (ht : t < n) (hQ : Q h (.inl (some (.int (tn_o (pu_hs sg hs (pu_hg hs t))))))) : am_AW tn_G tn_X (9, 0, 0, [some (.ref 2), some (.int (nI t))], [], h) Q := by
  have hn := C.le
  have hg := C.g ht
  refine am_AW.run 8 ?_
  simp only [am_Zs, am_zn_1, am_g3, am_a3, am_kz_l, am_kz_r, am_mem, Bool.false_eq_true, am_Rs, am_R0, am_g2, am_al, am_kk_l, am_kk_r, am_step, am_op, am_one, am_two, am_br, am_inv, am_pp, am_ct, am_in, am_no, am_rc, am_s1, am_cut, am_s2, List.getElem?_cons_zero, List.getElem?_cons_succ, List.set_cons_zero, List.set_cons_succ, Value.category, List.cons_append, List.nil_append, am_f0, am_f1, am_f2, am_f3, am_cm1, am_c0, am_c1, am_c2, am_c3, am_c20, am_c40, am_c400, am_c401, am_c1600, true_and, and_true, true_implies, if_true, if_false, Nat.reduceAdd, Nat.reduceSub, Nat.reduceLT, Nat.reduceLeDiff, Nat.reduceEqDiff, reduceIte, Nat.le_refl, or_false, false_and, false_implies, or_true, true_or, implies_true, pk_us, pk_un, am_vs, am_vn, bx_uu, ne_eq, not_false_eq_true, not_true_eq_false, am_b0, am_b1, Nat.not_lt_zero, am_tl0, am_tl1, kr_9, kn_9, kl_9, kc_9_0, kc_9_1, kf_9_18, kc_9_4, kc_9_5, kf_9_9, kc_9_8, kc_9_9, kc_9_10, kc_9_11, tn_X0, tn_X1, tn_X2, tn_X3, tn_X4, tn_X5, tn_X6, tn_X7, tn_X8, tn_X9, tn_X10, tn_X11, tn_X12, tn_X13, tn_X14, tn_X15, tn_X16, tn_X17, tn_X18, tn_X19, tn_X20, tn_X21, tn_X22]
  rw [cl_ (by omega), C.ld ht, cl_ (by omega), C.sp hg]
  exact ⟨vi_ (by omega) (by omega), vi_ (by omega) (by omega), hQ⟩
/-- Groups.isKnown -/
theorem sp_15 (C : tn_C n m ar sg pt hs h) {t : Nat} (ht : t < n) (h0 : pu_hs sg hs (pu_hg hs t) = none → Q h (.inl (some (.int (nI 0))))) (h1 : ∀ x, pu_hs sg hs (pu_hg hs t) = some x → Q h (.inl (some (.int (nI 1))))) : am_AW tn_G tn_X (15, 0, 0, [some (.ref 2), some (.int (nI t))], [], h) Q := by
  have hg := C.g ht
  refine am_AW.run 9 ?_
  simp only [am_Zs, am_zn_1, am_g3, am_a3, am_kz_l, am_kz_r, am_mem, Bool.false_eq_true, am_Rs, am_R0, am_g2, am_al, am_kk_l, am_kk_r, am_step, am_op, am_one, am_two, am_br, am_inv, am_pp, am_ct, am_in, am_no, am_rc, am_s1, am_cut, am_s2, List.getElem?_cons_zero, List.getElem?_cons_succ, List.set_cons_zero, List.set_cons_succ, Value.category, List.cons_append, List.nil_append, am_f0, am_f1, am_f2, am_f3, am_cm1, am_c0, am_c1, am_c2, am_c3, am_c20, am_c40, am_c400, am_c401, am_c1600, true_and, and_true, true_implies, if_true, if_false, Nat.reduceAdd, Nat.reduceSub, Nat.reduceLT, Nat.reduceLeDiff, Nat.reduceEqDiff, reduceIte, Nat.le_refl, or_false, false_and, false_implies, or_true, true_or, implies_true, pk_us, pk_un, am_vs, am_vn, bx_uu, ne_eq, not_false_eq_true, not_true_eq_false, am_b0, am_b1, Nat.not_lt_zero, am_tl0, am_tl1, kr_15, kn_15, kl_15, kc_15_0, kc_15_1, kc_15_2, kl_9, ko_9, kn_9, ka_15_37, kc_15_5, kc_15_6, kc_15_9, kc_15_10, kc_15_13, kc_15_14, tn_X0, tn_X1, tn_X2, tn_X3, tn_X4, tn_X5, tn_X6, tn_X7, tn_X8, tn_X9, tn_X10, tn_X11, tn_X12, tn_X13, tn_X14, tn_X15, tn_X16, tn_X17, tn_X18, tn_X19, tn_X20, tn_X21, tn_X22]
  refine sp_9 C ht ?_
  simp only [am_Zs, am_zn_1, am_g3, am_a3, am_kz_l, am_kz_r, am_mem, Bool.false_eq_true, am_Rs, am_R0, am_g2, am_al, am_kk_l, am_kk_r, am_step, am_op, am_one, am_two, am_br, am_inv, am_pp, am_ct, am_in, am_no, am_rc, am_s1, am_cut, am_s2, List.getElem?_cons_zero, List.getElem?_cons_succ, List.set_cons_zero, List.set_cons_succ, Value.category, List.cons_append, List.nil_append, am_f0, am_f1, am_f2, am_f3, am_cm1, am_c0, am_c1, am_c2, am_c3, am_c20, am_c40, am_c400, am_c401, am_c1600, true_and, and_true, true_implies, if_true, if_false, Nat.reduceAdd, Nat.reduceSub, Nat.reduceLT, Nat.reduceLeDiff, Nat.reduceEqDiff, reduceIte, Nat.le_refl, or_false, false_and, false_implies, or_true, true_or, implies_true, pk_us, pk_un, am_vs, am_vn, bx_uu, ne_eq, not_false_eq_true, not_true_eq_false, am_b0, am_b1, Nat.not_lt_zero, am_tl0, am_tl1, kr_15, kn_15, kl_15, kc_15_0, kc_15_1, kc_15_2, kl_9, ko_9, kn_9, ka_15_37, kc_15_5, kc_15_6, kc_15_9, kc_15_10, kc_15_13, kc_15_14, tn_X0, tn_X1, tn_X2, tn_X3, tn_X4, tn_X5, tn_X6, tn_X7, tn_X8, tn_X9, tn_X10, tn_X11, tn_X12, tn_X13, tn_X14, tn_X15, tn_X16, tn_X17, tn_X18, tn_X19, tn_X20, tn_X21, tn_X22]
  rw [C.spn hg]
  refine ⟨h0, fun hne => ?_⟩
  cases e : pu_hs sg hs (pu_hg hs t) with
  | none => exact absurd e hne
  | some x => exact h1 x e
/-- Told.partsOfTerm -/
theorem sp_21 (C : tn_C n m ar sg pt hs h) {t : Nat} (ht : t < n) (hQ : Q h (.inl (some (.int (nI (pu_np sg ar t)))))) : am_AW tn_G tn_X (21, 0, 0, [some (.ref 1), some (.int (nI t))], [], h) Q := by
  have hn := C.le
  refine am_AW.run 16 ?_
  simp only [am_Zs, am_zn_1, am_g3, am_a3, am_kz_l, am_kz_r, am_mem, Bool.false_eq_true, am_Rs, am_R0, am_g2, am_al, am_kk_l, am_kk_r, am_step, am_op, am_one, am_two, am_br, am_inv, am_pp, am_ct, am_in, am_no, am_rc, am_s1, am_cut, am_s2, List.getElem?_cons_zero, List.getElem?_cons_succ, List.set_cons_zero, List.set_cons_succ, Value.category, List.cons_append, List.nil_append, am_f0, am_f1, am_f2, am_f3, am_cm1, am_c0, am_c1, am_c2, am_c3, am_c20, am_c40, am_c400, am_c401, am_c1600, true_and, and_true, true_implies, if_true, if_false, Nat.reduceAdd, Nat.reduceSub, Nat.reduceLT, Nat.reduceLeDiff, Nat.reduceEqDiff, reduceIte, Nat.le_refl, or_false, false_and, false_implies, or_true, true_or, implies_true, pk_us, pk_un, am_vs, am_vn, bx_uu, ne_eq, not_false_eq_true, not_true_eq_false, am_b0, am_b1, Nat.not_lt_zero, am_tl0, am_tl1, kr_21, kn_21, kl_21, kc_21_0, kc_21_1, kf_21_15, kc_21_4, kc_21_5, kc_21_6, kc_21_7, kc_21_10, kc_21_11, kc_21_14, kc_21_15, kf_21_9, kc_21_18, kc_21_19, kc_21_22, kc_21_23, kc_21_24, kc_21_25, tn_X0, tn_X1, tn_X2, tn_X3, tn_X4, tn_X5, tn_X6, tn_X7, tn_X8, tn_X9, tn_X10, tn_X11, tn_X12, tn_X13, tn_X14, tn_X15, tn_X16, tn_X17, tn_X18, tn_X19, tn_X20, tn_X21, tn_X22]
  rw [cl_ (by omega), C.sn ht, C.son ht]
  refine ⟨vi_ (by omega) (by omega), fun hne => ?_, fun e => ?_⟩
  · cases e : sg t with
    | none => exact absurd e hne
    | some s =>
      have hs9 := C.sm ht e
      have hm := C.m4
      simp only [tn_o]
      rw [cl_ (by omega), C.ay hs9]
      refine ⟨vi_ (by omega) (by omega), vi_ (by omega) (by omega), ?_⟩
      simp only [pu_np, e] at hQ
      exact hQ
  · simp only [pu_np, e] at hQ
    exact hQ
/-- Told.partOfTerm -/
theorem sp_22 (C : tn_C n m ar sg pt hs h) {t k : Nat} (ht : t < n) (hk : k < pu_np sg ar t) (hQ : Q h (.inl (some (.int (nI (pt t k)))))) : am_AW tn_G tn_X (22, 0, 0, [some (.ref 1), some (.int (nI t)), some (.int (nI k))], [], h) Q := by
  have hn := C.le
  have h3 := C.p3 ht
  refine am_AW.run 9 ?_
  simp only [am_Zs, am_zn_1, am_g3, am_a3, am_kz_l, am_kz_r, am_mem, Bool.false_eq_true, am_Rs, am_R0, am_g2, am_al, am_kk_l, am_kk_r, am_step, am_op, am_one, am_two, am_br, am_inv, am_pp, am_ct, am_in, am_no, am_rc, am_s1, am_cut, am_s2, List.getElem?_cons_zero, List.getElem?_cons_succ, List.set_cons_zero, List.set_cons_succ, Value.category, List.cons_append, List.nil_append, am_f0, am_f1, am_f2, am_f3, am_cm1, am_c0, am_c1, am_c2, am_c3, am_c20, am_c40, am_c400, am_c401, am_c1600, true_and, and_true, true_implies, if_true, if_false, Nat.reduceAdd, Nat.reduceSub, Nat.reduceLT, Nat.reduceLeDiff, Nat.reduceEqDiff, reduceIte, Nat.le_refl, or_false, false_and, false_implies, or_true, true_or, implies_true, pk_us, pk_un, am_vs, am_vn, bx_uu, ne_eq, not_false_eq_true, not_true_eq_false, am_b0, am_b1, Nat.not_lt_zero, am_tl0, am_tl1, kr_22, kn_22, kl_22, kc_22_0, kc_22_1, kf_22_18, kc_22_4, kc_22_5, kc_22_6, kc_22_7, kc_22_8, kc_22_9, kc_22_10, tn_X0, tn_X1, tn_X2, tn_X3, tn_X4, tn_X5, tn_X6, tn_X7, tn_X8, tn_X9, tn_X10, tn_X11, tn_X12, tn_X13, tn_X14, tn_X15, tn_X16, tn_X17, tn_X18, tn_X19, tn_X20, tn_X21, tn_X22]
  rw [pk_mul, nI_add, nI_clamp (by omega), C.pa ht hk]
  exact ⟨vi_ (by omega) (by omega), hQ⟩
/-- Groups.partsOf -/
theorem sp_11 (C : tn_C n m ar sg pt hs h) {t : Nat} (ht : t < n) (hQ : Q h (.inl (some (.int (nI (tn_dg ar sg hs t)))))) : am_AW tn_G tn_X (11, 0, 0, [some (.ref 2), some (.int (nI t)), none], [], h) Q := by
  have hg := C.g ht
  refine am_AW.run 14 ?_
  simp only [am_Zs, am_zn_1, am_g3, am_a3, am_kz_l, am_kz_r, am_mem, Bool.false_eq_true, am_Rs, am_R0, am_g2, am_al, am_kk_l, am_kk_r, am_step, am_op, am_one, am_two, am_br, am_inv, am_pp, am_ct, am_in, am_no, am_rc, am_s1, am_cut, am_s2, List.getElem?_cons_zero, List.getElem?_cons_succ, List.set_cons_zero, List.set_cons_succ, Value.category, List.cons_append, List.nil_append, am_f0, am_f1, am_f2, am_f3, am_cm1, am_c0, am_c1, am_c2, am_c3, am_c20, am_c40, am_c400, am_c401, am_c1600, true_and, and_true, true_implies, if_true, if_false, Nat.reduceAdd, Nat.reduceSub, Nat.reduceLT, Nat.reduceLeDiff, Nat.reduceEqDiff, reduceIte, Nat.le_refl, or_false, false_and, false_implies, or_true, true_or, implies_true, pk_us, pk_un, am_vs, am_vn, bx_uu, ne_eq, not_false_eq_true, not_true_eq_false, am_b0, am_b1, Nat.not_lt_zero, am_tl0, am_tl1, kr_11, kn_11, kl_11, kc_11_0, kc_11_1, kc_11_2, kl_9, ko_9, kn_9, ka_11_37, kc_11_5, kc_11_6, kc_11_7, kc_11_8, kc_11_11, kc_11_12, kc_11_15, kc_11_16, kf_11_28, kc_11_19, kc_11_20, kl_21, ko_21, kn_21, ka_11_41, kc_11_23, tn_X0, tn_X1, tn_X2, tn_X3, tn_X4, tn_X5, tn_X6, tn_X7, tn_X8, tn_X9, tn_X10, tn_X11, tn_X12, tn_X13, tn_X14, tn_X15, tn_X16, tn_X17, tn_X18, tn_X19, tn_X20, tn_X21, tn_X22]
  refine sp_9 C ht ?_
  simp only [am_Zs, am_zn_1, am_g3, am_a3, am_kz_l, am_kz_r, am_mem, Bool.false_eq_true, am_Rs, am_R0, am_g2, am_al, am_kk_l, am_kk_r, am_step, am_op, am_one, am_two, am_br, am_inv, am_pp, am_ct, am_in, am_no, am_rc, am_s1, am_cut, am_s2, List.getElem?_cons_zero, List.getElem?_cons_succ, List.set_cons_zero, List.set_cons_succ, Value.category, List.cons_append, List.nil_append, am_f0, am_f1, am_f2, am_f3, am_cm1, am_c0, am_c1, am_c2, am_c3, am_c20, am_c40, am_c400, am_c401, am_c1600, true_and, and_true, true_implies, if_true, if_false, Nat.reduceAdd, Nat.reduceSub, Nat.reduceLT, Nat.reduceLeDiff, Nat.reduceEqDiff, reduceIte, Nat.le_refl, or_false, false_and, false_implies, or_true, true_or, implies_true, pk_us, pk_un, am_vs, am_vn, bx_uu, ne_eq, not_false_eq_true, not_true_eq_false, am_b0, am_b1, Nat.not_lt_zero, am_tl0, am_tl1, kr_11, kn_11, kl_11, kc_11_0, kc_11_1, kc_11_2, kl_9, ko_9, kn_9, ka_11_37, kc_11_5, kc_11_6, kc_11_7, kc_11_8, kc_11_11, kc_11_12, kc_11_15, kc_11_16, kf_11_28, kc_11_19, kc_11_20, kl_21, ko_21, kn_21, ka_11_41, kc_11_23, tn_X0, tn_X1, tn_X2, tn_X3, tn_X4, tn_X5, tn_X6, tn_X7, tn_X8, tn_X9, tn_X10, tn_X11, tn_X12, tn_X13, tn_X14, tn_X15, tn_X16, tn_X17, tn_X18, tn_X19, tn_X20, tn_X21, tn_X22]
  rw [C.spn hg]
  refine ⟨fun hne => ?_, fun e => ?_⟩
  · cases e : pu_hs sg hs (pu_hg hs t) with
    | none => exact absurd e hne
    | some x =>
      simp only [tn_o]
      refine sp_21 C (C.sx hg e) ?_
      simp only [am_Zs, am_zn_1, am_g3, am_a3, am_kz_l, am_kz_r, am_mem, Bool.false_eq_true, am_Rs, am_R0, am_g2, am_al, am_kk_l, am_kk_r, am_step, am_op, am_one, am_two, am_br, am_inv, am_pp, am_ct, am_in, am_no, am_rc, am_s1, am_cut, am_s2, List.getElem?_cons_zero, List.getElem?_cons_succ, List.set_cons_zero, List.set_cons_succ, Value.category, List.cons_append, List.nil_append, am_f0, am_f1, am_f2, am_f3, am_cm1, am_c0, am_c1, am_c2, am_c3, am_c20, am_c40, am_c400, am_c401, am_c1600, true_and, and_true, true_implies, if_true, if_false, Nat.reduceAdd, Nat.reduceSub, Nat.reduceLT, Nat.reduceLeDiff, Nat.reduceEqDiff, reduceIte, Nat.le_refl, or_false, false_and, false_implies, or_true, true_or, implies_true, pk_us, pk_un, am_vs, am_vn, bx_uu, ne_eq, not_false_eq_true, not_true_eq_false, am_b0, am_b1, Nat.not_lt_zero, am_tl0, am_tl1, kr_11, kn_11, kl_11, kc_11_0, kc_11_1, kc_11_2, kl_9, ko_9, kn_9, ka_11_37, kc_11_5, kc_11_6, kc_11_7, kc_11_8, kc_11_11, kc_11_12, kc_11_15, kc_11_16, kf_11_28, kc_11_19, kc_11_20, kl_21, ko_21, kn_21, ka_11_41, kc_11_23, tn_X0, tn_X1, tn_X2, tn_X3, tn_X4, tn_X5, tn_X6, tn_X7, tn_X8, tn_X9, tn_X10, tn_X11, tn_X12, tn_X13, tn_X14, tn_X15, tn_X16, tn_X17, tn_X18, tn_X19, tn_X20, tn_X21, tn_X22]
      simp only [tn_dg, e] at hQ
      exact hQ
  · simp only [tn_dg, e] at hQ
    exact hQ
/-- Groups.partLeader -/
theorem sp_12 (C : tn_C n m ar sg pt hs h) {t k x : Nat} (ht : t < n) (hx : pu_hs sg hs (pu_hg hs t) = some x) (hk : k < pu_np sg ar x) (hQ : Q h (.inl (some (.int (nI (pu_hg hs (pt x k))))))) : am_AW tn_G tn_X (12, 0, 0, [some (.ref 2), some (.int (nI t)), some (.int (nI k))], [], h) Q := by
  have hg := C.g ht
  have hn := C.le
  have hxn := C.sx hg hx
  have hp := C.pl hxn hk
  refine am_AW.run 11 ?_
  simp only [am_Zs, am_zn_1, am_g3, am_a3, am_kz_l, am_kz_r, am_mem, Bool.false_eq_true, am_Rs, am_R0, am_g2, am_al, am_kk_l, am_kk_r, am_step, am_op, am_one, am_two, am_br, am_inv, am_pp, am_ct, am_in, am_no, am_rc, am_s1, am_cut, am_s2, List.getElem?_cons_zero, List.getElem?_cons_succ, List.set_cons_zero, List.set_cons_succ, Value.category, List.cons_append, List.nil_append, am_f0, am_f1, am_f2, am_f3, am_cm1, am_c0, am_c1, am_c2, am_c3, am_c20, am_c40, am_c400, am_c401, am_c1600, true_and, and_true, true_implies, if_true, if_false, Nat.reduceAdd, Nat.reduceSub, Nat.reduceLT, Nat.reduceLeDiff, Nat.reduceEqDiff, reduceIte, Nat.le_refl, or_false, false_and, false_implies, or_true, true_or, implies_true, pk_us, pk_un, am_vs, am_vn, bx_uu, ne_eq, not_false_eq_true, not_true_eq_false, am_b0, am_b1, Nat.not_lt_zero, am_tl0, am_tl1, kr_12, kn_12, kl_12, kc_12_0, kc_12_1, kf_12_9, kc_12_4, kc_12_5, kf_12_28, kc_12_8, kc_12_9, kc_12_10, kl_9, ko_9, kn_9, ka_12_37, kc_12_13, kc_12_14, kl_22, ko_22, kn_22, ka_12_44, kc_12_17, kc_12_18, tn_X0, tn_X1, tn_X2, tn_X3, tn_X4, tn_X5, tn_X6, tn_X7, tn_X8, tn_X9, tn_X10, tn_X11, tn_X12, tn_X13, tn_X14, tn_X15, tn_X16, tn_X17, tn_X18, tn_X19, tn_X20, tn_X21, tn_X22]
  refine sp_9 C ht ?_
  rw [hx]
  simp only [am_Zs, am_zn_1, am_g3, am_a3, am_kz_l, am_kz_r, am_mem, Bool.false_eq_true, am_Rs, am_R0, am_g2, am_al, am_kk_l, am_kk_r, am_step, am_op, am_one, am_two, am_br, am_inv, am_pp, am_ct, am_in, am_no, am_rc, am_s1, am_cut, am_s2, List.getElem?_cons_zero, List.getElem?_cons_succ, List.set_cons_zero, List.set_cons_succ, Value.category, List.cons_append, List.nil_append, am_f0, am_f1, am_f2, am_f3, am_cm1, am_c0, am_c1, am_c2, am_c3, am_c20, am_c40, am_c400, am_c401, am_c1600, true_and, and_true, true_implies, if_true, if_false, Nat.reduceAdd, Nat.reduceSub, Nat.reduceLT, Nat.reduceLeDiff, Nat.reduceEqDiff, reduceIte, Nat.le_refl, or_false, false_and, false_implies, or_true, true_or, implies_true, pk_us, pk_un, am_vs, am_vn, bx_uu, ne_eq, not_false_eq_true, not_true_eq_false, am_b0, am_b1, Nat.not_lt_zero, am_tl0, am_tl1, kr_12, kn_12, kl_12, kc_12_0, kc_12_1, kf_12_9, kc_12_4, kc_12_5, kf_12_28, kc_12_8, kc_12_9, kc_12_10, kl_9, ko_9, kn_9, ka_12_37, kc_12_13, kc_12_14, kl_22, ko_22, kn_22, ka_12_44, kc_12_17, kc_12_18, tn_X0, tn_X1, tn_X2, tn_X3, tn_X4, tn_X5, tn_X6, tn_X7, tn_X8, tn_X9, tn_X10, tn_X11, tn_X12, tn_X13, tn_X14, tn_X15, tn_X16, tn_X17, tn_X18, tn_X19, tn_X20, tn_X21, tn_X22, tn_o]
  refine sp_22 C hxn hk ?_
  simp only [am_Zs, am_zn_1, am_g3, am_a3, am_kz_l, am_kz_r, am_mem, Bool.false_eq_true, am_Rs, am_R0, am_g2, am_al, am_kk_l, am_kk_r, am_step, am_op, am_one, am_two, am_br, am_inv, am_pp, am_ct, am_in, am_no, am_rc, am_s1, am_cut, am_s2, List.getElem?_cons_zero, List.getElem?_cons_succ, List.set_cons_zero, List.set_cons_succ, Value.category, List.cons_append, List.nil_append, am_f0, am_f1, am_f2, am_f3, am_cm1, am_c0, am_c1, am_c2, am_c3, am_c20, am_c40, am_c400, am_c401, am_c1600, true_and, and_true, true_implies, if_true, if_false, Nat.reduceAdd, Nat.reduceSub, Nat.reduceLT, Nat.reduceLeDiff, Nat.reduceEqDiff, reduceIte, Nat.le_refl, or_false, false_and, false_implies, or_true, true_or, implies_true, pk_us, pk_un, am_vs, am_vn, bx_uu, ne_eq, not_false_eq_true, not_true_eq_false, am_b0, am_b1, Nat.not_lt_zero, am_tl0, am_tl1, kr_12, kn_12, kl_12, kc_12_0, kc_12_1, kf_12_9, kc_12_4, kc_12_5, kf_12_28, kc_12_8, kc_12_9, kc_12_10, kl_9, ko_9, kn_9, ka_12_37, kc_12_13, kc_12_14, kl_22, ko_22, kn_22, ka_12_44, kc_12_17, kc_12_18, tn_X0, tn_X1, tn_X2, tn_X3, tn_X4, tn_X5, tn_X6, tn_X7, tn_X8, tn_X9, tn_X10, tn_X11, tn_X12, tn_X13, tn_X14, tn_X15, tn_X16, tn_X17, tn_X18, tn_X19, tn_X20, tn_X21, tn_X22]
  rw [cl_ (by omega), C.ld hp]
  exact ⟨vi_ (by omega) (by omega), hQ⟩
/-- Told.isTerm -/
theorem sp_19 (hn : h.1 3 = nI n) (hN : n ≤ 400) {a : Int32} (h1 : ∀ t, t < n → a = nI t → Q h (.inl (some (.int (nI 1))))) (h0 : (∀ t, t < n → a ≠ nI t) → Q h (.inl (some (.int (nI 0))))) : am_AW tn_G tn_X (19, 0, 0, [some (.ref 1), some (.int a)], [], h) Q := by
  refine am_AW.run 10 ?_
  simp only [am_Zs, am_zn_1, am_g3, am_a3, am_kz_l, am_kz_r, am_mem, Bool.false_eq_true, am_Rs, am_R0, am_g2, am_al, am_kk_l, am_kk_r, am_step, am_op, am_one, am_two, am_br, am_inv, am_pp, am_ct, am_in, am_no, am_rc, am_s1, am_cut, am_s2, List.getElem?_cons_zero, List.getElem?_cons_succ, List.set_cons_zero, List.set_cons_succ, Value.category, List.cons_append, List.nil_append, am_f0, am_f1, am_f2, am_f3, am_cm1, am_c0, am_c1, am_c2, am_c3, am_c20, am_c40, am_c400, am_c401, am_c1600, true_and, and_true, true_implies, if_true, if_false, Nat.reduceAdd, Nat.reduceSub, Nat.reduceLT, Nat.reduceLeDiff, Nat.reduceEqDiff, reduceIte, Nat.le_refl, or_false, false_and, false_implies, or_true, true_or, implies_true, pk_us, pk_un, am_vs, am_vn, bx_uu, ne_eq, not_false_eq_true, not_true_eq_false, am_b0, am_b1, Nat.not_lt_zero, am_tl0, am_tl1, kr_19, kn_19, kl_19, kc_19_0, kc_19_1, kc_19_4, kc_19_5, kc_19_6, kf_19_25, kc_19_9, kc_19_12, kc_19_13, kc_19_16, kc_19_17, tn_X0, tn_X1, tn_X2, tn_X3, tn_X4, tn_X5, tn_X6, tn_X7, tn_X8, tn_X9, tn_X10, tn_X11, tn_X12, tn_X13, tn_X14, tn_X15, tn_X16, tn_X17, tn_X18, tn_X19, tn_X20, tn_X21, tn_X22]
  rw [hn]
  refine ⟨fun hlt => h0 fun t ht e => ?_, fun hge => ⟨fun hle => h0 fun t ht e => ?_, fun hlt => ?_⟩⟩
  · subst e; exact nI_pos (by omega) hlt
  · subst e; exact nI_ge ht (by omega) hle
  · rcases pk_ix a (n := n) (by omega) with q | q | ⟨j, hj, q⟩
    · exact absurd q hge
    · exact absurd q hlt
    · exact h1 j hj q
end RD
