/-! Walk: sizes and depths. -/
def pu_mx (f : Nat → Nat) : Nat → Nat
  | 0 => 0
  | d + 1 => if pu_mx f d < f d then f d else pu_mx f d
theorem pu_mx_congr {f g : Nat → Nat} : ∀ {d : Nat}, (∀ k, k < d → f k = g k) → pu_mx f d = pu_mx g d
  | 0, _ => rfl
  | d + 1, h => by
    simp only [pu_mx]
    rw [pu_mx_congr (fun k hk => h k (by omega)), h d (by omega)]
theorem pu_mx_le {f : Nat → Nat} {b : Nat} : ∀ {d : Nat}, (∀ k, k < d → f k ≤ b) → pu_mx f d ≤ b
  | 0, _ => Nat.zero_le _
  | d + 1, h => by
    have h1 := pu_mx_le (b := b) (d := d) (fun k hk => h k (by omega))
    have h2 := h d (by omega)
    simp only [pu_mx]
    split <;> omega
theorem pu_top_suf {deg : Nat → Nat} {ch : Nat → Nat → Nat} : ∀ {A B : List Nat}, pu_top deg ch (A ++ B) → pu_top deg ch B
  | [], _, h => h
  | _ :: A, _, h => pu_top_suf (A := A) h.2
theorem pu_top_in {deg : Nat → Nat} {ch : Nat → Nat → Nat} {y k : Nat} (hk : k < deg y) : ∀ {O : List Nat}, pu_top deg ch O → y ∈ O → ch y k ∈ O
  | [], _, q => by cases q
  | z :: O, ht, q => by
    rcases List.mem_cons.mp q with e | q
    · subst e; exact List.mem_cons_of_mem _ (ht.1 k hk)
    · exact List.mem_cons_of_mem _ (pu_top_in hk ht.2 q)
/-- what walks with values leave alone -/
def tn_fV (h h' : am_S) : Prop := (∀ i, i ≠ 5 → i ≠ 6 → h'.1 i = h.1 i) ∧ ∀ k, (k < 15 ∨ 19 < k) → h'.2 k = h.2 k
theorem tn_fK.V {h h' : am_S} (f : tn_fK h h') : tn_fV h h' := ⟨f.1, fun k hk => f.2 k (by omega)⟩
theorem tn_fV.tr {h h1 h2 : am_S} (a : tn_fV h h1) (b : tn_fV h1 h2) : tn_fV h h2 := ⟨fun i hi hj => (b.1 i hi hj).trans (a.1 i hi hj), fun k hk => (b.2 k hk).trans (a.2 k hk)⟩
theorem tn_C.Vv {n m : Nat} {ar : Nat → Nat} {sg : Nat → Option Nat} {pt : Nat → Nat → Nat} {hs : List (Nat × Nat)} {h h' : am_S} (C : tn_C n m ar sg pt hs h) (f : tn_fV h h') : tn_C n m ar sg pt hs h' :=
  C.fr (fun i _ _ => f.1 i (by omega) (by omega)) (fun k _ _ => f.2 k (by omega))
section VA
variable {n m : Nat} {ar : Nat → Nat} {sg : Nat → Option Nat} {pt : Nat → Nat → Nat} {hs : List (Nat × Nat)} {h : am_S} {Q : am_Q}
/-- sizeOver, its loop -/
theorem sp_33l (C : tn_C n m ar sg pt hs h) {y : Nat} (hy : y < n) {f : Nat → Nat} (hf : ∀ k, k < tn_dg ar sg hs y → h.2 19 (tn_ch sg pt hs y k) = nI (f (tn_ch sg pt hs y k)) ∧ f (tn_ch sg pt hs y k) ≤ 1000000000)
    (hQ : Q h (.inl (some (.int (nI (min 1000000000 (1 + pu_sm (fun k => f (tn_ch sg pt hs y k)) (tn_dg ar sg hs y)))))))) :
    ∀ (d k : Nat), tn_dg ar sg hs y - k = d → k ≤ tn_dg ar sg hs y → am_AW tn_G tn_X (33, 5, 0, [some (.ref 3), some (.int (nI y)), some (.long (lN (1 + pu_sm (fun k => f (tn_ch sg pt hs y k)) k))), none, some (.int (nI k))], [], h) Q := by
  have hn := C.le
  have h3 := C.d3 hy
  have bnd : ∀ k, k ≤ tn_dg ar sg hs y → pu_sm (fun k => f (tn_ch sg pt hs y k)) k ≤ 1000000000 * k := fun k hk => pu_sm_le (fun t ht => (hf t (by omega)).2)
  intro d
  induction d with
  | zero =>
    intro k hd hk
    have : k = tn_dg ar sg hs y := by omega
    subst this
    have b := bnd _ (Nat.le_refl _)
    refine am_AW.go [5] 60 ?_
    simp only [am_Zs, am_zn_1, am_g3, am_a3, am_kz_l, am_kz_r, am_mem, Bool.false_eq_true, am_Rs, am_R0, am_g2, am_al, am_kk_l, am_kk_r, am_step, am_op, am_one, am_two, am_br, am_inv, am_pp, am_ct, am_in, am_no, am_rc, am_s1, am_cut, am_s2, List.getElem?_cons_zero, List.getElem?_cons_succ, List.set_cons_zero, List.set_cons_succ, Value.category, List.cons_append, List.nil_append, am_f0, am_f1, am_f2, am_f3, am_cm1, am_c0, am_c1, am_c2, am_c3, am_c20, am_c40, am_c400, am_c401, am_c1600, true_and, and_true, true_implies, if_true, if_false, Nat.reduceAdd, Nat.reduceSub, Nat.reduceLT, Nat.reduceLeDiff, Nat.reduceEqDiff, reduceIte, Nat.le_refl, or_false, false_and, false_implies, or_true, true_or, implies_true, pk_us, pk_un, am_vs, am_vn, bx_uu, ne_eq, not_false_eq_true, not_true_eq_false, am_b0, am_b1, Nat.not_lt_zero, am_tl0, am_tl1, am_l1, kr_33, kn_33, kl_33, kc_33_0, kc_33_1, kc_33_2, kc_33_3, kc_33_5, kc_33_7, kc_33_8, kf_33_34, kc_33_11, kc_33_12, kl_11, ko_11, kn_11, ka_33_58, kc_33_15, kc_33_18, kc_33_19, kc_33_20, kf_33_24, kc_33_23, kc_33_24, kc_33_27, kc_33_28, kc_33_30, kl_12, ko_12, kn_12, ka_33_61, kc_33_33, kc_33_34, kc_33_35, kc_33_36, kc_33_37, kc_33_40, kc_33_43, kc_33_44, kL_33_65, kc_33_47, ka_33_67, kc_33_50, kc_33_51, tn_X0, tn_X1, tn_X2, tn_X3, tn_X4, tn_X5, tn_X6, tn_X7, tn_X8, tn_X9, tn_X10, tn_X11, tn_X12, tn_X13, tn_X14, tn_X15, tn_X16, tn_X17, tn_X18, tn_X19, tn_X20, tn_X21, tn_X22]
    refine sp_11 C hy ?_
    simp only [am_Zs, am_zn_1, am_g3, am_a3, am_kz_l, am_kz_r, am_mem, Bool.false_eq_true, am_Rs, am_R0, am_g2, am_al, am_kk_l, am_kk_r, am_step, am_op, am_one, am_two, am_br, am_inv, am_pp, am_ct, am_in, am_no, am_rc, am_s1, am_cut, am_s2, List.getElem?_cons_zero, List.getElem?_cons_succ, List.set_cons_zero, List.set_cons_succ, Value.category, List.cons_append, List.nil_append, am_f0, am_f1, am_f2, am_f3, am_cm1, am_c0, am_c1, am_c2, am_c3, am_c20, am_c40, am_c400, am_c401, am_c1600, true_and, and_true, true_implies, if_true, if_false, Nat.reduceAdd, Nat.reduceSub, Nat.reduceLT, Nat.reduceLeDiff, Nat.reduceEqDiff, reduceIte, Nat.le_refl, or_false, false_and, false_implies, or_true, true_or, implies_true, pk_us, pk_un, am_vs, am_vn, bx_uu, ne_eq, not_false_eq_true, not_true_eq_false, am_b0, am_b1, Nat.not_lt_zero, am_tl0, am_tl1, am_l1, kr_33, kn_33, kl_33, kc_33_0, kc_33_1, kc_33_2, kc_33_3, kc_33_5, kc_33_7, kc_33_8, kf_33_34, kc_33_11, kc_33_12, kl_11, ko_11, kn_11, ka_33_58, kc_33_15, kc_33_18, kc_33_19, kc_33_20, kf_33_24, kc_33_23, kc_33_24, kc_33_27, kc_33_28, kc_33_30, kl_12, ko_12, kn_12, ka_33_61, kc_33_33, kc_33_34, kc_33_35, kc_33_36, kc_33_37, kc_33_40, kc_33_43, kc_33_44, kL_33_65, kc_33_47, ka_33_67, kc_33_50, kc_33_51, tn_X0, tn_X1, tn_X2, tn_X3, tn_X4, tn_X5, tn_X6, tn_X7, tn_X8, tn_X9, tn_X10, tn_X11, tn_X12, tn_X13, tn_X14, tn_X15, tn_X16, tn_X17, tn_X18, tn_X19, tn_X20, tn_X21, tn_X22]
    rw [nI_leI (by omega) (by omega), show (1000000000 : Int64) = lN 1000000000 from by decide]
    refine ⟨fun _ => ?_, fun q => absurd (Nat.le_refl _) q⟩
    by_cases e : 1000000000 < 1 + pu_sm (fun k => f (tn_ch sg pt hs y k)) (tn_dg ar sg hs y)
    · rw [if_pos ((pk_lLT (by omega) (by omega)).mpr e), lN_i]
      rw [Nat.min_eq_left (by omega)] at hQ
      exact hQ
    · rw [if_neg (fun q => e ((pk_lLT (by omega) (by omega)).mp q)), lN_i]
      rw [Nat.min_eq_right (by omega)] at hQ
      exact hQ
  | succ d ih =>
    intro k hd hk
    have hk1 : k < tn_dg ar sg hs y := by omega
    obtain ⟨s, e1, e2, e3, e4, e5, e6⟩ := C.ch hy hk1
    obtain ⟨f1, f2⟩ := hf k hk1
    refine am_AW.go [5] 60 ?_
    simp only [am_Zs, am_zn_1, am_g3, am_a3, am_kz_l, am_kz_r, am_mem, Bool.false_eq_true, am_Rs, am_R0, am_g2, am_al, am_kk_l, am_kk_r, am_step, am_op, am_one, am_two, am_br, am_inv, am_pp, am_ct, am_in, am_no, am_rc, am_s1, am_cut, am_s2, List.getElem?_cons_zero, List.getElem?_cons_succ, List.set_cons_zero, List.set_cons_succ, Value.category, List.cons_append, List.nil_append, am_f0, am_f1, am_f2, am_f3, am_cm1, am_c0, am_c1, am_c2, am_c3, am_c20, am_c40, am_c400, am_c401, am_c1600, true_and, and_true, true_implies, if_true, if_false, Nat.reduceAdd, Nat.reduceSub, Nat.reduceLT, Nat.reduceLeDiff, Nat.reduceEqDiff, reduceIte, Nat.le_refl, or_false, false_and, false_implies, or_true, true_or, implies_true, pk_us, pk_un, am_vs, am_vn, bx_uu, ne_eq, not_false_eq_true, not_true_eq_false, am_b0, am_b1, Nat.not_lt_zero, am_tl0, am_tl1, am_l1, kr_33, kn_33, kl_33, kc_33_0, kc_33_1, kc_33_2, kc_33_3, kc_33_5, kc_33_7, kc_33_8, kf_33_34, kc_33_11, kc_33_12, kl_11, ko_11, kn_11, ka_33_58, kc_33_15, kc_33_18, kc_33_19, kc_33_20, kf_33_24, kc_33_23, kc_33_24, kc_33_27, kc_33_28, kc_33_30, kl_12, ko_12, kn_12, ka_33_61, kc_33_33, kc_33_34, kc_33_35, kc_33_36, kc_33_37, kc_33_40, kc_33_43, kc_33_44, kL_33_65, kc_33_47, ka_33_67, kc_33_50, kc_33_51, tn_X0, tn_X1, tn_X2, tn_X3, tn_X4, tn_X5, tn_X6, tn_X7, tn_X8, tn_X9, tn_X10, tn_X11, tn_X12, tn_X13, tn_X14, tn_X15, tn_X16, tn_X17, tn_X18, tn_X19, tn_X20, tn_X21, tn_X22]
    refine sp_11 C hy ?_
    simp only [am_Zs, am_zn_1, am_g3, am_a3, am_kz_l, am_kz_r, am_mem, Bool.false_eq_true, am_Rs, am_R0, am_g2, am_al, am_kk_l, am_kk_r, am_step, am_op, am_one, am_two, am_br, am_inv, am_pp, am_ct, am_in, am_no, am_rc, am_s1, am_cut, am_s2, List.getElem?_cons_zero, List.getElem?_cons_succ, List.set_cons_zero, List.set_cons_succ, Value.category, List.cons_append, List.nil_append, am_f0, am_f1, am_f2, am_f3, am_cm1, am_c0, am_c1, am_c2, am_c3, am_c20, am_c40, am_c400, am_c401, am_c1600, true_and, and_true, true_implies, if_true, if_false, Nat.reduceAdd, Nat.reduceSub, Nat.reduceLT, Nat.reduceLeDiff, Nat.reduceEqDiff, reduceIte, Nat.le_refl, or_false, false_and, false_implies, or_true, true_or, implies_true, pk_us, pk_un, am_vs, am_vn, bx_uu, ne_eq, not_false_eq_true, not_true_eq_false, am_b0, am_b1, Nat.not_lt_zero, am_tl0, am_tl1, am_l1, kr_33, kn_33, kl_33, kc_33_0, kc_33_1, kc_33_2, kc_33_3, kc_33_5, kc_33_7, kc_33_8, kf_33_34, kc_33_11, kc_33_12, kl_11, ko_11, kn_11, ka_33_58, kc_33_15, kc_33_18, kc_33_19, kc_33_20, kf_33_24, kc_33_23, kc_33_24, kc_33_27, kc_33_28, kc_33_30, kl_12, ko_12, kn_12, ka_33_61, kc_33_33, kc_33_34, kc_33_35, kc_33_36, kc_33_37, kc_33_40, kc_33_43, kc_33_44, kL_33_65, kc_33_47, ka_33_67, kc_33_50, kc_33_51, tn_X0, tn_X1, tn_X2, tn_X3, tn_X4, tn_X5, tn_X6, tn_X7, tn_X8, tn_X9, tn_X10, tn_X11, tn_X12, tn_X13, tn_X14, tn_X15, tn_X16, tn_X17, tn_X18, tn_X19, tn_X20, tn_X21, tn_X22]
    rw [nI_leI (by omega) (by omega)]
    refine ⟨fun q => by omega, fun _ => ?_⟩
    refine sp_12 C hy e1 e2 ?_
    rw [← e4]
    simp only [am_Zs, am_zn_1, am_g3, am_a3, am_kz_l, am_kz_r, am_mem, Bool.false_eq_true, am_Rs, am_R0, am_g2, am_al, am_kk_l, am_kk_r, am_step, am_op, am_one, am_two, am_br, am_inv, am_pp, am_ct, am_in, am_no, am_rc, am_s1, am_cut, am_s2, List.getElem?_cons_zero, List.getElem?_cons_succ, List.set_cons_zero, List.set_cons_succ, Value.category, List.cons_append, List.nil_append, am_f0, am_f1, am_f2, am_f3, am_cm1, am_c0, am_c1, am_c2, am_c3, am_c20, am_c40, am_c400, am_c401, am_c1600, true_and, and_true, true_implies, if_true, if_false, Nat.reduceAdd, Nat.reduceSub, Nat.reduceLT, Nat.reduceLeDiff, Nat.reduceEqDiff, reduceIte, Nat.le_refl, or_false, false_and, false_implies, or_true, true_or, implies_true, pk_us, pk_un, am_vs, am_vn, bx_uu, ne_eq, not_false_eq_true, not_true_eq_false, am_b0, am_b1, Nat.not_lt_zero, am_tl0, am_tl1, am_l1, kr_33, kn_33, kl_33, kc_33_0, kc_33_1, kc_33_2, kc_33_3, kc_33_5, kc_33_7, kc_33_8, kf_33_34, kc_33_11, kc_33_12, kl_11, ko_11, kn_11, ka_33_58, kc_33_15, kc_33_18, kc_33_19, kc_33_20, kf_33_24, kc_33_23, kc_33_24, kc_33_27, kc_33_28, kc_33_30, kl_12, ko_12, kn_12, ka_33_61, kc_33_33, kc_33_34, kc_33_35, kc_33_36, kc_33_37, kc_33_40, kc_33_43, kc_33_44, kL_33_65, kc_33_47, ka_33_67, kc_33_50, kc_33_51, tn_X0, tn_X1, tn_X2, tn_X3, tn_X4, tn_X5, tn_X6, tn_X7, tn_X8, tn_X9, tn_X10, tn_X11, tn_X12, tn_X13, tn_X14, tn_X15, tn_X16, tn_X17, tn_X18, tn_X19, tn_X20, tn_X21, tn_X22]
    rw [cl_ (by omega), f1, nI_l (by omega), lN_add, nI_add]
    refine ⟨vi_ (by omega) (by omega), ?_⟩
    have i1 := ih (k + 1) (by omega) (by omega)
    simp only [pu_sm] at i1
    rw [← Nat.add_assoc] at i1
    exact i1
/-- Walk.sizeOver -/
theorem sp_33 (C : tn_C n m ar sg pt hs h) {y : Nat} (hy : y < n) {f : Nat → Nat} (hf : ∀ k, k < tn_dg ar sg hs y → h.2 19 (tn_ch sg pt hs y k) = nI (f (tn_ch sg pt hs y k)) ∧ f (tn_ch sg pt hs y k) ≤ 1000000000)
    (hQ : Q h (.inl (some (.int (nI (min 1000000000 (1 + pu_sm (fun k => f (tn_ch sg pt hs y k)) (tn_dg ar sg hs y)))))))) : am_AW tn_G tn_X (33, 0, 0, [some (.ref 3), some (.int (nI y)), none, none, none], [], h) Q := by
  refine am_AW.go [5] 60 ?_
  simp only [am_Zs, am_zn_1, am_g3, am_a3, am_kz_l, am_kz_r, am_mem, Bool.false_eq_true, am_Rs, am_R0, am_g2, am_al, am_kk_l, am_kk_r, am_step, am_op, am_one, am_two, am_br, am_inv, am_pp, am_ct, am_in, am_no, am_rc, am_s1, am_cut, am_s2, List.getElem?_cons_zero, List.getElem?_cons_succ, List.set_cons_zero, List.set_cons_succ, Value.category, List.cons_append, List.nil_append, am_f0, am_f1, am_f2, am_f3, am_cm1, am_c0, am_c1, am_c2, am_c3, am_c20, am_c40, am_c400, am_c401, am_c1600, true_and, and_true, true_implies, if_true, if_false, Nat.reduceAdd, Nat.reduceSub, Nat.reduceLT, Nat.reduceLeDiff, Nat.reduceEqDiff, reduceIte, Nat.le_refl, or_false, false_and, false_implies, or_true, true_or, implies_true, pk_us, pk_un, am_vs, am_vn, bx_uu, ne_eq, not_false_eq_true, not_true_eq_false, am_b0, am_b1, Nat.not_lt_zero, am_tl0, am_tl1, am_l1, kr_33, kn_33, kl_33, kc_33_0, kc_33_1, kc_33_2, kc_33_3, kc_33_5, kc_33_7, kc_33_8, kf_33_34, kc_33_11, kc_33_12, kl_11, ko_11, kn_11, ka_33_58, kc_33_15, kc_33_18, kc_33_19, kc_33_20, kf_33_24, kc_33_23, kc_33_24, kc_33_27, kc_33_28, kc_33_30, kl_12, ko_12, kn_12, ka_33_61, kc_33_33, kc_33_34, kc_33_35, kc_33_36, kc_33_37, kc_33_40, kc_33_43, kc_33_44, kL_33_65, kc_33_47, ka_33_67, kc_33_50, kc_33_51, tn_X0, tn_X1, tn_X2, tn_X3, tn_X4, tn_X5, tn_X6, tn_X7, tn_X8, tn_X9, tn_X10, tn_X11, tn_X12, tn_X13, tn_X14, tn_X15, tn_X16, tn_X17, tn_X18, tn_X19, tn_X20, tn_X21, tn_X22]
  exact sp_33l C hy hf hQ _ 0 rfl (Nat.zero_le _)
/-- depthOver, its loop -/
theorem sp_35l (C : tn_C n m ar sg pt hs h) {y b : Nat} (hy : y < n) (hb : b ≤ 400) {f : Nat → Nat} (hf : ∀ k, k < tn_dg ar sg hs y → h.2 19 (tn_ch sg pt hs y k) = nI (f (tn_ch sg pt hs y k)) ∧ f (tn_ch sg pt hs y k) ≤ b)
    (hQ : Q h (.inl (some (.int (nI (pu_mx (fun k => f (tn_ch sg pt hs y k)) (tn_dg ar sg hs y) + 1)))))) :
    ∀ (d k : Nat), tn_dg ar sg hs y - k = d → k ≤ tn_dg ar sg hs y → am_AW tn_G tn_X (35, 4, 0, [some (.ref 3), some (.int (nI y)), some (.int (nI (pu_mx (fun k => f (tn_ch sg pt hs y k)) k))), some (.int (nI k))], [], h) Q := by
  have hn := C.le
  have h3 := C.d3 hy
  have bnd : ∀ k, k ≤ tn_dg ar sg hs y → pu_mx (fun k => f (tn_ch sg pt hs y k)) k ≤ b := fun k hk => pu_mx_le (fun t ht => (hf t (by omega)).2)
  intro d
  induction d with
  | zero =>
    intro k hd hk
    have : k = tn_dg ar sg hs y := by omega
    subst this
    refine am_AW.go [4] 60 ?_
    simp only [am_Zs, am_zn_1, am_g3, am_a3, am_kz_l, am_kz_r, am_mem, Bool.false_eq_true, am_Rs, am_R0, am_g2, am_al, am_kk_l, am_kk_r, am_step, am_op, am_one, am_two, am_br, am_inv, am_pp, am_ct, am_in, am_no, am_rc, am_s1, am_cut, am_s2, List.getElem?_cons_zero, List.getElem?_cons_succ, List.set_cons_zero, List.set_cons_succ, Value.category, List.cons_append, List.nil_append, am_f0, am_f1, am_f2, am_f3, am_cm1, am_c0, am_c1, am_c2, am_c3, am_c20, am_c40, am_c400, am_c401, am_c1600, true_and, and_true, true_implies, if_true, if_false, Nat.reduceAdd, Nat.reduceSub, Nat.reduceLT, Nat.reduceLeDiff, Nat.reduceEqDiff, reduceIte, Nat.le_refl, or_false, false_and, false_implies, or_true, true_or, implies_true, pk_us, pk_un, am_vs, am_vn, bx_uu, ne_eq, not_false_eq_true, not_true_eq_false, am_b0, am_b1, Nat.not_lt_zero, am_tl0, am_tl1, am_l1, kr_35, kn_35, kl_35, kc_35_0, kc_35_1, kc_35_2, kc_35_3, kc_35_4, kc_35_5, kc_35_6, kf_35_34, kc_35_9, kc_35_10, kl_11, ko_11, kn_11, ka_35_58, kc_35_13, kc_35_16, kc_35_17, kc_35_18, kf_35_24, kc_35_21, kc_35_22, kc_35_25, kc_35_26, kc_35_27, kl_12, ko_12, kn_12, ka_35_61, kc_35_30, kc_35_31, ka_35_76, kc_35_34, kc_35_35, kc_35_38, kc_35_41, kc_35_42, kc_35_43, kc_35_44, tn_X0, tn_X1, tn_X2, tn_X3, tn_X4, tn_X5, tn_X6, tn_X7, tn_X8, tn_X9, tn_X10, tn_X11, tn_X12, tn_X13, tn_X14, tn_X15, tn_X16, tn_X17, tn_X18, tn_X19, tn_X20, tn_X21, tn_X22]
    refine sp_11 C hy ?_
    simp only [am_Zs, am_zn_1, am_g3, am_a3, am_kz_l, am_kz_r, am_mem, Bool.false_eq_true, am_Rs, am_R0, am_g2, am_al, am_kk_l, am_kk_r, am_step, am_op, am_one, am_two, am_br, am_inv, am_pp, am_ct, am_in, am_no, am_rc, am_s1, am_cut, am_s2, List.getElem?_cons_zero, List.getElem?_cons_succ, List.set_cons_zero, List.set_cons_succ, Value.category, List.cons_append, List.nil_append, am_f0, am_f1, am_f2, am_f3, am_cm1, am_c0, am_c1, am_c2, am_c3, am_c20, am_c40, am_c400, am_c401, am_c1600, true_and, and_true, true_implies, if_true, if_false, Nat.reduceAdd, Nat.reduceSub, Nat.reduceLT, Nat.reduceLeDiff, Nat.reduceEqDiff, reduceIte, Nat.le_refl, or_false, false_and, false_implies, or_true, true_or, implies_true, pk_us, pk_un, am_vs, am_vn, bx_uu, ne_eq, not_false_eq_true, not_true_eq_false, am_b0, am_b1, Nat.not_lt_zero, am_tl0, am_tl1, am_l1, kr_35, kn_35, kl_35, kc_35_0, kc_35_1, kc_35_2, kc_35_3, kc_35_4, kc_35_5, kc_35_6, kf_35_34, kc_35_9, kc_35_10, kl_11, ko_11, kn_11, ka_35_58, kc_35_13, kc_35_16, kc_35_17, kc_35_18, kf_35_24, kc_35_21, kc_35_22, kc_35_25, kc_35_26, kc_35_27, kl_12, ko_12, kn_12, ka_35_61, kc_35_30, kc_35_31, ka_35_76, kc_35_34, kc_35_35, kc_35_38, kc_35_41, kc_35_42, kc_35_43, kc_35_44, tn_X0, tn_X1, tn_X2, tn_X3, tn_X4, tn_X5, tn_X6, tn_X7, tn_X8, tn_X9, tn_X10, tn_X11, tn_X12, tn_X13, tn_X14, tn_X15, tn_X16, tn_X17, tn_X18, tn_X19, tn_X20, tn_X21, tn_X22]
    rw [nI_leI (by omega) (by omega), nI_add]
    exact ⟨fun _ => hQ, fun q => absurd (Nat.le_refl _) q⟩
  | succ d ih =>
    intro k hd hk
    have hk1 : k < tn_dg ar sg hs y := by omega
    obtain ⟨s, e1, e2, e3, e4, e5, e6⟩ := C.ch hy hk1
    obtain ⟨f1, f2⟩ := hf k hk1
    have b1 := bnd k (by omega)
    refine am_AW.go [4] 60 ?_
    simp only [am_Zs, am_zn_1, am_g3, am_a3, am_kz_l, am_kz_r, am_mem, Bool.false_eq_true, am_Rs, am_R0, am_g2, am_al, am_kk_l, am_kk_r, am_step, am_op, am_one, am_two, am_br, am_inv, am_pp, am_ct, am_in, am_no, am_rc, am_s1, am_cut, am_s2, List.getElem?_cons_zero, List.getElem?_cons_succ, List.set_cons_zero, List.set_cons_succ, Value.category, List.cons_append, List.nil_append, am_f0, am_f1, am_f2, am_f3, am_cm1, am_c0, am_c1, am_c2, am_c3, am_c20, am_c40, am_c400, am_c401, am_c1600, true_and, and_true, true_implies, if_true, if_false, Nat.reduceAdd, Nat.reduceSub, Nat.reduceLT, Nat.reduceLeDiff, Nat.reduceEqDiff, reduceIte, Nat.le_refl, or_false, false_and, false_implies, or_true, true_or, implies_true, pk_us, pk_un, am_vs, am_vn, bx_uu, ne_eq, not_false_eq_true, not_true_eq_false, am_b0, am_b1, Nat.not_lt_zero, am_tl0, am_tl1, am_l1, kr_35, kn_35, kl_35, kc_35_0, kc_35_1, kc_35_2, kc_35_3, kc_35_4, kc_35_5, kc_35_6, kf_35_34, kc_35_9, kc_35_10, kl_11, ko_11, kn_11, ka_35_58, kc_35_13, kc_35_16, kc_35_17, kc_35_18, kf_35_24, kc_35_21, kc_35_22, kc_35_25, kc_35_26, kc_35_27, kl_12, ko_12, kn_12, ka_35_61, kc_35_30, kc_35_31, ka_35_76, kc_35_34, kc_35_35, kc_35_38, kc_35_41, kc_35_42, kc_35_43, kc_35_44, tn_X0, tn_X1, tn_X2, tn_X3, tn_X4, tn_X5, tn_X6, tn_X7, tn_X8, tn_X9, tn_X10, tn_X11, tn_X12, tn_X13, tn_X14, tn_X15, tn_X16, tn_X17, tn_X18, tn_X19, tn_X20, tn_X21, tn_X22]
    refine sp_11 C hy ?_
    simp only [am_Zs, am_zn_1, am_g3, am_a3, am_kz_l, am_kz_r, am_mem, Bool.false_eq_true, am_Rs, am_R0, am_g2, am_al, am_kk_l, am_kk_r, am_step, am_op, am_one, am_two, am_br, am_inv, am_pp, am_ct, am_in, am_no, am_rc, am_s1, am_cut, am_s2, List.getElem?_cons_zero, List.getElem?_cons_succ, List.set_cons_zero, List.set_cons_succ, Value.category, List.cons_append, List.nil_append, am_f0, am_f1, am_f2, am_f3, am_cm1, am_c0, am_c1, am_c2, am_c3, am_c20, am_c40, am_c400, am_c401, am_c1600, true_and, and_true, true_implies, if_true, if_false, Nat.reduceAdd, Nat.reduceSub, Nat.reduceLT, Nat.reduceLeDiff, Nat.reduceEqDiff, reduceIte, Nat.le_refl, or_false, false_and, false_implies, or_true, true_or, implies_true, pk_us, pk_un, am_vs, am_vn, bx_uu, ne_eq, not_false_eq_true, not_true_eq_false, am_b0, am_b1, Nat.not_lt_zero, am_tl0, am_tl1, am_l1, kr_35, kn_35, kl_35, kc_35_0, kc_35_1, kc_35_2, kc_35_3, kc_35_4, kc_35_5, kc_35_6, kf_35_34, kc_35_9, kc_35_10, kl_11, ko_11, kn_11, ka_35_58, kc_35_13, kc_35_16, kc_35_17, kc_35_18, kf_35_24, kc_35_21, kc_35_22, kc_35_25, kc_35_26, kc_35_27, kl_12, ko_12, kn_12, ka_35_61, kc_35_30, kc_35_31, ka_35_76, kc_35_34, kc_35_35, kc_35_38, kc_35_41, kc_35_42, kc_35_43, kc_35_44, tn_X0, tn_X1, tn_X2, tn_X3, tn_X4, tn_X5, tn_X6, tn_X7, tn_X8, tn_X9, tn_X10, tn_X11, tn_X12, tn_X13, tn_X14, tn_X15, tn_X16, tn_X17, tn_X18, tn_X19, tn_X20, tn_X21, tn_X22]
    rw [nI_leI (by omega) (by omega)]
    refine ⟨fun q => by omega, fun _ => ?_⟩
    refine sp_12 C hy e1 e2 ?_
    rw [← e4]
    simp only [am_Zs, am_zn_1, am_g3, am_a3, am_kz_l, am_kz_r, am_mem, Bool.false_eq_true, am_Rs, am_R0, am_g2, am_al, am_kk_l, am_kk_r, am_step, am_op, am_one, am_two, am_br, am_inv, am_pp, am_ct, am_in, am_no, am_rc, am_s1, am_cut, am_s2, List.getElem?_cons_zero, List.getElem?_cons_succ, List.set_cons_zero, List.set_cons_succ, Value.category, List.cons_append, List.nil_append, am_f0, am_f1, am_f2, am_f3, am_cm1, am_c0, am_c1, am_c2, am_c3, am_c20, am_c40, am_c400, am_c401, am_c1600, true_and, and_true, true_implies, if_true, if_false, Nat.reduceAdd, Nat.reduceSub, Nat.reduceLT, Nat.reduceLeDiff, Nat.reduceEqDiff, reduceIte, Nat.le_refl, or_false, false_and, false_implies, or_true, true_or, implies_true, pk_us, pk_un, am_vs, am_vn, bx_uu, ne_eq, not_false_eq_true, not_true_eq_false, am_b0, am_b1, Nat.not_lt_zero, am_tl0, am_tl1, am_l1, kr_35, kn_35, kl_35, kc_35_0, kc_35_1, kc_35_2, kc_35_3, kc_35_4, kc_35_5, kc_35_6, kf_35_34, kc_35_9, kc_35_10, kl_11, ko_11, kn_11, ka_35_58, kc_35_13, kc_35_16, kc_35_17, kc_35_18, kf_35_24, kc_35_21, kc_35_22, kc_35_25, kc_35_26, kc_35_27, kl_12, ko_12, kn_12, ka_35_61, kc_35_30, kc_35_31, ka_35_76, kc_35_34, kc_35_35, kc_35_38, kc_35_41, kc_35_42, kc_35_43, kc_35_44, tn_X0, tn_X1, tn_X2, tn_X3, tn_X4, tn_X5, tn_X6, tn_X7, tn_X8, tn_X9, tn_X10, tn_X11, tn_X12, tn_X13, tn_X14, tn_X15, tn_X16, tn_X17, tn_X18, tn_X19, tn_X20, tn_X21, tn_X22]
    rw [cl_ (by omega), f1, nI_add]
    refine ⟨vi_ (by omega) (by omega), ?_⟩
    have i1 := ih (k + 1) (by omega) (by omega)
    simp only [pu_mx] at i1
    by_cases e : pu_mx (fun k => f (tn_ch sg pt hs y k)) k < f (tn_ch sg pt hs y k)
    · rw [if_pos (nI_lt e (by omega))]
      rw [if_pos e] at i1
      exact i1
    · rw [if_neg (nI_nlt (by omega) (by omega))]
      rw [if_neg e] at i1
      exact i1
/-- Walk.depthOver -/
theorem sp_35 (C : tn_C n m ar sg pt hs h) {y b : Nat} (hy : y < n) (hb : b ≤ 400) {f : Nat → Nat} (hf : ∀ k, k < tn_dg ar sg hs y → h.2 19 (tn_ch sg pt hs y k) = nI (f (tn_ch sg pt hs y k)) ∧ f (tn_ch sg pt hs y k) ≤ b)
    (hQ : Q h (.inl (some (.int (nI (pu_mx (fun k => f (tn_ch sg pt hs y k)) (tn_dg ar sg hs y) + 1)))))) : am_AW tn_G tn_X (35, 0, 0, [some (.ref 3), some (.int (nI y)), none, none], [], h) Q := by
  refine am_AW.go [4] 60 ?_
  simp only [am_Zs, am_zn_1, am_g3, am_a3, am_kz_l, am_kz_r, am_mem, Bool.false_eq_true, am_Rs, am_R0, am_g2, am_al, am_kk_l, am_kk_r, am_step, am_op, am_one, am_two, am_br, am_inv, am_pp, am_ct, am_in, am_no, am_rc, am_s1, am_cut, am_s2, List.getElem?_cons_zero, List.getElem?_cons_succ, List.set_cons_zero, List.set_cons_succ, Value.category, List.cons_append, List.nil_append, am_f0, am_f1, am_f2, am_f3, am_cm1, am_c0, am_c1, am_c2, am_c3, am_c20, am_c40, am_c400, am_c401, am_c1600, true_and, and_true, true_implies, if_true, if_false, Nat.reduceAdd, Nat.reduceSub, Nat.reduceLT, Nat.reduceLeDiff, Nat.reduceEqDiff, reduceIte, Nat.le_refl, or_false, false_and, false_implies, or_true, true_or, implies_true, pk_us, pk_un, am_vs, am_vn, bx_uu, ne_eq, not_false_eq_true, not_true_eq_false, am_b0, am_b1, Nat.not_lt_zero, am_tl0, am_tl1, am_l1, kr_35, kn_35, kl_35, kc_35_0, kc_35_1, kc_35_2, kc_35_3, kc_35_4, kc_35_5, kc_35_6, kf_35_34, kc_35_9, kc_35_10, kl_11, ko_11, kn_11, ka_35_58, kc_35_13, kc_35_16, kc_35_17, kc_35_18, kf_35_24, kc_35_21, kc_35_22, kc_35_25, kc_35_26, kc_35_27, kl_12, ko_12, kn_12, ka_35_61, kc_35_30, kc_35_31, ka_35_76, kc_35_34, kc_35_35, kc_35_38, kc_35_41, kc_35_42, kc_35_43, kc_35_44, tn_X0, tn_X1, tn_X2, tn_X3, tn_X4, tn_X5, tn_X6, tn_X7, tn_X8, tn_X9, tn_X10, tn_X11, tn_X12, tn_X13, tn_X14, tn_X15, tn_X16, tn_X17, tn_X18, tn_X19, tn_X20, tn_X21, tn_X22]
  exact sp_35l C hy hb hf hQ _ 0 rfl (Nat.zero_le _)
/-- values along the order: the state of the loop; v: the value of a group out of its parts' -/
def tn_VL (n : Nat) (ar : Nat → Nat) (sg : Nat → Option Nat) (pt : Nat → Nat → Nat) (hs : List (Nat × Nat)) (v : (Nat → Nat) → Nat → Nat) (bd : Nat → Nat) (B : List Nat) (f : Nat → Nat) (h : am_S) : Prop :=
  ∀ x ∈ B, h.2 19 x = nI (f x) ∧ f x ≤ bd B.length ∧ f x = v (fun k => f (tn_ch sg pt hs x k)) (tn_dg ar sg hs x)
theorem tn_VL.step {v : (Nat → Nat) → Nat → Nat} {bd : Nat → Nat} (hv : ∀ f g d, (∀ k, k < d → f k = g k) → v f d = v g d) (hb : ∀ i, bd i ≤ bd (i + 1)) {B : List Nat} {y : Nat} {f : Nat → Nat} (V : tn_VL n ar sg pt hs v bd B f h) (ht : pu_top (tn_dg ar sg hs) (tn_ch sg pt hs) (y :: B)) (hyB : y ∉ B) (hbd : v (fun k => f (tn_ch sg pt hs y k)) (tn_dg ar sg hs y) ≤ bd (B.length + 1)) :
    tn_VL n ar sg pt hs v bd (y :: B) (fun z => if z = y then v (fun k => f (tn_ch sg pt hs y k)) (tn_dg ar sg hs y) else f z) (h.1, va_up h.2 19 (upd (h.2 19) y (nI (v (fun k => f (tn_ch sg pt hs y k)) (tn_dg ar sg hs y))))) := by
  have chB : ∀ x, x ∈ y :: B → ∀ k, k < tn_dg ar sg hs x → tn_ch sg pt hs x k ∈ B := fun x hx k hk => by
    rcases List.mem_cons.mp hx with e | hx
    · subst e; exact ht.1 k hk
    · exact pu_top_in hk ht.2 hx
  intro x hx
  have same : v (fun k => if tn_ch sg pt hs x k = y then v (fun k => f (tn_ch sg pt hs y k)) (tn_dg ar sg hs y) else f (tn_ch sg pt hs x k)) (tn_dg ar sg hs x) = v (fun k => f (tn_ch sg pt hs x k)) (tn_dg ar sg hs x) := hv _ _ _ (fun k hk => by
    rw [if_neg]
    intro e
    have := chB x hx k hk
    rw [e] at this
    exact hyB this)
  simp only [am_vs, upd, List.length_cons]
  rw [same]
  by_cases e : x = y
  · subst e
    simp only [if_true]
    exact ⟨trivial, hbd, trivial⟩
  · simp only [if_neg e]
    rcases List.mem_cons.mp hx with q | q
    · exact absurd q e
    · obtain ⟨a1, a2, a3⟩ := V x q
      exact ⟨a1, Nat.le_trans a2 (hb _), a3⟩
theorem tn_K_fV {O : List Nat} {tr : Nat → Nat} (K : tn_K [] O tr h) {g : Nat → Int32} : tn_K [] O tr (h.1, va_up h.2 19 g) := by
  obtain ⟨k1, k2, k3, k4, k5, k6⟩ := K
  refine ⟨k1, k2, fun t ht => ?_, fun x hx => (by cases hx), fun i x hx => (by simp at hx), fun i x hx => ?_⟩
  · simp only [am_vn (show (15 : Nat) ≠ 19 by decide)]; exact k3 t ht
  · simp only [am_vn (show (18 : Nat) ≠ 19 by decide)]; exact k6 i x hx
def tn_vs (f : Nat → Nat) (d : Nat) : Nat := min 1000000000 (1 + pu_sm f d)
def tn_vd (f : Nat → Nat) (d : Nat) : Nat := pu_mx f d + 1
/-- Walk.sizeBelow, its loop -/
theorem sp_31l (C : tn_C n m ar sg pt hs h) {a : Nat} (ha : a < n) {O : List Nat} (htop : pu_top (tn_dg ar sg hs) (tn_ch sg pt hs) O) (hnd : O.Nodup) (hOn : ∀ x ∈ O, x < n) (hao : pu_hg hs a ∈ O)
    (h1 : ∀ (f : Nat → Nat) (h' : am_S), (∀ x ∈ O, f x = tn_vs (fun k => f (tn_ch sg pt hs x k)) (tn_dg ar sg hs x)) → tn_fV h h' → Q h' (.inl (some (.int (nI (f (pu_hg hs a))))))) :
    ∀ (A B : List Nat) (f tr : Nat → Nat) (h2 : am_S), O = A ++ B → tn_K [] O tr h2 → tn_VL n ar sg pt hs tn_vs (fun _ => 1000000000) B f h2 → tn_fV h h2 → am_AW tn_G tn_X (31, 7, 0, [some (.ref 3), some (.int (nI a)), some (.int (nI B.length))], [], h2) Q := by
  have hn := C.le
  have hl := pu_nd_len hnd hOn
  have ga := C.g ha
  intro A
  refine pu_rev_ind (p := fun A => ∀ (B : List Nat) (f tr : Nat → Nat) (h2 : am_S), O = A ++ B → tn_K [] O tr h2 → tn_VL n ar sg pt hs tn_vs (fun _ => 1000000000) B f h2 → tn_fV h h2 → am_AW tn_G tn_X (31, 7, 0, [some (.ref 3), some (.int (nI a)), some (.int (nI B.length))], [], h2) Q) ?_ ?_ A
  · intro B f tr h2 e K V fr
    simp only [List.nil_append] at e
    subst e
    have C2 := C.Vv fr
    refine am_AW.go [7] 60 ?_
    simp only [am_Zs, am_zn_1, am_g3, am_a3, am_kz_l, am_kz_r, am_mem, Bool.false_eq_true, am_Rs, am_R0, am_g2, am_al, am_kk_l, am_kk_r, am_step, am_op, am_one, am_two, am_br, am_inv, am_pp, am_ct, am_in, am_no, am_rc, am_s1, am_cut, am_s2, List.getElem?_cons_zero, List.getElem?_cons_succ, List.set_cons_zero, List.set_cons_succ, Value.category, List.cons_append, List.nil_append, am_f0, am_f1, am_f2, am_f3, am_cm1, am_c0, am_c1, am_c2, am_c3, am_c20, am_c40, am_c400, am_c401, am_c1600, true_and, and_true, true_implies, if_true, if_false, Nat.reduceAdd, Nat.reduceSub, Nat.reduceLT, Nat.reduceLeDiff, Nat.reduceEqDiff, reduceIte, Nat.le_refl, or_false, false_and, false_implies, or_true, true_or, implies_true, pk_us, pk_un, am_vs, am_vn, bx_uu, ne_eq, not_false_eq_true, not_true_eq_false, am_b0, am_b1, Nat.not_lt_zero, am_tl0, am_tl1, am_l1, kr_31, kn_31, kl_31, kc_31_0, kc_31_1, kc_31_2, kl_32, ko_32, kn_32, ka_31_51, kc_31_5, kc_31_6, kc_31_7, kc_31_8, kc_31_9, kf_31_31, kc_31_12, kc_31_15, kc_31_16, kf_31_24, kc_31_19, kc_31_20, kf_31_21, kc_31_23, kc_31_24, kc_31_25, kc_31_26, kc_31_27, kc_31_30, kc_31_31, kc_31_32, kl_33, ko_33, kn_33, ka_31_55, kc_31_35, kc_31_36, kc_31_39, kc_31_42, kc_31_43, kc_31_46, kc_31_47, kf_31_34, kc_31_50, kc_31_51, kl_10, ko_10, kn_10, ka_31_41, kc_31_54, kc_31_55, tn_X0, tn_X1, tn_X2, tn_X3, tn_X4, tn_X5, tn_X6, tn_X7, tn_X8, tn_X9, tn_X10, tn_X11, tn_X12, tn_X13, tn_X14, tn_X15, tn_X16, tn_X17, tn_X18, tn_X19, tn_X20, tn_X21, tn_X22]
    rw [K.2.1, nI_leI (by omega) (by omega)]
    refine ⟨fun _ => ?_, fun q => absurd (Nat.le_refl _) q⟩
    refine sp_10 C2 ha ?_
    simp only [am_Zs, am_zn_1, am_g3, am_a3, am_kz_l, am_kz_r, am_mem, Bool.false_eq_true, am_Rs, am_R0, am_g2, am_al, am_kk_l, am_kk_r, am_step, am_op, am_one, am_two, am_br, am_inv, am_pp, am_ct, am_in, am_no, am_rc, am_s1, am_cut, am_s2, List.getElem?_cons_zero, List.getElem?_cons_succ, List.set_cons_zero, List.set_cons_succ, Value.category, List.cons_append, List.nil_append, am_f0, am_f1, am_f2, am_f3, am_cm1, am_c0, am_c1, am_c2, am_c3, am_c20, am_c40, am_c400, am_c401, am_c1600, true_and, and_true, true_implies, if_true, if_false, Nat.reduceAdd, Nat.reduceSub, Nat.reduceLT, Nat.reduceLeDiff, Nat.reduceEqDiff, reduceIte, Nat.le_refl, or_false, false_and, false_implies, or_true, true_or, implies_true, pk_us, pk_un, am_vs, am_vn, bx_uu, ne_eq, not_false_eq_true, not_true_eq_false, am_b0, am_b1, Nat.not_lt_zero, am_tl0, am_tl1, am_l1, kr_31, kn_31, kl_31, kc_31_0, kc_31_1, kc_31_2, kl_32, ko_32, kn_32, ka_31_51, kc_31_5, kc_31_6, kc_31_7, kc_31_8, kc_31_9, kf_31_31, kc_31_12, kc_31_15, kc_31_16, kf_31_24, kc_31_19, kc_31_20, kf_31_21, kc_31_23, kc_31_24, kc_31_25, kc_31_26, kc_31_27, kc_31_30, kc_31_31, kc_31_32, kl_33, ko_33, kn_33, ka_31_55, kc_31_35, kc_31_36, kc_31_39, kc_31_42, kc_31_43, kc_31_46, kc_31_47, kf_31_34, kc_31_50, kc_31_51, kl_10, ko_10, kn_10, ka_31_41, kc_31_54, kc_31_55, tn_X0, tn_X1, tn_X2, tn_X3, tn_X4, tn_X5, tn_X6, tn_X7, tn_X8, tn_X9, tn_X10, tn_X11, tn_X12, tn_X13, tn_X14, tn_X15, tn_X16, tn_X17, tn_X18, tn_X19, tn_X20, tn_X21, tn_X22]
    rw [cl_ (by omega), (V _ hao).1]
    exact ⟨vi_ (by omega) (by omega), h1 f h2 (fun x hx => (V x hx).2.2) fr⟩
  · intro A y ih B f tr h2 e K V fr
    have e' : O = A ++ y :: B := by rw [e, List.append_assoc]; rfl
    have hlen : O.length = A.length + (B.length + 1) := by rw [e']; simp
    have hy : y ∈ O := by rw [e']; simp
    have hyn := hOn y hy
    have ht2 : pu_top (tn_dg ar sg hs) (tn_ch sg pt hs) (y :: B) := pu_top_suf (A := A) (by rw [← e']; exact htop)
    have hyB : y ∉ B := by
      rw [e'] at hnd
      exact (List.nodup_cons.mp (List.nodup_append.mp hnd).2.1).1
    have hget : O.reverse[B.length]? = some y := by
      rw [e, List.reverse_append, List.reverse_append, List.getElem?_append_right (by rw [List.length_reverse]; exact Nat.le_refl _), List.length_reverse, Nat.sub_self]
      rfl
    have k6 := K.2.2.2.2.2 B.length y hget
    have C2 := C.Vv fr
    refine am_AW.go [7] 60 ?_
    simp only [am_Zs, am_zn_1, am_g3, am_a3, am_kz_l, am_kz_r, am_mem, Bool.false_eq_true, am_Rs, am_R0, am_g2, am_al, am_kk_l, am_kk_r, am_step, am_op, am_one, am_two, am_br, am_inv, am_pp, am_ct, am_in, am_no, am_rc, am_s1, am_cut, am_s2, List.getElem?_cons_zero, List.getElem?_cons_succ, List.set_cons_zero, List.set_cons_succ, Value.category, List.cons_append, List.nil_append, am_f0, am_f1, am_f2, am_f3, am_cm1, am_c0, am_c1, am_c2, am_c3, am_c20, am_c40, am_c400, am_c401, am_c1600, true_and, and_true, true_implies, if_true, if_false, Nat.reduceAdd, Nat.reduceSub, Nat.reduceLT, Nat.reduceLeDiff, Nat.reduceEqDiff, reduceIte, Nat.le_refl, or_false, false_and, false_implies, or_true, true_or, implies_true, pk_us, pk_un, am_vs, am_vn, bx_uu, ne_eq, not_false_eq_true, not_true_eq_false, am_b0, am_b1, Nat.not_lt_zero, am_tl0, am_tl1, am_l1, kr_31, kn_31, kl_31, kc_31_0, kc_31_1, kc_31_2, kl_32, ko_32, kn_32, ka_31_51, kc_31_5, kc_31_6, kc_31_7, kc_31_8, kc_31_9, kf_31_31, kc_31_12, kc_31_15, kc_31_16, kf_31_24, kc_31_19, kc_31_20, kf_31_21, kc_31_23, kc_31_24, kc_31_25, kc_31_26, kc_31_27, kc_31_30, kc_31_31, kc_31_32, kl_33, ko_33, kn_33, ka_31_55, kc_31_35, kc_31_36, kc_31_39, kc_31_42, kc_31_43, kc_31_46, kc_31_47, kf_31_34, kc_31_50, kc_31_51, kl_10, ko_10, kn_10, ka_31_41, kc_31_54, kc_31_55, tn_X0, tn_X1, tn_X2, tn_X3, tn_X4, tn_X5, tn_X6, tn_X7, tn_X8, tn_X9, tn_X10, tn_X11, tn_X12, tn_X13, tn_X14, tn_X15, tn_X16, tn_X17, tn_X18, tn_X19, tn_X20, tn_X21, tn_X22]
    rw [K.2.1, nI_leI (by omega) (by omega), cl_ (by omega), k6]
    refine ⟨fun q => by omega, fun _ => ⟨vi_ (by omega) (by omega), vi_ (by omega) (by omega), ?_⟩⟩
    refine sp_33 (f := f) C2 hyn (fun k hk => ⟨(V _ (ht2.1 k hk)).1, (V _ (ht2.1 k hk)).2.1⟩) ?_
    simp only [am_Zs, am_zn_1, am_g3, am_a3, am_kz_l, am_kz_r, am_mem, Bool.false_eq_true, am_Rs, am_R0, am_g2, am_al, am_kk_l, am_kk_r, am_step, am_op, am_one, am_two, am_br, am_inv, am_pp, am_ct, am_in, am_no, am_rc, am_s1, am_cut, am_s2, List.getElem?_cons_zero, List.getElem?_cons_succ, List.set_cons_zero, List.set_cons_succ, Value.category, List.cons_append, List.nil_append, am_f0, am_f1, am_f2, am_f3, am_cm1, am_c0, am_c1, am_c2, am_c3, am_c20, am_c40, am_c400, am_c401, am_c1600, true_and, and_true, true_implies, if_true, if_false, Nat.reduceAdd, Nat.reduceSub, Nat.reduceLT, Nat.reduceLeDiff, Nat.reduceEqDiff, reduceIte, Nat.le_refl, or_false, false_and, false_implies, or_true, true_or, implies_true, pk_us, pk_un, am_vs, am_vn, bx_uu, ne_eq, not_false_eq_true, not_true_eq_false, am_b0, am_b1, Nat.not_lt_zero, am_tl0, am_tl1, am_l1, kr_31, kn_31, kl_31, kc_31_0, kc_31_1, kc_31_2, kl_32, ko_32, kn_32, ka_31_51, kc_31_5, kc_31_6, kc_31_7, kc_31_8, kc_31_9, kf_31_31, kc_31_12, kc_31_15, kc_31_16, kf_31_24, kc_31_19, kc_31_20, kf_31_21, kc_31_23, kc_31_24, kc_31_25, kc_31_26, kc_31_27, kc_31_30, kc_31_31, kc_31_32, kl_33, ko_33, kn_33, ka_31_55, kc_31_35, kc_31_36, kc_31_39, kc_31_42, kc_31_43, kc_31_46, kc_31_47, kf_31_34, kc_31_50, kc_31_51, kl_10, ko_10, kn_10, ka_31_41, kc_31_54, kc_31_55, tn_X0, tn_X1, tn_X2, tn_X3, tn_X4, tn_X5, tn_X6, tn_X7, tn_X8, tn_X9, tn_X10, tn_X11, tn_X12, tn_X13, tn_X14, tn_X15, tn_X16, tn_X17, tn_X18, tn_X19, tn_X20, tn_X21, tn_X22]
    rw [cl_ (by omega), nI_add]
    refine ⟨vi_ (by omega) (by omega), ?_⟩
    have V2 := V.step (v := tn_vs) (bd := (fun _ => 1000000000)) (y := y) (fun f g d hfg => by unfold tn_vs; rw [pu_sm_congr hfg]) (fun _ => Nat.le_refl _) ht2 hyB (Nat.min_le_left _ _)
    exact ih (y :: B) _ tr _ e' (tn_K_fV K) V2 (fr.tr ⟨fun _ _ _ => rfl, fun k hk => am_vn (by omega)⟩)
/-- Walk.sizeBelow -/
theorem sp_31 (C : tn_C n m ar sg pt hs h) (hA : ∃ rk : Nat → Nat, ∀ x, x < n → ∀ k, k < tn_dg ar sg hs x → rk (tn_ch sg pt hs x k) < rk x) {a : Nat} (ha : a < n)
    (h1 : ∀ (f : Nat → Nat) (h' : am_S), (∀ x, tn_rc n ar sg pt hs (pu_hg hs a) x → f x = tn_vs (fun k => f (tn_ch sg pt hs x k)) (tn_dg ar sg hs x)) → tn_fV h h' → Q h' (.inl (some (.int (nI (f (pu_hg hs a))))))) :
    am_AW tn_G tn_X (31, 0, 0, [some (.ref 3), some (.int (nI a)), none], [], h) Q := by
  refine am_AW.go [7] 60 ?_
  simp only [am_Zs, am_zn_1, am_g3, am_a3, am_kz_l, am_kz_r, am_mem, Bool.false_eq_true, am_Rs, am_R0, am_g2, am_al, am_kk_l, am_kk_r, am_step, am_op, am_one, am_two, am_br, am_inv, am_pp, am_ct, am_in, am_no, am_rc, am_s1, am_cut, am_s2, List.getElem?_cons_zero, List.getElem?_cons_succ, List.set_cons_zero, List.set_cons_succ, Value.category, List.cons_append, List.nil_append, am_f0, am_f1, am_f2, am_f3, am_cm1, am_c0, am_c1, am_c2, am_c3, am_c20, am_c40, am_c400, am_c401, am_c1600, true_and, and_true, true_implies, if_true, if_false, Nat.reduceAdd, Nat.reduceSub, Nat.reduceLT, Nat.reduceLeDiff, Nat.reduceEqDiff, reduceIte, Nat.le_refl, or_false, false_and, false_implies, or_true, true_or, implies_true, pk_us, pk_un, am_vs, am_vn, bx_uu, ne_eq, not_false_eq_true, not_true_eq_false, am_b0, am_b1, Nat.not_lt_zero, am_tl0, am_tl1, am_l1, kr_31, kn_31, kl_31, kc_31_0, kc_31_1, kc_31_2, kl_32, ko_32, kn_32, ka_31_51, kc_31_5, kc_31_6, kc_31_7, kc_31_8, kc_31_9, kf_31_31, kc_31_12, kc_31_15, kc_31_16, kf_31_24, kc_31_19, kc_31_20, kf_31_21, kc_31_23, kc_31_24, kc_31_25, kc_31_26, kc_31_27, kc_31_30, kc_31_31, kc_31_32, kl_33, ko_33, kn_33, ka_31_55, kc_31_35, kc_31_36, kc_31_39, kc_31_42, kc_31_43, kc_31_46, kc_31_47, kf_31_34, kc_31_50, kc_31_51, kl_10, ko_10, kn_10, ka_31_41, kc_31_54, kc_31_55, tn_X0, tn_X1, tn_X2, tn_X3, tn_X4, tn_X5, tn_X6, tn_X7, tn_X8, tn_X9, tn_X10, tn_X11, tn_X12, tn_X13, tn_X14, tn_X15, tn_X16, tn_X17, tn_X18, tn_X19, tn_X20, tn_X21, tn_X22]
  refine sp_32 C hA ha (fun O tr h2 K2 D2 hO f2 => ?_)
  simp only [am_Zs, am_zn_1, am_g3, am_a3, am_kz_l, am_kz_r, am_mem, Bool.false_eq_true, am_Rs, am_R0, am_g2, am_al, am_kk_l, am_kk_r, am_step, am_op, am_one, am_two, am_br, am_inv, am_pp, am_ct, am_in, am_no, am_rc, am_s1, am_cut, am_s2, List.getElem?_cons_zero, List.getElem?_cons_succ, List.set_cons_zero, List.set_cons_succ, Value.category, List.cons_append, List.nil_append, am_f0, am_f1, am_f2, am_f3, am_cm1, am_c0, am_c1, am_c2, am_c3, am_c20, am_c40, am_c400, am_c401, am_c1600, true_and, and_true, true_implies, if_true, if_false, Nat.reduceAdd, Nat.reduceSub, Nat.reduceLT, Nat.reduceLeDiff, Nat.reduceEqDiff, reduceIte, Nat.le_refl, or_false, false_and, false_implies, or_true, true_or, implies_true, pk_us, pk_un, am_vs, am_vn, bx_uu, ne_eq, not_false_eq_true, not_true_eq_false, am_b0, am_b1, Nat.not_lt_zero, am_tl0, am_tl1, am_l1, kr_31, kn_31, kl_31, kc_31_0, kc_31_1, kc_31_2, kl_32, ko_32, kn_32, ka_31_51, kc_31_5, kc_31_6, kc_31_7, kc_31_8, kc_31_9, kf_31_31, kc_31_12, kc_31_15, kc_31_16, kf_31_24, kc_31_19, kc_31_20, kf_31_21, kc_31_23, kc_31_24, kc_31_25, kc_31_26, kc_31_27, kc_31_30, kc_31_31, kc_31_32, kl_33, ko_33, kn_33, ka_31_55, kc_31_35, kc_31_36, kc_31_39, kc_31_42, kc_31_43, kc_31_46, kc_31_47, kf_31_34, kc_31_50, kc_31_51, kl_10, ko_10, kn_10, ka_31_41, kc_31_54, kc_31_55, tn_X0, tn_X1, tn_X2, tn_X3, tn_X4, tn_X5, tn_X6, tn_X7, tn_X8, tn_X9, tn_X10, tn_X11, tn_X12, tn_X13, tn_X14, tn_X15, tn_X16, tn_X17, tn_X18, tn_X19, tn_X20, tn_X21, tn_X22]
  exact sp_31l C ha D2.2.2.1 (by simpa using D2.1) (fun x hx => (D2.2.1 x hx).1) ((hO _).mpr (fun S s0 _ => s0)) (fun f h3 hf f3 => h1 f h3 (fun x hx => hf x ((hO x).mpr hx)) f3) O [] (fun _ => 0) tr h2 (by simp) K2 (fun x hx => (by cases hx)) f2.V
/-- Walk.depthBelow, its loop -/
theorem sp_34l (C : tn_C n m ar sg pt hs h) {a : Nat} (ha : a < n) {O : List Nat} (htop : pu_top (tn_dg ar sg hs) (tn_ch sg pt hs) O) (hnd : O.Nodup) (hOn : ∀ x ∈ O, x < n) (hao : pu_hg hs a ∈ O)
    (h1 : ∀ (f : Nat → Nat) (h' : am_S), (∀ x ∈ O, f x = tn_vd (fun k => f (tn_ch sg pt hs x k)) (tn_dg ar sg hs x)) → tn_fV h h' → Q h' (.inl (some (.int (nI (f (pu_hg hs a))))))) :
    ∀ (A B : List Nat) (f tr : Nat → Nat) (h2 : am_S), O = A ++ B → tn_K [] O tr h2 → tn_VL n ar sg pt hs tn_vd (fun i => i) B f h2 → tn_fV h h2 → am_AW tn_G tn_X (34, 7, 0, [some (.ref 3), some (.int (nI a)), some (.int (nI B.length))], [], h2) Q := by
  have hn := C.le
  have hl := pu_nd_len hnd hOn
  have ga := C.g ha
  intro A
  refine pu_rev_ind (p := fun A => ∀ (B : List Nat) (f tr : Nat → Nat) (h2 : am_S), O = A ++ B → tn_K [] O tr h2 → tn_VL n ar sg pt hs tn_vd (fun i => i) B f h2 → tn_fV h h2 → am_AW tn_G tn_X (34, 7, 0, [some (.ref 3), some (.int (nI a)), some (.int (nI B.length))], [], h2) Q) ?_ ?_ A
  · intro B f tr h2 e K V fr
    simp only [List.nil_append] at e
    subst e
    have C2 := C.Vv fr
    refine am_AW.go [7] 60 ?_
    simp only [am_Zs, am_zn_1, am_g3, am_a3, am_kz_l, am_kz_r, am_mem, Bool.false_eq_true, am_Rs, am_R0, am_g2, am_al, am_kk_l, am_kk_r, am_step, am_op, am_one, am_two, am_br, am_inv, am_pp, am_ct, am_in, am_no, am_rc, am_s1, am_cut, am_s2, List.getElem?_cons_zero, List.getElem?_cons_succ, List.set_cons_zero, List.set_cons_succ, Value.category, List.cons_append, List.nil_append, am_f0, am_f1, am_f2, am_f3, am_cm1, am_c0, am_c1, am_c2, am_c3, am_c20, am_c40, am_c400, am_c401, am_c1600, true_and, and_true, true_implies, if_true, if_false, Nat.reduceAdd, Nat.reduceSub, Nat.reduceLT, Nat.reduceLeDiff, Nat.reduceEqDiff, reduceIte, Nat.le_refl, or_false, false_and, false_implies, or_true, true_or, implies_true, pk_us, pk_un, am_vs, am_vn, bx_uu, ne_eq, not_false_eq_true, not_true_eq_false, am_b0, am_b1, Nat.not_lt_zero, am_tl0, am_tl1, am_l1, kr_34, kn_34, kl_34, kc_34_0, kc_34_1, kc_34_2, kl_32, ko_32, kn_32, ka_34_51, kc_34_5, kc_34_6, kc_34_7, kc_34_8, kc_34_9, kf_34_31, kc_34_12, kc_34_15, kc_34_16, kf_34_24, kc_34_19, kc_34_20, kf_34_21, kc_34_23, kc_34_24, kc_34_25, kc_34_26, kc_34_27, kc_34_30, kc_34_31, kc_34_32, kl_35, ko_35, kn_35, ka_34_73, kc_34_35, kc_34_36, kc_34_39, kc_34_42, kc_34_43, kc_34_46, kc_34_47, kf_34_34, kc_34_50, kc_34_51, kl_10, ko_10, kn_10, ka_34_41, kc_34_54, kc_34_55, tn_X0, tn_X1, tn_X2, tn_X3, tn_X4, tn_X5, tn_X6, tn_X7, tn_X8, tn_X9, tn_X10, tn_X11, tn_X12, tn_X13, tn_X14, tn_X15, tn_X16, tn_X17, tn_X18, tn_X19, tn_X20, tn_X21, tn_X22]
    rw [K.2.1, nI_leI (by omega) (by omega)]
    refine ⟨fun _ => ?_, fun q => absurd (Nat.le_refl _) q⟩
    refine sp_10 C2 ha ?_
    simp only [am_Zs, am_zn_1, am_g3, am_a3, am_kz_l, am_kz_r, am_mem, Bool.false_eq_true, am_Rs, am_R0, am_g2, am_al, am_kk_l, am_kk_r, am_step, am_op, am_one, am_two, am_br, am_inv, am_pp, am_ct, am_in, am_no, am_rc, am_s1, am_cut, am_s2, List.getElem?_cons_zero, List.getElem?_cons_succ, List.set_cons_zero, List.set_cons_succ, Value.category, List.cons_append, List.nil_append, am_f0, am_f1, am_f2, am_f3, am_cm1, am_c0, am_c1, am_c2, am_c3, am_c20, am_c40, am_c400, am_c401, am_c1600, true_and, and_true, true_implies, if_true, if_false, Nat.reduceAdd, Nat.reduceSub, Nat.reduceLT, Nat.reduceLeDiff, Nat.reduceEqDiff, reduceIte, Nat.le_refl, or_false, false_and, false_implies, or_true, true_or, implies_true, pk_us, pk_un, am_vs, am_vn, bx_uu, ne_eq, not_false_eq_true, not_true_eq_false, am_b0, am_b1, Nat.not_lt_zero, am_tl0, am_tl1, am_l1, kr_34, kn_34, kl_34, kc_34_0, kc_34_1, kc_34_2, kl_32, ko_32, kn_32, ka_34_51, kc_34_5, kc_34_6, kc_34_7, kc_34_8, kc_34_9, kf_34_31, kc_34_12, kc_34_15, kc_34_16, kf_34_24, kc_34_19, kc_34_20, kf_34_21, kc_34_23, kc_34_24, kc_34_25, kc_34_26, kc_34_27, kc_34_30, kc_34_31, kc_34_32, kl_35, ko_35, kn_35, ka_34_73, kc_34_35, kc_34_36, kc_34_39, kc_34_42, kc_34_43, kc_34_46, kc_34_47, kf_34_34, kc_34_50, kc_34_51, kl_10, ko_10, kn_10, ka_34_41, kc_34_54, kc_34_55, tn_X0, tn_X1, tn_X2, tn_X3, tn_X4, tn_X5, tn_X6, tn_X7, tn_X8, tn_X9, tn_X10, tn_X11, tn_X12, tn_X13, tn_X14, tn_X15, tn_X16, tn_X17, tn_X18, tn_X19, tn_X20, tn_X21, tn_X22]
    rw [cl_ (by omega), (V _ hao).1]
    exact ⟨vi_ (by omega) (by omega), h1 f h2 (fun x hx => (V x hx).2.2) fr⟩
  · intro A y ih B f tr h2 e K V fr
    have e' : O = A ++ y :: B := by rw [e, List.append_assoc]; rfl
    have hlen : O.length = A.length + (B.length + 1) := by rw [e']; simp
    have hy : y ∈ O := by rw [e']; simp
    have hyn := hOn y hy
    have ht2 : pu_top (tn_dg ar sg hs) (tn_ch sg pt hs) (y :: B) := pu_top_suf (A := A) (by rw [← e']; exact htop)
    have hyB : y ∉ B := by
      rw [e'] at hnd
      exact (List.nodup_cons.mp (List.nodup_append.mp hnd).2.1).1
    have hget : O.reverse[B.length]? = some y := by
      rw [e, List.reverse_append, List.reverse_append, List.getElem?_append_right (by rw [List.length_reverse]; exact Nat.le_refl _), List.length_reverse, Nat.sub_self]
      rfl
    have k6 := K.2.2.2.2.2 B.length y hget
    have C2 := C.Vv fr
    refine am_AW.go [7] 60 ?_
    simp only [am_Zs, am_zn_1, am_g3, am_a3, am_kz_l, am_kz_r, am_mem, Bool.false_eq_true, am_Rs, am_R0, am_g2, am_al, am_kk_l, am_kk_r, am_step, am_op, am_one, am_two, am_br, am_inv, am_pp, am_ct, am_in, am_no, am_rc, am_s1, am_cut, am_s2, List.getElem?_cons_zero, List.getElem?_cons_succ, List.set_cons_zero, List.set_cons_succ, Value.category, List.cons_append, List.nil_append, am_f0, am_f1, am_f2, am_f3, am_cm1, am_c0, am_c1, am_c2, am_c3, am_c20, am_c40, am_c400, am_c401, am_c1600, true_and, and_true, true_implies, if_true, if_false, Nat.reduceAdd, Nat.reduceSub, Nat.reduceLT, Nat.reduceLeDiff, Nat.reduceEqDiff, reduceIte, Nat.le_refl, or_false, false_and, false_implies, or_true, true_or, implies_true, pk_us, pk_un, am_vs, am_vn, bx_uu, ne_eq, not_false_eq_true, not_true_eq_false, am_b0, am_b1, Nat.not_lt_zero, am_tl0, am_tl1, am_l1, kr_34, kn_34, kl_34, kc_34_0, kc_34_1, kc_34_2, kl_32, ko_32, kn_32, ka_34_51, kc_34_5, kc_34_6, kc_34_7, kc_34_8, kc_34_9, kf_34_31, kc_34_12, kc_34_15, kc_34_16, kf_34_24, kc_34_19, kc_34_20, kf_34_21, kc_34_23, kc_34_24, kc_34_25, kc_34_26, kc_34_27, kc_34_30, kc_34_31, kc_34_32, kl_35, ko_35, kn_35, ka_34_73, kc_34_35, kc_34_36, kc_34_39, kc_34_42, kc_34_43, kc_34_46, kc_34_47, kf_34_34, kc_34_50, kc_34_51, kl_10, ko_10, kn_10, ka_34_41, kc_34_54, kc_34_55, tn_X0, tn_X1, tn_X2, tn_X3, tn_X4, tn_X5, tn_X6, tn_X7, tn_X8, tn_X9, tn_X10, tn_X11, tn_X12, tn_X13, tn_X14, tn_X15, tn_X16, tn_X17, tn_X18, tn_X19, tn_X20, tn_X21, tn_X22]
    rw [K.2.1, nI_leI (by omega) (by omega), cl_ (by omega), k6]
    refine ⟨fun q => by omega, fun _ => ⟨vi_ (by omega) (by omega), vi_ (by omega) (by omega), ?_⟩⟩
    refine sp_35 (f := f) (b := B.length) C2 hyn (by omega) (fun k hk => ⟨(V _ (ht2.1 k hk)).1, (V _ (ht2.1 k hk)).2.1⟩) ?_
    simp only [am_Zs, am_zn_1, am_g3, am_a3, am_kz_l, am_kz_r, am_mem, Bool.false_eq_true, am_Rs, am_R0, am_g2, am_al, am_kk_l, am_kk_r, am_step, am_op, am_one, am_two, am_br, am_inv, am_pp, am_ct, am_in, am_no, am_rc, am_s1, am_cut, am_s2, List.getElem?_cons_zero, List.getElem?_cons_succ, List.set_cons_zero, List.set_cons_succ, Value.category, List.cons_append, List.nil_append, am_f0, am_f1, am_f2, am_f3, am_cm1, am_c0, am_c1, am_c2, am_c3, am_c20, am_c40, am_c400, am_c401, am_c1600, true_and, and_true, true_implies, if_true, if_false, Nat.reduceAdd, Nat.reduceSub, Nat.reduceLT, Nat.reduceLeDiff, Nat.reduceEqDiff, reduceIte, Nat.le_refl, or_false, false_and, false_implies, or_true, true_or, implies_true, pk_us, pk_un, am_vs, am_vn, bx_uu, ne_eq, not_false_eq_true, not_true_eq_false, am_b0, am_b1, Nat.not_lt_zero, am_tl0, am_tl1, am_l1, kr_34, kn_34, kl_34, kc_34_0, kc_34_1, kc_34_2, kl_32, ko_32, kn_32, ka_34_51, kc_34_5, kc_34_6, kc_34_7, kc_34_8, kc_34_9, kf_34_31, kc_34_12, kc_34_15, kc_34_16, kf_34_24, kc_34_19, kc_34_20, kf_34_21, kc_34_23, kc_34_24, kc_34_25, kc_34_26, kc_34_27, kc_34_30, kc_34_31, kc_34_32, kl_35, ko_35, kn_35, ka_34_73, kc_34_35, kc_34_36, kc_34_39, kc_34_42, kc_34_43, kc_34_46, kc_34_47, kf_34_34, kc_34_50, kc_34_51, kl_10, ko_10, kn_10, ka_34_41, kc_34_54, kc_34_55, tn_X0, tn_X1, tn_X2, tn_X3, tn_X4, tn_X5, tn_X6, tn_X7, tn_X8, tn_X9, tn_X10, tn_X11, tn_X12, tn_X13, tn_X14, tn_X15, tn_X16, tn_X17, tn_X18, tn_X19, tn_X20, tn_X21, tn_X22]
    rw [cl_ (by omega), nI_add]
    refine ⟨vi_ (by omega) (by omega), ?_⟩
    have V2 := V.step (v := tn_vd) (bd := (fun i => i)) (y := y) (fun f g d hfg => by unfold tn_vd; rw [pu_mx_congr hfg]) (fun _ => Nat.le_succ _) ht2 hyB (Nat.succ_le_succ (pu_mx_le (fun k hk => (V _ (ht2.1 k hk)).2.1)))
    exact ih (y :: B) _ tr _ e' (tn_K_fV K) V2 (fr.tr ⟨fun _ _ _ => rfl, fun k hk => am_vn (by omega)⟩)
/-- Walk.depthBelow -/
theorem sp_34 (C : tn_C n m ar sg pt hs h) (hA : ∃ rk : Nat → Nat, ∀ x, x < n → ∀ k, k < tn_dg ar sg hs x → rk (tn_ch sg pt hs x k) < rk x) {a : Nat} (ha : a < n)
    (h1 : ∀ (f : Nat → Nat) (h' : am_S), (∀ x, tn_rc n ar sg pt hs (pu_hg hs a) x → f x = tn_vd (fun k => f (tn_ch sg pt hs x k)) (tn_dg ar sg hs x)) → tn_fV h h' → Q h' (.inl (some (.int (nI (f (pu_hg hs a))))))) :
    am_AW tn_G tn_X (34, 0, 0, [some (.ref 3), some (.int (nI a)), none], [], h) Q := by
  refine am_AW.go [7] 60 ?_
  simp only [am_Zs, am_zn_1, am_g3, am_a3, am_kz_l, am_kz_r, am_mem, Bool.false_eq_true, am_Rs, am_R0, am_g2, am_al, am_kk_l, am_kk_r, am_step, am_op, am_one, am_two, am_br, am_inv, am_pp, am_ct, am_in, am_no, am_rc, am_s1, am_cut, am_s2, List.getElem?_cons_zero, List.getElem?_cons_succ, List.set_cons_zero, List.set_cons_succ, Value.category, List.cons_append, List.nil_append, am_f0, am_f1, am_f2, am_f3, am_cm1, am_c0, am_c1, am_c2, am_c3, am_c20, am_c40, am_c400, am_c401, am_c1600, true_and, and_true, true_implies, if_true, if_false, Nat.reduceAdd, Nat.reduceSub, Nat.reduceLT, Nat.reduceLeDiff, Nat.reduceEqDiff, reduceIte, Nat.le_refl, or_false, false_and, false_implies, or_true, true_or, implies_true, pk_us, pk_un, am_vs, am_vn, bx_uu, ne_eq, not_false_eq_true, not_true_eq_false, am_b0, am_b1, Nat.not_lt_zero, am_tl0, am_tl1, am_l1, kr_34, kn_34, kl_34, kc_34_0, kc_34_1, kc_34_2, kl_32, ko_32, kn_32, ka_34_51, kc_34_5, kc_34_6, kc_34_7, kc_34_8, kc_34_9, kf_34_31, kc_34_12, kc_34_15, kc_34_16, kf_34_24, kc_34_19, kc_34_20, kf_34_21, kc_34_23, kc_34_24, kc_34_25, kc_34_26, kc_34_27, kc_34_30, kc_34_31, kc_34_32, kl_35, ko_35, kn_35, ka_34_73, kc_34_35, kc_34_36, kc_34_39, kc_34_42, kc_34_43, kc_34_46, kc_34_47, kf_34_34, kc_34_50, kc_34_51, kl_10, ko_10, kn_10, ka_34_41, kc_34_54, kc_34_55, tn_X0, tn_X1, tn_X2, tn_X3, tn_X4, tn_X5, tn_X6, tn_X7, tn_X8, tn_X9, tn_X10, tn_X11, tn_X12, tn_X13, tn_X14, tn_X15, tn_X16, tn_X17, tn_X18, tn_X19, tn_X20, tn_X21, tn_X22]
  refine sp_32 C hA ha (fun O tr h2 K2 D2 hO f2 => ?_)
  simp only [am_Zs, am_zn_1, am_g3, am_a3, am_kz_l, am_kz_r, am_mem, Bool.false_eq_true, am_Rs, am_R0, am_g2, am_al, am_kk_l, am_kk_r, am_step, am_op, am_one, am_two, am_br, am_inv, am_pp, am_ct, am_in, am_no, am_rc, am_s1, am_cut, am_s2, List.getElem?_cons_zero, List.getElem?_cons_succ, List.set_cons_zero, List.set_cons_succ, Value.category, List.cons_append, List.nil_append, am_f0, am_f1, am_f2, am_f3, am_cm1, am_c0, am_c1, am_c2, am_c3, am_c20, am_c40, am_c400, am_c401, am_c1600, true_and, and_true, true_implies, if_true, if_false, Nat.reduceAdd, Nat.reduceSub, Nat.reduceLT, Nat.reduceLeDiff, Nat.reduceEqDiff, reduceIte, Nat.le_refl, or_false, false_and, false_implies, or_true, true_or, implies_true, pk_us, pk_un, am_vs, am_vn, bx_uu, ne_eq, not_false_eq_true, not_true_eq_false, am_b0, am_b1, Nat.not_lt_zero, am_tl0, am_tl1, am_l1, kr_34, kn_34, kl_34, kc_34_0, kc_34_1, kc_34_2, kl_32, ko_32, kn_32, ka_34_51, kc_34_5, kc_34_6, kc_34_7, kc_34_8, kc_34_9, kf_34_31, kc_34_12, kc_34_15, kc_34_16, kf_34_24, kc_34_19, kc_34_20, kf_34_21, kc_34_23, kc_34_24, kc_34_25, kc_34_26, kc_34_27, kc_34_30, kc_34_31, kc_34_32, kl_35, ko_35, kn_35, ka_34_73, kc_34_35, kc_34_36, kc_34_39, kc_34_42, kc_34_43, kc_34_46, kc_34_47, kf_34_34, kc_34_50, kc_34_51, kl_10, ko_10, kn_10, ka_34_41, kc_34_54, kc_34_55, tn_X0, tn_X1, tn_X2, tn_X3, tn_X4, tn_X5, tn_X6, tn_X7, tn_X8, tn_X9, tn_X10, tn_X11, tn_X12, tn_X13, tn_X14, tn_X15, tn_X16, tn_X17, tn_X18, tn_X19, tn_X20, tn_X21, tn_X22]
  exact sp_34l C ha D2.2.2.1 (by simpa using D2.1) (fun x hx => (D2.2.1 x hx).1) ((hO _).mpr (fun S s0 _ => s0)) (fun f h3 hf f3 => h1 f h3 (fun x hx => hf x ((hO x).mpr hx)) f3) O [] (fun _ => 0) tr h2 (by simp) K2 (fun x hx => (by cases hx)) f2.V
end VA
