/-! Groups: rings, joins. -/
def tn_wr (f : Nat → Int32) (L : List Nat) (x : Int32) : Nat → Int32 := fun j => if j ∈ L then x else f j
theorem tn_wr_cons (f : Nat → Int32) (y : Nat) (L : List Nat) (x : Int32) : tn_wr (upd f y x) L x = tn_wr f (y :: L) x := by
  funext j
  simp only [tn_wr, upd, List.mem_cons]
  by_cases h1 : j ∈ L <;> by_cases h2 : j = y <;> simp [h1, h2]
/-- leadRing, its loop -/
theorem sp_5l (r : Nat → Nat) {s : Nat} {x : Int32} {Q : am_Q} (hs4 : s < 400) : ∀ (L : List Nat) (t i : Nat) (h : am_S), pu_ch r t L s → (∀ y ∈ t :: L, y < 400 ∧ h.2 12 y = nI (r y)) → s ∉ L → i + L.length < 400 → Q (h.1, va_up h.2 11 (tn_wr (h.2 11) (t :: L) x)) (.inl none) →
    am_AW tn_G tn_X (5, 5, 0, [some (.ref 2), some (.int (nI s)), some (.int x), some (.int (nI t)), some (.int (nI i))], [], h) Q := by
  intro L
  induction L with
  | nil =>
    intro t i h hc hy hn hi hQ
    obtain ⟨t4, hr⟩ := hy t List.mem_cons_self
    simp only [List.length_nil, Nat.add_zero] at hi
    refine am_AW.run 18 ?_
    simp only [am_Zs, am_zn_1, am_g3, am_a3, am_kz_l, am_kz_r, am_mem, Bool.false_eq_true, am_Rs, am_R0, am_g2, am_al, am_kk_l, am_kk_r, am_step, am_op, am_one, am_two, am_br, am_inv, am_pp, am_ct, am_in, am_no, am_rc, am_s1, am_cut, am_s2, List.getElem?_cons_zero, List.getElem?_cons_succ, List.set_cons_zero, List.set_cons_succ, Value.category, List.cons_append, List.nil_append, am_f0, am_f1, am_f2, am_f3, am_cm1, am_c0, am_c1, am_c2, am_c3, am_c20, am_c40, am_c400, am_c401, am_c1600, true_and, and_true, true_implies, if_true, if_false, Nat.reduceAdd, Nat.reduceSub, Nat.reduceLT, Nat.reduceLeDiff, Nat.reduceEqDiff, reduceIte, Nat.le_refl, or_false, false_and, false_implies, or_true, true_or, implies_true, pk_us, pk_un, am_vs, am_vn, bx_uu, ne_eq, not_false_eq_true, not_true_eq_false, am_b0, am_b1, Nat.not_lt_zero, am_tl0, am_tl1, kr_5, kn_5, kl_5, kc_5_0, kc_5_1, kc_5_2, kc_5_3, kc_5_5, kc_5_7, kc_5_10, kc_5_13, kc_5_14, kf_5_9, kc_5_17, kc_5_18, kc_5_19, kc_5_20, kc_5_21, kf_5_15, kc_5_24, kc_5_25, kc_5_26, kc_5_27, kc_5_28, kc_5_29, kc_5_32, kc_5_35, kc_5_38, kc_5_41, tn_X0, tn_X1, tn_X2, tn_X3, tn_X4, tn_X5, tn_X6, tn_X7, tn_X8, tn_X9, tn_X10, tn_X11, tn_X12, tn_X13, tn_X14, tn_X15, tn_X16, tn_X17, tn_X18, tn_X19, tn_X20, tn_X21, tn_X22]
    rw [cl_ (by omega), hr, show r t = s from hc, nI_leI (by omega) (by omega)]
    refine ⟨fun q => by omega, fun _ => ⟨vi_ t4 (by omega), vi_ t4 (by omega), fun q => absurd rfl q, fun _ => ?_⟩⟩
    have e : upd (h.2 11) t x = tn_wr (h.2 11) [t] x := by
      rw [← tn_wr_cons]
      funext j
      simp [tn_wr]
    rw [e]
    exact hQ
  | cons y L ih =>
    intro t i h hc hy hn hi hQ
    obtain ⟨t4, hr⟩ := hy t List.mem_cons_self
    obtain ⟨y4, -⟩ := hy y (List.mem_cons_of_mem _ List.mem_cons_self)
    simp only [List.length_cons] at hi
    have hys : y ≠ s := fun q => hn (by rw [← q]; exact List.mem_cons_self)
    refine am_AW.run 18 ?_
    simp only [am_Zs, am_zn_1, am_g3, am_a3, am_kz_l, am_kz_r, am_mem, Bool.false_eq_true, am_Rs, am_R0, am_g2, am_al, am_kk_l, am_kk_r, am_step, am_op, am_one, am_two, am_br, am_inv, am_pp, am_ct, am_in, am_no, am_rc, am_s1, am_cut, am_s2, List.getElem?_cons_zero, List.getElem?_cons_succ, List.set_cons_zero, List.set_cons_succ, Value.category, List.cons_append, List.nil_append, am_f0, am_f1, am_f2, am_f3, am_cm1, am_c0, am_c1, am_c2, am_c3, am_c20, am_c40, am_c400, am_c401, am_c1600, true_and, and_true, true_implies, if_true, if_false, Nat.reduceAdd, Nat.reduceSub, Nat.reduceLT, Nat.reduceLeDiff, Nat.reduceEqDiff, reduceIte, Nat.le_refl, or_false, false_and, false_implies, or_true, true_or, implies_true, pk_us, pk_un, am_vs, am_vn, bx_uu, ne_eq, not_false_eq_true, not_true_eq_false, am_b0, am_b1, Nat.not_lt_zero, am_tl0, am_tl1, kr_5, kn_5, kl_5, kc_5_0, kc_5_1, kc_5_2, kc_5_3, kc_5_5, kc_5_7, kc_5_10, kc_5_13, kc_5_14, kf_5_9, kc_5_17, kc_5_18, kc_5_19, kc_5_20, kc_5_21, kf_5_15, kc_5_24, kc_5_25, kc_5_26, kc_5_27, kc_5_28, kc_5_29, kc_5_32, kc_5_35, kc_5_38, kc_5_41, tn_X0, tn_X1, tn_X2, tn_X3, tn_X4, tn_X5, tn_X6, tn_X7, tn_X8, tn_X9, tn_X10, tn_X11, tn_X12, tn_X13, tn_X14, tn_X15, tn_X16, tn_X17, tn_X18, tn_X19, tn_X20, tn_X21, tn_X22]
    rw [cl_ (by omega), hr, show r t = y from hc.1, nI_leI (by omega) (by omega), nI_eq (by omega) (by omega), nI_add]
    refine ⟨fun q => by omega, fun _ => ⟨vi_ t4 (by omega), vi_ t4 (by omega), fun _ => ?_, fun q => absurd q hys⟩⟩
    refine ih y (i + 1) _ hc.2 (fun z hz => ?_) (fun q => hn (List.mem_cons_of_mem _ q)) (by omega) ?_
    · simp only [am_vn (show (12 : Nat) ≠ 11 by decide)]
      exact hy z (List.mem_cons_of_mem _ hz)
    · simp only [am_vs, bx_uu]
      rw [tn_wr_cons]
      exact hQ
/-- Groups.leadRing -/
theorem sp_5 (r : Nat → Nat) {s : Nat} {x : Int32} {Q : am_Q} {h : am_S} {L : List Nat} (hc : pu_ch r s L s) (hy : ∀ y ∈ s :: L, y < 400 ∧ h.2 12 y = nI (r y)) (hn : s ∉ L) (hl : L.length < 400) (hQ : Q (h.1, va_up h.2 11 (tn_wr (h.2 11) (s :: L) x)) (.inl none)) :
    am_AW tn_G tn_X (5, 0, 0, [some (.ref 2), some (.int (nI s)), some (.int x), none, none], [], h) Q := by
  refine am_AW.run 4 ?_
  simp only [am_Zs, am_zn_1, am_g3, am_a3, am_kz_l, am_kz_r, am_mem, Bool.false_eq_true, am_Rs, am_R0, am_g2, am_al, am_kk_l, am_kk_r, am_step, am_op, am_one, am_two, am_br, am_inv, am_pp, am_ct, am_in, am_no, am_rc, am_s1, am_cut, am_s2, List.getElem?_cons_zero, List.getElem?_cons_succ, List.set_cons_zero, List.set_cons_succ, Value.category, List.cons_append, List.nil_append, am_f0, am_f1, am_f2, am_f3, am_cm1, am_c0, am_c1, am_c2, am_c3, am_c20, am_c40, am_c400, am_c401, am_c1600, true_and, and_true, true_implies, if_true, if_false, Nat.reduceAdd, Nat.reduceSub, Nat.reduceLT, Nat.reduceLeDiff, Nat.reduceEqDiff, reduceIte, Nat.le_refl, or_false, false_and, false_implies, or_true, true_or, implies_true, pk_us, pk_un, am_vs, am_vn, bx_uu, ne_eq, not_false_eq_true, not_true_eq_false, am_b0, am_b1, Nat.not_lt_zero, am_tl0, am_tl1, kr_5, kn_5, kl_5, kc_5_0, kc_5_1, kc_5_2, kc_5_3, kc_5_5, kc_5_7, kc_5_10, kc_5_13, kc_5_14, kf_5_9, kc_5_17, kc_5_18, kc_5_19, kc_5_20, kc_5_21, kf_5_15, kc_5_24, kc_5_25, kc_5_26, kc_5_27, kc_5_28, kc_5_29, kc_5_32, kc_5_35, kc_5_38, kc_5_41, tn_X0, tn_X1, tn_X2, tn_X3, tn_X4, tn_X5, tn_X6, tn_X7, tn_X8, tn_X9, tn_X10, tn_X11, tn_X12, tn_X13, tn_X14, tn_X15, tn_X16, tn_X17, tn_X18, tn_X19, tn_X20, tn_X21, tn_X22]
  exact sp_5l r (hy s List.mem_cons_self).1 L s 0 h hc hy hn (by omega) hQ
/-- Groups.swapLinks -/
theorem sp_6 {a b : Nat} {Q : am_Q} {h : am_S} (ha : a < 400) (hb : b < 400) (hQ : Q (h.1, va_up h.2 12 (upd (upd (h.2 12) a (h.2 12 b)) b (h.2 12 a))) (.inl none)) :
    am_AW tn_G tn_X (6, 0, 0, [some (.ref 2), some (.int (nI a)), some (.int (nI b)), none], [], h) Q := by
  refine am_AW.run 19 ?_
  simp only [am_Zs, am_zn_1, am_g3, am_a3, am_kz_l, am_kz_r, am_mem, Bool.false_eq_true, am_Rs, am_R0, am_g2, am_al, am_kk_l, am_kk_r, am_step, am_op, am_one, am_two, am_br, am_inv, am_pp, am_ct, am_in, am_no, am_rc, am_s1, am_cut, am_s2, List.getElem?_cons_zero, List.getElem?_cons_succ, List.set_cons_zero, List.set_cons_succ, Value.category, List.cons_append, List.nil_append, am_f0, am_f1, am_f2, am_f3, am_cm1, am_c0, am_c1, am_c2, am_c3, am_c20, am_c40, am_c400, am_c401, am_c1600, true_and, and_true, true_implies, if_true, if_false, Nat.reduceAdd, Nat.reduceSub, Nat.reduceLT, Nat.reduceLeDiff, Nat.reduceEqDiff, reduceIte, Nat.le_refl, or_false, false_and, false_implies, or_true, true_or, implies_true, pk_us, pk_un, am_vs, am_vn, bx_uu, ne_eq, not_false_eq_true, not_true_eq_false, am_b0, am_b1, Nat.not_lt_zero, am_tl0, am_tl1, kr_6, kn_6, kl_6, kc_6_0, kc_6_1, kf_6_15, kc_6_4, kc_6_5, kc_6_6, kc_6_7, kc_6_8, kc_6_11, kc_6_12, kc_6_13, kc_6_16, kc_6_17, kc_6_18, kc_6_19, kc_6_20, kc_6_23, kc_6_24, kc_6_25, kc_6_26, tn_X0, tn_X1, tn_X2, tn_X3, tn_X4, tn_X5, tn_X6, tn_X7, tn_X8, tn_X9, tn_X10, tn_X11, tn_X12, tn_X13, tn_X14, tn_X15, tn_X16, tn_X17, tn_X18, tn_X19, tn_X20, tn_X21, tn_X22]
  rw [cl_ (by omega), cl_ (by omega)]
  exact ⟨vi_ ha (by omega), vi_ hb (by omega), vi_ ha (by omega), vi_ hb (by omega), hQ⟩
/-- what Groups' writers leave alone -/
def tn_fG (h h' : am_S) : Prop := (∀ i, i ≠ 4 → h'.1 i = h.1 i) ∧ ∀ k, (k < 11 ∨ 14 < k) → h'.2 k = h.2 k
theorem tn_fG.rf {h : am_S} : tn_fG h h := ⟨fun _ _ => rfl, fun _ _ => rfl⟩
theorem tn_fG.tr {h h1 h2 : am_S} (a : tn_fG h h1) (b : tn_fG h1 h2) : tn_fG h h2 := ⟨fun i hi => (b.1 i hi).trans (a.1 i hi), fun k hk => (b.2 k hk).trans (a.2 k hk)⟩
theorem tn_C.mk' {n m : Nat} {ar : Nat → Nat} {sg : Nat → Option Nat} {pt : Nat → Nat → Nat} {hs hs' : List (Nat × Nat)} {h h' : am_S} (C : tn_C n m ar sg pt hs h) (fr : tn_fG h h') (hV : pu_V n hs') (h4 : h'.1 4 = nI hs'.length)
    (hg : ∀ t, t < n → h'.2 11 t = nI (pu_hg hs' t) ∧ h'.2 12 t = nI (pu_hr hs' t) ∧ h'.2 13 t = tn_o (pu_hs sg hs' t)) (ht : ∀ (i : Nat) (q : Nat × Nat), hs'.reverse[i]? = some q → h'.2 14 i = nI q.2) : tn_C n m ar sg pt hs' h' := by
  obtain ⟨c1, c2, c3, c4, c5, c6, c7, c8, c9⟩ := C
  refine ⟨⟨by rw [fr.1 2 (by decide)]; exact c1.1, c1.2⟩, ⟨by rw [fr.1 3 (by decide)]; exact c2.1, c2.2⟩, h4, fun s hs9 => ?_, fun t ht9 => ?_, c6, hV, hg, ht⟩
  · rw [fr.2 8 (by omega)]; exact c4 s hs9
  · rw [fr.2 9 (by omega), fr.2 10 (by omega)]; exact c5 t ht9
section JN
variable {n m : Nat} {ar : Nat → Nat} {sg : Nat → Option Nat} {pt : Nat → Nat → Nat} {hs : List (Nat × Nat)} {h : am_S} {Q : am_Q}
theorem tn_ring_ok (C : tn_C n m ar sg pt hs h) {a : Nat} (ha : a < n) (hg : pu_hg hs a = a) : pu_ch (pu_hr hs) a (pu_ht hs a) a ∧ (∀ y ∈ a :: pu_ht hs a, y < n) ∧ a ∉ pu_ht hs a ∧ (pu_ht hs a).length < n := by
  obtain ⟨c1, d1, m1⟩ := pu_ring C.V a hg
  have lt : ∀ y ∈ a :: pu_ht hs a, y < n := fun y hy => by
    apply Nat.lt_of_not_le
    intro q
    have e1 := (m1 y).mp hy
    have e2 := pu_hg_new C.V y q
    omega
  refine ⟨c1, lt, (List.nodup_cons.mp d1).1, ?_⟩
  have := pu_nd_len d1 lt
  simp only [List.length_cons] at this
  omega
/-- join, from the two leaders on -/
theorem sp_4c (C : tn_C n m ar sg pt hs h) {w l : Nat} (hV : pu_V n ((w, l) :: hs)) (x y : Value) (hQ : ∀ h', tn_C n m ar sg pt ((w, l) :: hs) h' → tn_fG h h' → Q h' (.inl none)) :
    am_AW tn_G tn_X (4, 49, 0, [some (.ref 2), some x, some y, some (.int (nI w)), some (.int (nI l))], [], h) Q := by
  obtain ⟨h1, h2, h3, h4, h5⟩ := id hV
  simp only at h1 h2 h3 h4
  have hn := C.le
  have hlen := pu_len hV (by omega)
  simp only [List.length_cons] at hlen
  obtain ⟨r1, r2, r3, r4⟩ := tn_ring_ok C h2 h4
  have hm := (pu_ring C.V l h4).2.2
  refine am_AW.run 36 ?_
  simp only [am_Zs, am_zn_1, am_g3, am_a3, am_kz_l, am_kz_r, am_mem, Bool.false_eq_true, am_Rs, am_R0, am_g2, am_al, am_kk_l, am_kk_r, am_step, am_op, am_one, am_two, am_br, am_inv, am_pp, am_ct, am_in, am_no, am_rc, am_s1, am_cut, am_s2, List.getElem?_cons_zero, List.getElem?_cons_succ, List.set_cons_zero, List.set_cons_succ, Value.category, List.cons_append, List.nil_append, am_f0, am_f1, am_f2, am_f3, am_cm1, am_c0, am_c1, am_c2, am_c3, am_c20, am_c40, am_c400, am_c401, am_c1600, true_and, and_true, true_implies, if_true, if_false, Nat.reduceAdd, Nat.reduceSub, Nat.reduceLT, Nat.reduceLeDiff, Nat.reduceEqDiff, reduceIte, Nat.le_refl, or_false, false_and, false_implies, or_true, true_or, implies_true, pk_us, pk_un, am_vs, am_vn, bx_uu, ne_eq, not_false_eq_true, not_true_eq_false, am_b0, am_b1, Nat.not_lt_zero, am_tl0, am_tl1, kr_4, kn_4, kl_4, kc_4_0, kc_4_1, kf_4_9, kc_4_4, kc_4_5, kc_4_6, kc_4_7, kc_4_10, kc_4_11, kc_4_12, kc_4_15, kc_4_16, kc_4_17, kc_4_20, kc_4_21, kc_4_22, kc_4_23, kc_4_26, kc_4_27, kc_4_28, ka_4_51, kc_4_31, kc_4_32, kc_4_33, kc_4_36, kc_4_37, kc_4_38, kc_4_39, kc_4_42, kc_4_43, kc_4_44, ka_4_56, kc_4_47, kc_4_49, kc_4_50, kc_4_52, kc_4_53, kl_5, ko_5, kn_5, ka_4_59, kc_4_56, kc_4_57, kc_4_58, kc_4_60, kl_6, ko_6, kn_6, ka_4_63, kc_4_63, kc_4_64, kf_4_18, kc_4_67, kc_4_68, kc_4_69, kc_4_70, kc_4_73, kc_4_74, kc_4_77, kc_4_78, kc_4_79, kc_4_82, kc_4_84, kc_4_85, kc_4_86, kc_4_87, kf_4_21, kc_4_90, kc_4_91, kf_4_24, kc_4_94, kc_4_96, kc_4_97, kc_4_98, kc_4_99, kc_4_102, kc_4_103, kc_4_104, kc_4_107, tn_X0, tn_X1, tn_X2, tn_X3, tn_X4, tn_X5, tn_X6, tn_X7, tn_X8, tn_X9, tn_X10, tn_X11, tn_X12, tn_X13, tn_X14, tn_X15, tn_X16, tn_X17, tn_X18, tn_X19, tn_X20, tn_X21, tn_X22]
  refine sp_5 (pu_hr hs) r1 (fun y hy => ⟨by have := r2 y hy; omega, C.rg (r2 y hy)⟩) r3 (by omega) ?_
  simp only [am_Zs, am_zn_1, am_g3, am_a3, am_kz_l, am_kz_r, am_mem, Bool.false_eq_true, am_Rs, am_R0, am_g2, am_al, am_kk_l, am_kk_r, am_step, am_op, am_one, am_two, am_br, am_inv, am_pp, am_ct, am_in, am_no, am_rc, am_s1, am_cut, am_s2, List.getElem?_cons_zero, List.getElem?_cons_succ, List.set_cons_zero, List.set_cons_succ, Value.category, List.cons_append, List.nil_append, am_f0, am_f1, am_f2, am_f3, am_cm1, am_c0, am_c1, am_c2, am_c3, am_c20, am_c40, am_c400, am_c401, am_c1600, true_and, and_true, true_implies, if_true, if_false, Nat.reduceAdd, Nat.reduceSub, Nat.reduceLT, Nat.reduceLeDiff, Nat.reduceEqDiff, reduceIte, Nat.le_refl, or_false, false_and, false_implies, or_true, true_or, implies_true, pk_us, pk_un, am_vs, am_vn, bx_uu, ne_eq, not_false_eq_true, not_true_eq_false, am_b0, am_b1, Nat.not_lt_zero, am_tl0, am_tl1, kr_4, kn_4, kl_4, kc_4_0, kc_4_1, kf_4_9, kc_4_4, kc_4_5, kc_4_6, kc_4_7, kc_4_10, kc_4_11, kc_4_12, kc_4_15, kc_4_16, kc_4_17, kc_4_20, kc_4_21, kc_4_22, kc_4_23, kc_4_26, kc_4_27, kc_4_28, ka_4_51, kc_4_31, kc_4_32, kc_4_33, kc_4_36, kc_4_37, kc_4_38, kc_4_39, kc_4_42, kc_4_43, kc_4_44, ka_4_56, kc_4_47, kc_4_49, kc_4_50, kc_4_52, kc_4_53, kl_5, ko_5, kn_5, ka_4_59, kc_4_56, kc_4_57, kc_4_58, kc_4_60, kl_6, ko_6, kn_6, ka_4_63, kc_4_63, kc_4_64, kf_4_18, kc_4_67, kc_4_68, kc_4_69, kc_4_70, kc_4_73, kc_4_74, kc_4_77, kc_4_78, kc_4_79, kc_4_82, kc_4_84, kc_4_85, kc_4_86, kc_4_87, kf_4_21, kc_4_90, kc_4_91, kf_4_24, kc_4_94, kc_4_96, kc_4_97, kc_4_98, kc_4_99, kc_4_102, kc_4_103, kc_4_104, kc_4_107, tn_X0, tn_X1, tn_X2, tn_X3, tn_X4, tn_X5, tn_X6, tn_X7, tn_X8, tn_X9, tn_X10, tn_X11, tn_X12, tn_X13, tn_X14, tn_X15, tn_X16, tn_X17, tn_X18, tn_X19, tn_X20, tn_X21, tn_X22]
  refine sp_6 (by omega) (by omega) ?_
  simp only [am_Zs, am_zn_1, am_g3, am_a3, am_kz_l, am_kz_r, am_mem, Bool.false_eq_true, am_Rs, am_R0, am_g2, am_al, am_kk_l, am_kk_r, am_step, am_op, am_one, am_two, am_br, am_inv, am_pp, am_ct, am_in, am_no, am_rc, am_s1, am_cut, am_s2, List.getElem?_cons_zero, List.getElem?_cons_succ, List.set_cons_zero, List.set_cons_succ, Value.category, List.cons_append, List.nil_append, am_f0, am_f1, am_f2, am_f3, am_cm1, am_c0, am_c1, am_c2, am_c3, am_c20, am_c40, am_c400, am_c401, am_c1600, true_and, and_true, true_implies, if_true, if_false, Nat.reduceAdd, Nat.reduceSub, Nat.reduceLT, Nat.reduceLeDiff, Nat.reduceEqDiff, reduceIte, Nat.le_refl, or_false, false_and, false_implies, or_true, true_or, implies_true, pk_us, pk_un, am_vs, am_vn, bx_uu, ne_eq, not_false_eq_true, not_true_eq_false, am_b0, am_b1, Nat.not_lt_zero, am_tl0, am_tl1, kr_4, kn_4, kl_4, kc_4_0, kc_4_1, kf_4_9, kc_4_4, kc_4_5, kc_4_6, kc_4_7, kc_4_10, kc_4_11, kc_4_12, kc_4_15, kc_4_16, kc_4_17, kc_4_20, kc_4_21, kc_4_22, kc_4_23, kc_4_26, kc_4_27, kc_4_28, ka_4_51, kc_4_31, kc_4_32, kc_4_33, kc_4_36, kc_4_37, kc_4_38, kc_4_39, kc_4_42, kc_4_43, kc_4_44, ka_4_56, kc_4_47, kc_4_49, kc_4_50, kc_4_52, kc_4_53, kl_5, ko_5, kn_5, ka_4_59, kc_4_56, kc_4_57, kc_4_58, kc_4_60, kl_6, ko_6, kn_6, ka_4_63, kc_4_63, kc_4_64, kf_4_18, kc_4_67, kc_4_68, kc_4_69, kc_4_70, kc_4_73, kc_4_74, kc_4_77, kc_4_78, kc_4_79, kc_4_82, kc_4_84, kc_4_85, kc_4_86, kc_4_87, kf_4_21, kc_4_90, kc_4_91, kf_4_24, kc_4_94, kc_4_96, kc_4_97, kc_4_98, kc_4_99, kc_4_102, kc_4_103, kc_4_104, kc_4_107, tn_X0, tn_X1, tn_X2, tn_X3, tn_X4, tn_X5, tn_X6, tn_X7, tn_X8, tn_X9, tn_X10, tn_X11, tn_X12, tn_X13, tn_X14, tn_X15, tn_X16, tn_X17, tn_X18, tn_X19, tn_X20, tn_X21, tn_X22]
  rw [cl_ (by omega), cl_ (by omega), C.sp (show w < n by omega), C.sp h2, C.2.2.1, cl_ (by omega), C.spn (show w < n by omega), nI_add]
  have hld : ∀ t, t < n → tn_wr (h.2 11) (l :: pu_ht hs l) (nI w) t = nI (pu_hg ((w, l) :: hs) t) := fun t ht => by
    simp only [tn_wr, hm t, pu_hg]
    by_cases e : pu_hg hs t = l
    · rw [if_pos e, if_pos e]
    · rw [if_neg e, if_neg e, C.ld ht]
  have hrg : ∀ t, t < n → upd (upd (h.2 12) w (h.2 12 l)) l (h.2 12 w) t = nI (pu_hr ((w, l) :: hs) t) := fun t ht => by
    rw [C.rg h2, C.rg (show w < n by omega)]
    simp only [upd, pu_hr]
    by_cases e1 : t = l
    · subst e1
      rw [if_pos rfl, if_neg (by omega), if_pos rfl]
    · rw [if_neg e1, if_neg e1]
      by_cases e2 : t = w
      · rw [if_pos e2, if_pos e2]
      · rw [if_neg e2, if_neg e2, C.rg ht]
  have htr : ∀ (i : Nat) (q : Nat × Nat), ((w, l) :: hs).reverse[i]? = some q → upd (h.2 14) hs.length (nI l) i = nI q.2 := fun i q hq => by
    rw [List.reverse_cons] at hq
    simp only [upd]
    by_cases e : i = hs.length
    · subst e
      rw [if_pos rfl]
      rw [List.getElem?_append_right (by simp)] at hq
      simp at hq
      rw [← hq]
    · rw [if_neg e]
      have hi : i < hs.reverse.length := by
        have := (List.getElem?_eq_some_iff.mp hq).1
        simp at this
        simp
        omega
      rw [List.getElem?_append_left hi] at hq
      exact C.2.2.2.2.2.2.2.2 i q hq
  refine ⟨vi_ (by omega) (by omega), fun hne => ?_, fun e => ⟨vi_ (by omega) (by omega), vi_ (by omega) (by omega), ?_⟩⟩
  · refine ⟨vi_ (by omega) (by omega), hQ _ (C.mk' ⟨fun i hi => ?_, fun k hk => ?_⟩ hV ?_ (fun t ht => ⟨?_, ?_, ?_⟩) (fun i q hq => ?_)) ⟨fun i hi => ?_, fun k hk => ?_⟩⟩
    · simp only [pk_un hi]
    · simp only [am_vn (show k ≠ 14 by omega), am_vn (show k ≠ 12 by omega), am_vn (show k ≠ 11 by omega)]
    · simp only [pk_us, List.length_cons]
    · simp only [am_vn (show (11 : Nat) ≠ 14 by decide), am_vn (show (11 : Nat) ≠ 12 by decide), am_vs]
      exact hld t ht
    · simp only [am_vn (show (12 : Nat) ≠ 14 by decide), am_vs]
      exact hrg t ht
    · simp only [am_vn (show (13 : Nat) ≠ 14 by decide), am_vn (show (13 : Nat) ≠ 12 by decide), am_vn (show (13 : Nat) ≠ 11 by decide)]
      rw [C.sp ht]
      simp only [pu_hs]
      by_cases e2 : t = w
      · rw [if_pos e2, e2]
        cases e3 : pu_hs sg hs w with
        | none => exact absurd e3 hne
        | some z => rfl
      · rw [if_neg e2]
    · simp only [am_vs]
      exact htr i q hq
    · simp only [pk_un hi]
    · simp only [am_vn (show k ≠ 14 by omega), am_vn (show k ≠ 12 by omega), am_vn (show k ≠ 11 by omega)]
  · refine ⟨vi_ (by omega) (by omega), hQ _ (C.mk' ⟨fun i hi => ?_, fun k hk => ?_⟩ hV ?_ (fun t ht => ⟨?_, ?_, ?_⟩) (fun i q hq => ?_)) ⟨fun i hi => ?_, fun k hk => ?_⟩⟩
    · simp only [pk_un hi]
    · simp only [am_vn (show k ≠ 14 by omega), am_vn (show k ≠ 13 by omega), am_vn (show k ≠ 12 by omega), am_vn (show k ≠ 11 by omega)]
    · simp only [pk_us, List.length_cons]
    · simp only [am_vn (show (11 : Nat) ≠ 14 by decide), am_vn (show (11 : Nat) ≠ 13 by decide), am_vn (show (11 : Nat) ≠ 12 by decide), am_vs]
      exact hld t ht
    · simp only [am_vn (show (12 : Nat) ≠ 14 by decide), am_vn (show (12 : Nat) ≠ 13 by decide), am_vs]
      exact hrg t ht
    · simp only [am_vn (show (13 : Nat) ≠ 14 by decide), am_vs, upd, pu_hs]
      by_cases e2 : t = w
      · rw [if_pos e2, if_pos e2, e]
      · rw [if_neg e2, if_neg e2, C.sp ht]
    · simp only [am_vs]
      exact htr i q hq
    · simp only [pk_un hi]
    · simp only [am_vn (show k ≠ 14 by omega), am_vn (show k ≠ 13 by omega), am_vn (show k ≠ 12 by omega), am_vn (show k ≠ 11 by omega)]
/-- Groups.join -/
theorem sp_4 (C : tn_C n m ar sg pt hs h) {a b : Nat} (ha : a < n) (hb : b < n) (hQ : ∀ h', tn_C n m ar sg pt (pu_jn hs a b) h' → tn_fG h h' → Q h' (.inl none)) :
    am_AW tn_G tn_X (4, 0, 0, [some (.ref 2), some (.int (nI a)), some (.int (nI b)), none, none], [], h) Q := by
  have hn := C.le
  have ga := C.g ha
  have gb := C.g hb
  have hV := pu_jn_V C.V ha hb
  refine am_AW.run 29 ?_
  simp only [am_Zs, am_zn_1, am_g3, am_a3, am_kz_l, am_kz_r, am_mem, Bool.false_eq_true, am_Rs, am_R0, am_g2, am_al, am_kk_l, am_kk_r, am_step, am_op, am_one, am_two, am_br, am_inv, am_pp, am_ct, am_in, am_no, am_rc, am_s1, am_cut, am_s2, List.getElem?_cons_zero, List.getElem?_cons_succ, List.set_cons_zero, List.set_cons_succ, Value.category, List.cons_append, List.nil_append, am_f0, am_f1, am_f2, am_f3, am_cm1, am_c0, am_c1, am_c2, am_c3, am_c20, am_c40, am_c400, am_c401, am_c1600, true_and, and_true, true_implies, if_true, if_false, Nat.reduceAdd, Nat.reduceSub, Nat.reduceLT, Nat.reduceLeDiff, Nat.reduceEqDiff, reduceIte, Nat.le_refl, or_false, false_and, false_implies, or_true, true_or, implies_true, pk_us, pk_un, am_vs, am_vn, bx_uu, ne_eq, not_false_eq_true, not_true_eq_false, am_b0, am_b1, Nat.not_lt_zero, am_tl0, am_tl1, kr_4, kn_4, kl_4, kc_4_0, kc_4_1, kf_4_9, kc_4_4, kc_4_5, kc_4_6, kc_4_7, kc_4_10, kc_4_11, kc_4_12, kc_4_15, kc_4_16, kc_4_17, kc_4_20, kc_4_21, kc_4_22, kc_4_23, kc_4_26, kc_4_27, kc_4_28, ka_4_51, kc_4_31, kc_4_32, kc_4_33, kc_4_36, kc_4_37, kc_4_38, kc_4_39, kc_4_42, kc_4_43, kc_4_44, ka_4_56, kc_4_47, kc_4_49, kc_4_50, kc_4_52, kc_4_53, kl_5, ko_5, kn_5, ka_4_59, kc_4_56, kc_4_57, kc_4_58, kc_4_60, kl_6, ko_6, kn_6, ka_4_63, kc_4_63, kc_4_64, kf_4_18, kc_4_67, kc_4_68, kc_4_69, kc_4_70, kc_4_73, kc_4_74, kc_4_77, kc_4_78, kc_4_79, kc_4_82, kc_4_84, kc_4_85, kc_4_86, kc_4_87, kf_4_21, kc_4_90, kc_4_91, kf_4_24, kc_4_94, kc_4_96, kc_4_97, kc_4_98, kc_4_99, kc_4_102, kc_4_103, kc_4_104, kc_4_107, tn_X0, tn_X1, tn_X2, tn_X3, tn_X4, tn_X5, tn_X6, tn_X7, tn_X8, tn_X9, tn_X10, tn_X11, tn_X12, tn_X13, tn_X14, tn_X15, tn_X16, tn_X17, tn_X18, tn_X19, tn_X20, tn_X21, tn_X22]
  rw [cl_ (by omega), cl_ (by omega), C.ld ha, C.ld hb, nI_eq (by omega) (by omega)]
  refine ⟨vi_ (by omega) (by omega), vi_ (by omega) (by omega), fun hne => ⟨vi_ (by omega) (by omega), vi_ (by omega) (by omega), vi_ (by omega) (by omega), vi_ (by omega) (by omega), ?_⟩, fun e => ?_⟩
  · unfold pu_jn at hV hQ
    rw [if_neg hne] at hV hQ
    by_cases l : pu_hg hs a < pu_hg hs b
    · rw [if_pos l] at hV hQ
      rw [if_neg (nI_nlt (by omega) (by omega)), if_pos (nI_lt l (by omega))]
      exact sp_4c C hV _ _ hQ
    · rw [if_neg l] at hV hQ
      rw [if_pos (nI_lt (by omega) (by omega)), if_neg (nI_nlt (by omega) (by omega))]
      exact sp_4c C hV _ _ hQ
  · unfold pu_jn at hQ
    rw [if_pos e] at hQ
    exact hQ h C tn_fG.rf
end JN
