/-! Walk: through all groups, through a tree. -/
theorem pu_DS.len {n : Nat} {deg : Nat → Nat} {ch : Nat → Nat → Nat} {R : Nat → Prop} {P O : List Nat} {tr : Nat → Nat} (h : pu_DS n deg ch R P O tr) : P.length + O.length ≤ n := by
  have := pu_nd_len h.1 (fun y hy => (h.2.1 y hy).1)
  rwa [List.length_append] at this
theorem pu_mw_x {deg : Nat → Nat} {P P' O O' : List Nat} {tr tr' : Nat → Nat} {t : Nat} (h1 : t ∈ O' ↔ t ∈ O) (h2 : t ∈ P' ↔ t ∈ P) (h3 : tr' t = tr t) : pu_mw deg P' O' tr' t = pu_mw deg P O tr t := by
  simp only [pu_mw, h1, h2, h3]
theorem pu_rev_ind {p : List Nat → Prop} (h0 : p []) (hs : ∀ A y, p A → p (A ++ [y])) (A : List Nat) : p A := by
  have key : ∀ B : List Nat, p B.reverse := by
    intro B
    induction B with
    | nil => exact h0
    | cons y B ih => rw [List.reverse_cons]; exact hs _ y ih
  have := key A.reverse
  rwa [List.reverse_reverse] at this
section RE
variable {n m : Nat} {ar : Nat → Nat} {sg : Nat → Option Nat} {pt : Nat → Nat → Nat} {hs : List (Nat × Nat)} {h : am_S} {Q : am_Q} {R : Nat → Prop}
/-- reach, once a part on the path has been met -/
theorem sp_28f {r : Int32} {i : Nat} {h1 : am_S} (hi : i ≤ 1600) (hQ : Q h1 (.inl (some (.int (nI 0))))) : am_AW tn_G tn_X (28, 8, 0, [some (.ref 3), some (.int r), some (.int (nI 0)), some (.int (nI i))], [], h1) Q := by
  refine am_AW.go [8] 60 ?_
  simp only [am_Zs, am_zn_1, am_g3, am_a3, am_kz_l, am_kz_r, am_mem, Bool.false_eq_true, am_Rs, am_R0, am_g2, am_al, am_kk_l, am_kk_r, am_step, am_op, am_one, am_two, am_br, am_inv, am_pp, am_ct, am_in, am_no, am_rc, am_s1, am_cut, am_s2, List.getElem?_cons_zero, List.getElem?_cons_succ, List.set_cons_zero, List.set_cons_succ, Value.category, List.cons_append, List.nil_append, am_f0, am_f1, am_f2, am_f3, am_cm1, am_c0, am_c1, am_c2, am_c3, am_c20, am_c40, am_c400, am_c401, am_c1600, true_and, and_true, true_implies, if_true, if_false, Nat.reduceAdd, Nat.reduceSub, Nat.reduceLT, Nat.reduceLeDiff, Nat.reduceEqDiff, reduceIte, Nat.le_refl, or_false, false_and, false_implies, or_true, true_or, implies_true, pk_us, pk_un, am_vs, am_vn, bx_uu, ne_eq, not_false_eq_true, not_true_eq_false, am_b0, am_b1, Nat.not_lt_zero, am_tl0, am_tl1, kr_28, kn_28, kl_28, kc_28_0, kc_28_1, kc_28_2, kl_29, ko_29, kn_29, ka_28_88, kc_28_5, kc_28_6, kc_28_7, kc_28_8, kc_28_9, kc_28_12, kc_28_15, kc_28_16, kc_28_19, kc_28_20, kf_28_27, kc_28_23, kc_28_26, kc_28_27, kc_28_28, kf_28_18, kc_28_31, kc_28_32, kc_28_35, kc_28_36, kc_28_37, kc_28_38, kl_30, ko_30, kn_30, ka_28_91, kc_28_41, kc_28_42, kc_28_45, kc_28_48, kc_28_49, tn_X0, tn_X1, tn_X2, tn_X3, tn_X4, tn_X5, tn_X6, tn_X7, tn_X8, tn_X9, tn_X10, tn_X11, tn_X12, tn_X13, tn_X14, tn_X15, tn_X16, tn_X17, tn_X18, tn_X19, tn_X20, tn_X21, tn_X22]
  exact ⟨fun _ => hQ, fun _ => ⟨fun _ => hQ, fun q => absurd nI_0 q⟩⟩
/-- reach, its loop -/
theorem sp_28l (C : tn_C n m ar sg pt hs h) (hR : ∀ x, x < n → R x → ∀ k, k < tn_dg ar sg hs x → R (tn_ch sg pt hs x k)) (S0 : List Nat) (r : Int32)
    (h1 : ∀ O tr h', tn_K [] O tr h' → pu_DS n (tn_dg ar sg hs) (tn_ch sg pt hs) R [] O tr → (∀ y ∈ S0, y ∈ O) → tn_fK h h' → Q h' (.inl (some (.int (nI 1)))))
    (h0 : ∀ h', (∀ rk : Nat → Nat, ¬ ∀ x, x < n → ∀ k, k < tn_dg ar sg hs x → rk (tn_ch sg pt hs x k) < rk x) → tn_fK h h' → Q h' (.inl (some (.int (nI 0))))) :
    ∀ (d i : Nat) (P O : List Nat) (tr : Nat → Nat) (h2 : am_S), pu_sm (pu_mw (tn_dg ar sg hs) P O tr) n = d → d + i ≤ 1600 → tn_K P O tr h2 → pu_DS n (tn_dg ar sg hs) (tn_ch sg pt hs) R P O tr → (∀ y ∈ S0, y ∈ P ++ O) → tn_fK h h2 →
      am_AW tn_G tn_X (28, 8, 0, [some (.ref 3), some (.int r), some (.int (nI 1)), some (.int (nI i))], [], h2) Q := by
  have hn := C.le
  intro d
  induction d with
  | zero =>
    intro i P O tr h2 hd hi K D hS fr
    cases P with
    | cons x P =>
      exfalso
      have hx := (D.2.1 x List.mem_cons_self).1
      have hxO : x ∉ O := fun q => (List.nodup_append.mp D.1).2.2 x List.mem_cons_self x q rfl
      have g1 := pu_sm_ge (f := pu_mw (tn_dg ar sg hs) (x :: P) O tr) hx
      have g2 : pu_mw (tn_dg ar sg hs) (x :: P) O tr x = tn_dg ar sg hs x - tr x + 1 := by
        simp only [pu_mw, if_neg hxO, List.mem_cons, true_or, if_true]
      omega
    | nil =>
      have k1 := K.1
      refine am_AW.go [8] 60 ?_
      simp only [am_Zs, am_zn_1, am_g3, am_a3, am_kz_l, am_kz_r, am_mem, Bool.false_eq_true, am_Rs, am_R0, am_g2, am_al, am_kk_l, am_kk_r, am_step, am_op, am_one, am_two, am_br, am_inv, am_pp, am_ct, am_in, am_no, am_rc, am_s1, am_cut, am_s2, List.getElem?_cons_zero, List.getElem?_cons_succ, List.set_cons_zero, List.set_cons_succ, Value.category, List.cons_append, List.nil_append, am_f0, am_f1, am_f2, am_f3, am_cm1, am_c0, am_c1, am_c2, am_c3, am_c20, am_c40, am_c400, am_c401, am_c1600, true_and, and_true, true_implies, if_true, if_false, Nat.reduceAdd, Nat.reduceSub, Nat.reduceLT, Nat.reduceLeDiff, Nat.reduceEqDiff, reduceIte, Nat.le_refl, or_false, false_and, false_implies, or_true, true_or, implies_true, pk_us, pk_un, am_vs, am_vn, bx_uu, ne_eq, not_false_eq_true, not_true_eq_false, am_b0, am_b1, Nat.not_lt_zero, am_tl0, am_tl1, kr_28, kn_28, kl_28, kc_28_0, kc_28_1, kc_28_2, kl_29, ko_29, kn_29, ka_28_88, kc_28_5, kc_28_6, kc_28_7, kc_28_8, kc_28_9, kc_28_12, kc_28_15, kc_28_16, kc_28_19, kc_28_20, kf_28_27, kc_28_23, kc_28_26, kc_28_27, kc_28_28, kf_28_18, kc_28_31, kc_28_32, kc_28_35, kc_28_36, kc_28_37, kc_28_38, kl_30, ko_30, kn_30, ka_28_91, kc_28_41, kc_28_42, kc_28_45, kc_28_48, kc_28_49, tn_X0, tn_X1, tn_X2, tn_X3, tn_X4, tn_X5, tn_X6, tn_X7, tn_X8, tn_X9, tn_X10, tn_X11, tn_X12, tn_X13, tn_X14, tn_X15, tn_X16, tn_X17, tn_X18, tn_X19, tn_X20, tn_X21, tn_X22]
      rw [k1]
      refine ⟨fun _ => h1 O tr h2 K D hS fr, fun _ => ⟨fun q => absurd q (by decide), fun _ => ⟨fun _ => h1 O tr h2 K D hS fr, fun q => absurd (show nI ([] : List Nat).length ≤ 0 by decide) q⟩⟩⟩
  | succ d ih =>
    intro i P O tr h2 hd hi K D hS fr
    cases P with
    | nil =>
      have k1 := K.1
      refine am_AW.go [8] 60 ?_
      simp only [am_Zs, am_zn_1, am_g3, am_a3, am_kz_l, am_kz_r, am_mem, Bool.false_eq_true, am_Rs, am_R0, am_g2, am_al, am_kk_l, am_kk_r, am_step, am_op, am_one, am_two, am_br, am_inv, am_pp, am_ct, am_in, am_no, am_rc, am_s1, am_cut, am_s2, List.getElem?_cons_zero, List.getElem?_cons_succ, List.set_cons_zero, List.set_cons_succ, Value.category, List.cons_append, List.nil_append, am_f0, am_f1, am_f2, am_f3, am_cm1, am_c0, am_c1, am_c2, am_c3, am_c20, am_c40, am_c400, am_c401, am_c1600, true_and, and_true, true_implies, if_true, if_false, Nat.reduceAdd, Nat.reduceSub, Nat.reduceLT, Nat.reduceLeDiff, Nat.reduceEqDiff, reduceIte, Nat.le_refl, or_false, false_and, false_implies, or_true, true_or, implies_true, pk_us, pk_un, am_vs, am_vn, bx_uu, ne_eq, not_false_eq_true, not_true_eq_false, am_b0, am_b1, Nat.not_lt_zero, am_tl0, am_tl1, kr_28, kn_28, kl_28, kc_28_0, kc_28_1, kc_28_2, kl_29, ko_29, kn_29, ka_28_88, kc_28_5, kc_28_6, kc_28_7, kc_28_8, kc_28_9, kc_28_12, kc_28_15, kc_28_16, kc_28_19, kc_28_20, kf_28_27, kc_28_23, kc_28_26, kc_28_27, kc_28_28, kf_28_18, kc_28_31, kc_28_32, kc_28_35, kc_28_36, kc_28_37, kc_28_38, kl_30, ko_30, kn_30, ka_28_91, kc_28_41, kc_28_42, kc_28_45, kc_28_48, kc_28_49, tn_X0, tn_X1, tn_X2, tn_X3, tn_X4, tn_X5, tn_X6, tn_X7, tn_X8, tn_X9, tn_X10, tn_X11, tn_X12, tn_X13, tn_X14, tn_X15, tn_X16, tn_X17, tn_X18, tn_X19, tn_X20, tn_X21, tn_X22]
      rw [k1]
      refine ⟨fun _ => h1 O tr h2 K D hS fr, fun _ => ⟨fun q => absurd q (by decide), fun _ => ⟨fun _ => h1 O tr h2 K D hS fr, fun q => absurd (show nI ([] : List Nat).length ≤ 0 by decide) q⟩⟩⟩
    | cons x P =>
      obtain ⟨hx, hRx⟩ := D.2.1 x List.mem_cons_self
      have nd := List.nodup_append.mp D.1
      have hxP : x ∉ P := (List.nodup_cons.mp nd.1).1
      have hxO : x ∉ O := fun q => nd.2.2 x List.mem_cons_self x q rfl
      have hlen := D.len
      rw [List.length_cons] at hlen
      have k1 := K.1
      have k5 := K.2.2.2.2.1 P.length x (by
        rw [List.reverse_cons, List.getElem?_append_right (by rw [List.length_reverse]; exact Nat.le_refl _), List.length_reverse, Nat.sub_self]
        rfl)
      have htr : tr x ≤ tn_dg ar sg hs x := D.2.2.2.1
      have C2 := C.K fr
      refine am_AW.go [8] 60 ?_
      simp only [am_Zs, am_zn_1, am_g3, am_a3, am_kz_l, am_kz_r, am_mem, Bool.false_eq_true, am_Rs, am_R0, am_g2, am_al, am_kk_l, am_kk_r, am_step, am_op, am_one, am_two, am_br, am_inv, am_pp, am_ct, am_in, am_no, am_rc, am_s1, am_cut, am_s2, List.getElem?_cons_zero, List.getElem?_cons_succ, List.set_cons_zero, List.set_cons_succ, Value.category, List.cons_append, List.nil_append, am_f0, am_f1, am_f2, am_f3, am_cm1, am_c0, am_c1, am_c2, am_c3, am_c20, am_c40, am_c400, am_c401, am_c1600, true_and, and_true, true_implies, if_true, if_false, Nat.reduceAdd, Nat.reduceSub, Nat.reduceLT, Nat.reduceLeDiff, Nat.reduceEqDiff, reduceIte, Nat.le_refl, or_false, false_and, false_implies, or_true, true_or, implies_true, pk_us, pk_un, am_vs, am_vn, bx_uu, ne_eq, not_false_eq_true, not_true_eq_false, am_b0, am_b1, Nat.not_lt_zero, am_tl0, am_tl1, kr_28, kn_28, kl_28, kc_28_0, kc_28_1, kc_28_2, kl_29, ko_29, kn_29, ka_28_88, kc_28_5, kc_28_6, kc_28_7, kc_28_8, kc_28_9, kc_28_12, kc_28_15, kc_28_16, kc_28_19, kc_28_20, kf_28_27, kc_28_23, kc_28_26, kc_28_27, kc_28_28, kf_28_18, kc_28_31, kc_28_32, kc_28_35, kc_28_36, kc_28_37, kc_28_38, kl_30, ko_30, kn_30, ka_28_91, kc_28_41, kc_28_42, kc_28_45, kc_28_48, kc_28_49, tn_X0, tn_X1, tn_X2, tn_X3, tn_X4, tn_X5, tn_X6, tn_X7, tn_X8, tn_X9, tn_X10, tn_X11, tn_X12, tn_X13, tn_X14, tn_X15, tn_X16, tn_X17, tn_X18, tn_X19, tn_X20, tn_X21, tn_X22]
      rw [k1, List.length_cons, show nI 1 = 1 by decide, nI_pred, nI_leI (by omega) (by omega), cl_ (by omega), k5]
      refine ⟨fun q => by omega, fun _ => ⟨fun q => absurd q (by decide), fun _ => ⟨fun q => absurd q (nI_nle (by omega) (by omega)), fun _ => ⟨vi_ (by omega) (by omega), ?_⟩⟩⟩⟩
      have step : ∀ (P' O' : List Nat) (tr' : Nat → Nat) (h3 : am_S), pu_sm (pu_mw (tn_dg ar sg hs) P' O' tr') n + 1 = pu_sm (pu_mw (tn_dg ar sg hs) (x :: P) O tr) n → tn_K P' O' tr' h3 → pu_DS n (tn_dg ar sg hs) (tn_ch sg pt hs) R P' O' tr' → (∀ y ∈ x :: P ++ O, y ∈ P' ++ O') → tn_fK h2 h3 →
          am_AW tn_G tn_X (28, 8, 0, [some (.ref 3), some (.int r), some (.int (nI 1)), some (.int (nI (i + 1)))], [], h3) Q := fun P' O' tr' h3 e K' D' hsub f' =>
        ih (i + 1) P' O' tr' h3 (by omega) (by omega) K' D' (fun y hy => hsub y (hS y hy)) (fr.tr f')
      have hlP : ∀ c, c < n → c ∉ x :: P → c ∉ O → P.length + 1 < 400 := fun c hc q1 q2 => by
        have := pu_nd_len (n := n) (L := c :: (x :: P ++ O)) (by rw [List.nodup_cons]; exact ⟨fun q => (List.mem_append.mp q).elim q1 q2, D.1⟩) (fun y hy => by
          rcases List.mem_cons.mp hy with e | hy
          · subst e; exact hc
          · exact (D.2.1 y hy).1)
        simp only [List.length_cons, List.length_append] at this
        omega
      refine sp_30 C2 hx K hxO hxP htr (by omega) hlP (fun q1 q2 q3 h3 K3 f3 => ?_) (fun q1 q2 h3 K3 f3 => ?_) (fun q1 q2 h3 f3 => ?_) (fun q1 h3 K3 f3 => ?_)
      · simp only [am_Zs, am_zn_1, am_g3, am_a3, am_kz_l, am_kz_r, am_mem, Bool.false_eq_true, am_Rs, am_R0, am_g2, am_al, am_kk_l, am_kk_r, am_step, am_op, am_one, am_two, am_br, am_inv, am_pp, am_ct, am_in, am_no, am_rc, am_s1, am_cut, am_s2, List.getElem?_cons_zero, List.getElem?_cons_succ, List.set_cons_zero, List.set_cons_succ, Value.category, List.cons_append, List.nil_append, am_f0, am_f1, am_f2, am_f3, am_cm1, am_c0, am_c1, am_c2, am_c3, am_c20, am_c40, am_c400, am_c401, am_c1600, true_and, and_true, true_implies, if_true, if_false, Nat.reduceAdd, Nat.reduceSub, Nat.reduceLT, Nat.reduceLeDiff, Nat.reduceEqDiff, reduceIte, Nat.le_refl, or_false, false_and, false_implies, or_true, true_or, implies_true, pk_us, pk_un, am_vs, am_vn, bx_uu, ne_eq, not_false_eq_true, not_true_eq_false, am_b0, am_b1, Nat.not_lt_zero, am_tl0, am_tl1, kr_28, kn_28, kl_28, kc_28_0, kc_28_1, kc_28_2, kl_29, ko_29, kn_29, ka_28_88, kc_28_5, kc_28_6, kc_28_7, kc_28_8, kc_28_9, kc_28_12, kc_28_15, kc_28_16, kc_28_19, kc_28_20, kf_28_27, kc_28_23, kc_28_26, kc_28_27, kc_28_28, kf_28_18, kc_28_31, kc_28_32, kc_28_35, kc_28_36, kc_28_37, kc_28_38, kl_30, ko_30, kn_30, ka_28_91, kc_28_41, kc_28_42, kc_28_45, kc_28_48, kc_28_49, tn_X0, tn_X1, tn_X2, tn_X3, tn_X4, tn_X5, tn_X6, tn_X7, tn_X8, tn_X9, tn_X10, tn_X11, tn_X12, tn_X13, tn_X14, tn_X15, tn_X16, tn_X17, tn_X18, tn_X19, tn_X20, tn_X21, tn_X22]
        rw [nI_add]
        obtain ⟨s, e1, e2, e3, e4, e5, e6⟩ := C2.ch hx q1
        refine step _ _ _ h3 ?_ K3 (D.push q1 rfl e5 (hR x hx hRx _ q1) q2 q3) (fun y hy => ?_) f3
        · refine pu_sm_dec (x := x) (fun t ht => ?_) ?_ hx
          · by_cases et : t = tn_ch sg pt hs x (tr x)
            · subst et
              simp only [pu_mw, if_neg q3]
              rw [if_pos List.mem_cons_self, if_neg q2]
              simp
            · refine pu_mw_x Iff.rfl ?_ ?_
              · simp only [List.mem_cons, et, false_or]
              · simp only [if_neg et, if_neg ht]
          · have hne : x ≠ tn_ch sg pt hs x (tr x) := fun e => q2 (by rw [← e]; exact List.mem_cons_self)
            simp only [pu_mw, if_neg hxO, List.mem_cons, true_or, or_true, if_true, if_neg hne]
            omega
        · exact List.mem_cons_of_mem _ hy
      · simp only [am_Zs, am_zn_1, am_g3, am_a3, am_kz_l, am_kz_r, am_mem, Bool.false_eq_true, am_Rs, am_R0, am_g2, am_al, am_kk_l, am_kk_r, am_step, am_op, am_one, am_two, am_br, am_inv, am_pp, am_ct, am_in, am_no, am_rc, am_s1, am_cut, am_s2, List.getElem?_cons_zero, List.getElem?_cons_succ, List.set_cons_zero, List.set_cons_succ, Value.category, List.cons_append, List.nil_append, am_f0, am_f1, am_f2, am_f3, am_cm1, am_c0, am_c1, am_c2, am_c3, am_c20, am_c40, am_c400, am_c401, am_c1600, true_and, and_true, true_implies, if_true, if_false, Nat.reduceAdd, Nat.reduceSub, Nat.reduceLT, Nat.reduceLeDiff, Nat.reduceEqDiff, reduceIte, Nat.le_refl, or_false, false_and, false_implies, or_true, true_or, implies_true, pk_us, pk_un, am_vs, am_vn, bx_uu, ne_eq, not_false_eq_true, not_true_eq_false, am_b0, am_b1, Nat.not_lt_zero, am_tl0, am_tl1, kr_28, kn_28, kl_28, kc_28_0, kc_28_1, kc_28_2, kl_29, ko_29, kn_29, ka_28_88, kc_28_5, kc_28_6, kc_28_7, kc_28_8, kc_28_9, kc_28_12, kc_28_15, kc_28_16, kc_28_19, kc_28_20, kf_28_27, kc_28_23, kc_28_26, kc_28_27, kc_28_28, kf_28_18, kc_28_31, kc_28_32, kc_28_35, kc_28_36, kc_28_37, kc_28_38, kl_30, ko_30, kn_30, ka_28_91, kc_28_41, kc_28_42, kc_28_45, kc_28_48, kc_28_49, tn_X0, tn_X1, tn_X2, tn_X3, tn_X4, tn_X5, tn_X6, tn_X7, tn_X8, tn_X9, tn_X10, tn_X11, tn_X12, tn_X13, tn_X14, tn_X15, tn_X16, tn_X17, tn_X18, tn_X19, tn_X20, tn_X21, tn_X22]
        rw [nI_add]
        refine step _ _ _ h3 ?_ K3 (D.skip q1 rfl q2) (fun y hy => hy) f3
        refine pu_sm_dec (x := x) (fun t ht => pu_mw_x Iff.rfl Iff.rfl (by simp only [if_neg ht])) ?_ hx
        simp only [pu_mw, if_neg hxO, List.mem_cons, true_or, if_true]
        omega
      · simp only [am_Zs, am_zn_1, am_g3, am_a3, am_kz_l, am_kz_r, am_mem, Bool.false_eq_true, am_Rs, am_R0, am_g2, am_al, am_kk_l, am_kk_r, am_step, am_op, am_one, am_two, am_br, am_inv, am_pp, am_ct, am_in, am_no, am_rc, am_s1, am_cut, am_s2, List.getElem?_cons_zero, List.getElem?_cons_succ, List.set_cons_zero, List.set_cons_succ, Value.category, List.cons_append, List.nil_append, am_f0, am_f1, am_f2, am_f3, am_cm1, am_c0, am_c1, am_c2, am_c3, am_c20, am_c40, am_c400, am_c401, am_c1600, true_and, and_true, true_implies, if_true, if_false, Nat.reduceAdd, Nat.reduceSub, Nat.reduceLT, Nat.reduceLeDiff, Nat.reduceEqDiff, reduceIte, Nat.le_refl, or_false, false_and, false_implies, or_true, true_or, implies_true, pk_us, pk_un, am_vs, am_vn, bx_uu, ne_eq, not_false_eq_true, not_true_eq_false, am_b0, am_b1, Nat.not_lt_zero, am_tl0, am_tl1, kr_28, kn_28, kl_28, kc_28_0, kc_28_1, kc_28_2, kl_29, ko_29, kn_29, ka_28_88, kc_28_5, kc_28_6, kc_28_7, kc_28_8, kc_28_9, kc_28_12, kc_28_15, kc_28_16, kc_28_19, kc_28_20, kf_28_27, kc_28_23, kc_28_26, kc_28_27, kc_28_28, kf_28_18, kc_28_31, kc_28_32, kc_28_35, kc_28_36, kc_28_37, kc_28_38, kl_30, ko_30, kn_30, ka_28_91, kc_28_41, kc_28_42, kc_28_45, kc_28_48, kc_28_49, tn_X0, tn_X1, tn_X2, tn_X3, tn_X4, tn_X5, tn_X6, tn_X7, tn_X8, tn_X9, tn_X10, tn_X11, tn_X12, tn_X13, tn_X14, tn_X15, tn_X16, tn_X17, tn_X18, tn_X19, tn_X20, tn_X21, tn_X22]
        rw [nI_add]
        exact sp_28f (by omega) (h0 h3 (fun rk hrk => D.cyc q1 q2 rk hrk) (fr.tr f3))
      · simp only [am_Zs, am_zn_1, am_g3, am_a3, am_kz_l, am_kz_r, am_mem, Bool.false_eq_true, am_Rs, am_R0, am_g2, am_al, am_kk_l, am_kk_r, am_step, am_op, am_one, am_two, am_br, am_inv, am_pp, am_ct, am_in, am_no, am_rc, am_s1, am_cut, am_s2, List.getElem?_cons_zero, List.getElem?_cons_succ, List.set_cons_zero, List.set_cons_succ, Value.category, List.cons_append, List.nil_append, am_f0, am_f1, am_f2, am_f3, am_cm1, am_c0, am_c1, am_c2, am_c3, am_c20, am_c40, am_c400, am_c401, am_c1600, true_and, and_true, true_implies, if_true, if_false, Nat.reduceAdd, Nat.reduceSub, Nat.reduceLT, Nat.reduceLeDiff, Nat.reduceEqDiff, reduceIte, Nat.le_refl, or_false, false_and, false_implies, or_true, true_or, implies_true, pk_us, pk_un, am_vs, am_vn, bx_uu, ne_eq, not_false_eq_true, not_true_eq_false, am_b0, am_b1, Nat.not_lt_zero, am_tl0, am_tl1, kr_28, kn_28, kl_28, kc_28_0, kc_28_1, kc_28_2, kl_29, ko_29, kn_29, ka_28_88, kc_28_5, kc_28_6, kc_28_7, kc_28_8, kc_28_9, kc_28_12, kc_28_15, kc_28_16, kc_28_19, kc_28_20, kf_28_27, kc_28_23, kc_28_26, kc_28_27, kc_28_28, kf_28_18, kc_28_31, kc_28_32, kc_28_35, kc_28_36, kc_28_37, kc_28_38, kl_30, ko_30, kn_30, ka_28_91, kc_28_41, kc_28_42, kc_28_45, kc_28_48, kc_28_49, tn_X0, tn_X1, tn_X2, tn_X3, tn_X4, tn_X5, tn_X6, tn_X7, tn_X8, tn_X9, tn_X10, tn_X11, tn_X12, tn_X13, tn_X14, tn_X15, tn_X16, tn_X17, tn_X18, tn_X19, tn_X20, tn_X21, tn_X22]
        rw [nI_add]
        refine step _ _ _ h3 ?_ K3 (D.pop q1) (fun y hy => ?_) f3
        · refine pu_sm_dec (x := x) (fun t ht => pu_mw_x ?_ ?_ rfl) ?_ hx
          · simp only [List.mem_cons, ht, false_or]
          · simp only [List.mem_cons, ht, false_or]
          · simp only [pu_mw, if_neg hxO, List.mem_cons, true_or, if_true]
            omega
        · rcases List.mem_append.mp hy with q | q
          · rcases List.mem_cons.mp q with e | q
            · subst e; exact List.mem_append_right _ List.mem_cons_self
            · exact List.mem_append_left _ q
          · exact List.mem_append_right _ (List.mem_cons_of_mem _ q)
/-- Walk.reach -/
theorem sp_28 (C : tn_C n m ar sg pt hs h) (hR : ∀ x, x < n → R x → ∀ k, k < tn_dg ar sg hs x → R (tn_ch sg pt hs x k)) {x : Nat} (hx : x < n) (hRx : R x) {O : List Nat} {tr : Nat → Nat} (K : tn_K [] O tr h) (D : pu_DS n (tn_dg ar sg hs) (tn_ch sg pt hs) R [] O tr)
    (h1 : ∀ O' tr h', tn_K [] O' tr h' → pu_DS n (tn_dg ar sg hs) (tn_ch sg pt hs) R [] O' tr → (∀ y ∈ x :: O, y ∈ O') → tn_fK h h' → Q h' (.inl (some (.int (nI 1)))))
    (h0 : ∀ h', (∀ rk : Nat → Nat, ¬ ∀ x, x < n → ∀ k, k < tn_dg ar sg hs x → rk (tn_ch sg pt hs x k) < rk x) → tn_fK h h' → Q h' (.inl (some (.int (nI 0))))) :
    am_AW tn_G tn_X (28, 0, 0, [some (.ref 3), some (.int (nI x)), none, none], [], h) Q := by
  have hn := C.le
  have bnd : ∀ P O tr, pu_sm (pu_mw (tn_dg ar sg hs) P O tr) n ≤ 1600 := fun P O tr => by
    have := pu_sm_le (f := pu_mw (tn_dg ar sg hs) P O tr) (b := 4) (n := n) (fun t ht => by
      have := C.d3 ht
      unfold pu_mw
      split
      · omega
      · split <;> omega)
    omega
  refine am_AW.go [8] 60 ?_
  simp only [am_Zs, am_zn_1, am_g3, am_a3, am_kz_l, am_kz_r, am_mem, Bool.false_eq_true, am_Rs, am_R0, am_g2, am_al, am_kk_l, am_kk_r, am_step, am_op, am_one, am_two, am_br, am_inv, am_pp, am_ct, am_in, am_no, am_rc, am_s1, am_cut, am_s2, List.getElem?_cons_zero, List.getElem?_cons_succ, List.set_cons_zero, List.set_cons_succ, Value.category, List.cons_append, List.nil_append, am_f0, am_f1, am_f2, am_f3, am_cm1, am_c0, am_c1, am_c2, am_c3, am_c20, am_c40, am_c400, am_c401, am_c1600, true_and, and_true, true_implies, if_true, if_false, Nat.reduceAdd, Nat.reduceSub, Nat.reduceLT, Nat.reduceLeDiff, Nat.reduceEqDiff, reduceIte, Nat.le_refl, or_false, false_and, false_implies, or_true, true_or, implies_true, pk_us, pk_un, am_vs, am_vn, bx_uu, ne_eq, not_false_eq_true, not_true_eq_false, am_b0, am_b1, Nat.not_lt_zero, am_tl0, am_tl1, kr_28, kn_28, kl_28, kc_28_0, kc_28_1, kc_28_2, kl_29, ko_29, kn_29, ka_28_88, kc_28_5, kc_28_6, kc_28_7, kc_28_8, kc_28_9, kc_28_12, kc_28_15, kc_28_16, kc_28_19, kc_28_20, kf_28_27, kc_28_23, kc_28_26, kc_28_27, kc_28_28, kf_28_18, kc_28_31, kc_28_32, kc_28_35, kc_28_36, kc_28_37, kc_28_38, kl_30, ko_30, kn_30, ka_28_91, kc_28_41, kc_28_42, kc_28_45, kc_28_48, kc_28_49, tn_X0, tn_X1, tn_X2, tn_X3, tn_X4, tn_X5, tn_X6, tn_X7, tn_X8, tn_X9, tn_X10, tn_X11, tn_X12, tn_X13, tn_X14, tn_X15, tn_X16, tn_X17, tn_X18, tn_X19, tn_X20, tn_X21, tn_X22]
  refine sp_29 K (by omega) (fun _ _ => by simp) (fun q1 q2 h2 K2 f2 => ?_) (fun q => ?_) (fun _ q => by cases q)
  · simp only [am_Zs, am_zn_1, am_g3, am_a3, am_kz_l, am_kz_r, am_mem, Bool.false_eq_true, am_Rs, am_R0, am_g2, am_al, am_kk_l, am_kk_r, am_step, am_op, am_one, am_two, am_br, am_inv, am_pp, am_ct, am_in, am_no, am_rc, am_s1, am_cut, am_s2, List.getElem?_cons_zero, List.getElem?_cons_succ, List.set_cons_zero, List.set_cons_succ, Value.category, List.cons_append, List.nil_append, am_f0, am_f1, am_f2, am_f3, am_cm1, am_c0, am_c1, am_c2, am_c3, am_c20, am_c40, am_c400, am_c401, am_c1600, true_and, and_true, true_implies, if_true, if_false, Nat.reduceAdd, Nat.reduceSub, Nat.reduceLT, Nat.reduceLeDiff, Nat.reduceEqDiff, reduceIte, Nat.le_refl, or_false, false_and, false_implies, or_true, true_or, implies_true, pk_us, pk_un, am_vs, am_vn, bx_uu, ne_eq, not_false_eq_true, not_true_eq_false, am_b0, am_b1, Nat.not_lt_zero, am_tl0, am_tl1, kr_28, kn_28, kl_28, kc_28_0, kc_28_1, kc_28_2, kl_29, ko_29, kn_29, ka_28_88, kc_28_5, kc_28_6, kc_28_7, kc_28_8, kc_28_9, kc_28_12, kc_28_15, kc_28_16, kc_28_19, kc_28_20, kf_28_27, kc_28_23, kc_28_26, kc_28_27, kc_28_28, kf_28_18, kc_28_31, kc_28_32, kc_28_35, kc_28_36, kc_28_37, kc_28_38, kl_30, ko_30, kn_30, ka_28_91, kc_28_41, kc_28_42, kc_28_45, kc_28_48, kc_28_49, tn_X0, tn_X1, tn_X2, tn_X3, tn_X4, tn_X5, tn_X6, tn_X7, tn_X8, tn_X9, tn_X10, tn_X11, tn_X12, tn_X13, tn_X14, tn_X15, tn_X16, tn_X17, tn_X18, tn_X19, tn_X20, tn_X21, tn_X22]
    refine sp_28l C hR (x :: O) _ h1 h0 _ 0 _ _ _ h2 rfl (by have := bnd [x] O (fun y => if y = x then 0 else tr y); omega) K2 ?_ (fun y hy => hy) f2
    obtain ⟨d1, d2, d3, d4⟩ := D
    refine ⟨?_, fun y hy => ?_, d3, ?_⟩
    · show (x :: O).Nodup
      rw [List.nodup_cons]
      exact ⟨q2, d1⟩
    · rcases List.mem_cons.mp hy with e | hy
      · subst e; exact ⟨hx, hRx⟩
      · exact d2 y hy
    · exact ⟨by simp, fun k hk => by simp at hk, fun _ z => (by cases z), trivial⟩
  · simp only [am_Zs, am_zn_1, am_g3, am_a3, am_kz_l, am_kz_r, am_mem, Bool.false_eq_true, am_Rs, am_R0, am_g2, am_al, am_kk_l, am_kk_r, am_step, am_op, am_one, am_two, am_br, am_inv, am_pp, am_ct, am_in, am_no, am_rc, am_s1, am_cut, am_s2, List.getElem?_cons_zero, List.getElem?_cons_succ, List.set_cons_zero, List.set_cons_succ, Value.category, List.cons_append, List.nil_append, am_f0, am_f1, am_f2, am_f3, am_cm1, am_c0, am_c1, am_c2, am_c3, am_c20, am_c40, am_c400, am_c401, am_c1600, true_and, and_true, true_implies, if_true, if_false, Nat.reduceAdd, Nat.reduceSub, Nat.reduceLT, Nat.reduceLeDiff, Nat.reduceEqDiff, reduceIte, Nat.le_refl, or_false, false_and, false_implies, or_true, true_or, implies_true, pk_us, pk_un, am_vs, am_vn, bx_uu, ne_eq, not_false_eq_true, not_true_eq_false, am_b0, am_b1, Nat.not_lt_zero, am_tl0, am_tl1, kr_28, kn_28, kl_28, kc_28_0, kc_28_1, kc_28_2, kl_29, ko_29, kn_29, ka_28_88, kc_28_5, kc_28_6, kc_28_7, kc_28_8, kc_28_9, kc_28_12, kc_28_15, kc_28_16, kc_28_19, kc_28_20, kf_28_27, kc_28_23, kc_28_26, kc_28_27, kc_28_28, kf_28_18, kc_28_31, kc_28_32, kc_28_35, kc_28_36, kc_28_37, kc_28_38, kl_30, ko_30, kn_30, ka_28_91, kc_28_41, kc_28_42, kc_28_45, kc_28_48, kc_28_49, tn_X0, tn_X1, tn_X2, tn_X3, tn_X4, tn_X5, tn_X6, tn_X7, tn_X8, tn_X9, tn_X10, tn_X11, tn_X12, tn_X13, tn_X14, tn_X15, tn_X16, tn_X17, tn_X18, tn_X19, tn_X20, tn_X21, tn_X22]
    exact sp_28l C hR (x :: O) _ h1 h0 _ 0 _ _ _ h rfl (by have := bnd [] O tr; omega) K D (fun y hy => by
      rcases List.mem_cons.mp hy with e | hy
      · subst e; exact q
      · exact hy) tn_fK.rf
/-- overAll, its loop -/
theorem sp_26l (C : tn_C n m ar sg pt hs h)
    (h1 : ∀ O tr h', tn_K [] O tr h' → pu_DS n (tn_dg ar sg hs) (tn_ch sg pt hs) (fun x => pu_hg hs x = x) [] O tr → (∀ t, t < n → pu_hg hs t ∈ O) → tn_fK h h' → Q h' (.inl (some (.int (nI 1)))))
    (h0 : ∀ h', (∀ rk : Nat → Nat, ¬ ∀ x, x < n → ∀ k, k < tn_dg ar sg hs x → rk (tn_ch sg pt hs x k) < rk x) → tn_fK h h' → Q h' (.inl (some (.int (nI 0))))) :
    ∀ (d t : Nat) (O : List Nat) (tr : Nat → Nat) (h2 : am_S), n - t = d → t ≤ n → tn_K [] O tr h2 → pu_DS n (tn_dg ar sg hs) (tn_ch sg pt hs) (fun x => pu_hg hs x = x) [] O tr → (∀ u, u < t → pu_hg hs u ∈ O) → tn_fK h h2 →
      am_AW tn_G tn_X (26, 6, 0, [some (.ref 3), some (.int (nI n)), some (.int (nI t))], [], h2) Q := by
  have hn := C.le
  have hR : ∀ x, x < n → pu_hg hs x = x → ∀ k, k < tn_dg ar sg hs x → pu_hg hs (tn_ch sg pt hs x k) = tn_ch sg pt hs x k := fun x hx _ k hk => by
    obtain ⟨s, e1, e2, e3, e4, e5, e6⟩ := C.ch hx hk
    exact e6
  intro d
  induction d with
  | zero =>
    intro t O tr h2 hd ht K D hO fr
    refine am_AW.go [6] 60 ?_
    simp only [am_Zs, am_zn_1, am_g3, am_a3, am_kz_l, am_kz_r, am_mem, Bool.false_eq_true, am_Rs, am_R0, am_g2, am_al, am_kk_l, am_kk_r, am_step, am_op, am_one, am_two, am_br, am_inv, am_pp, am_ct, am_in, am_no, am_rc, am_s1, am_cut, am_s2, List.getElem?_cons_zero, List.getElem?_cons_succ, List.set_cons_zero, List.set_cons_succ, Value.category, List.cons_append, List.nil_append, am_f0, am_f1, am_f2, am_f3, am_cm1, am_c0, am_c1, am_c2, am_c3, am_c20, am_c40, am_c400, am_c401, am_c1600, true_and, and_true, true_implies, if_true, if_false, Nat.reduceAdd, Nat.reduceSub, Nat.reduceLT, Nat.reduceLeDiff, Nat.reduceEqDiff, reduceIte, Nat.le_refl, or_false, false_and, false_implies, or_true, true_or, implies_true, pk_us, pk_un, am_vs, am_vn, bx_uu, ne_eq, not_false_eq_true, not_true_eq_false, am_b0, am_b1, Nat.not_lt_zero, am_tl0, am_tl1, kr_26, kn_26, kl_26, kc_26_0, kc_26_1, kl_27, ko_27, kn_27, ka_26_38, kc_26_4, kc_26_5, kc_26_6, kc_26_7, kc_26_8, kc_26_11, kc_26_12, kc_26_13, kf_26_34, kc_26_16, kc_26_17, kl_10, ko_10, kn_10, ka_26_41, kc_26_20, kl_28, ko_28, kn_28, ka_26_47, kc_26_23, kc_26_26, kc_26_27, kc_26_28, kc_26_31, kc_26_34, kc_26_35, tn_X0, tn_X1, tn_X2, tn_X3, tn_X4, tn_X5, tn_X6, tn_X7, tn_X8, tn_X9, tn_X10, tn_X11, tn_X12, tn_X13, tn_X14, tn_X15, tn_X16, tn_X17, tn_X18, tn_X19, tn_X20, tn_X21, tn_X22]
    rw [nI_leI (by omega) (by omega)]
    exact ⟨fun _ => h1 O tr h2 K D (fun u hu => hO u (by omega)) fr, fun q => by omega⟩
  | succ d ih =>
    intro t O tr h2 hd ht K D hO fr
    have htn : t < n := by omega
    have C2 := C.K fr
    refine am_AW.go [6] 60 ?_
    simp only [am_Zs, am_zn_1, am_g3, am_a3, am_kz_l, am_kz_r, am_mem, Bool.false_eq_true, am_Rs, am_R0, am_g2, am_al, am_kk_l, am_kk_r, am_step, am_op, am_one, am_two, am_br, am_inv, am_pp, am_ct, am_in, am_no, am_rc, am_s1, am_cut, am_s2, List.getElem?_cons_zero, List.getElem?_cons_succ, List.set_cons_zero, List.set_cons_succ, Value.category, List.cons_append, List.nil_append, am_f0, am_f1, am_f2, am_f3, am_cm1, am_c0, am_c1, am_c2, am_c3, am_c20, am_c40, am_c400, am_c401, am_c1600, true_and, and_true, true_implies, if_true, if_false, Nat.reduceAdd, Nat.reduceSub, Nat.reduceLT, Nat.reduceLeDiff, Nat.reduceEqDiff, reduceIte, Nat.le_refl, or_false, false_and, false_implies, or_true, true_or, implies_true, pk_us, pk_un, am_vs, am_vn, bx_uu, ne_eq, not_false_eq_true, not_true_eq_false, am_b0, am_b1, Nat.not_lt_zero, am_tl0, am_tl1, kr_26, kn_26, kl_26, kc_26_0, kc_26_1, kl_27, ko_27, kn_27, ka_26_38, kc_26_4, kc_26_5, kc_26_6, kc_26_7, kc_26_8, kc_26_11, kc_26_12, kc_26_13, kf_26_34, kc_26_16, kc_26_17, kl_10, ko_10, kn_10, ka_26_41, kc_26_20, kl_28, ko_28, kn_28, ka_26_47, kc_26_23, kc_26_26, kc_26_27, kc_26_28, kc_26_31, kc_26_34, kc_26_35, tn_X0, tn_X1, tn_X2, tn_X3, tn_X4, tn_X5, tn_X6, tn_X7, tn_X8, tn_X9, tn_X10, tn_X11, tn_X12, tn_X13, tn_X14, tn_X15, tn_X16, tn_X17, tn_X18, tn_X19, tn_X20, tn_X21, tn_X22]
    rw [nI_leI (by omega) (by omega)]
    refine ⟨fun q => by omega, fun _ => ?_⟩
    refine sp_10 C2 htn ?_
    simp only [am_Zs, am_zn_1, am_g3, am_a3, am_kz_l, am_kz_r, am_mem, Bool.false_eq_true, am_Rs, am_R0, am_g2, am_al, am_kk_l, am_kk_r, am_step, am_op, am_one, am_two, am_br, am_inv, am_pp, am_ct, am_in, am_no, am_rc, am_s1, am_cut, am_s2, List.getElem?_cons_zero, List.getElem?_cons_succ, List.set_cons_zero, List.set_cons_succ, Value.category, List.cons_append, List.nil_append, am_f0, am_f1, am_f2, am_f3, am_cm1, am_c0, am_c1, am_c2, am_c3, am_c20, am_c40, am_c400, am_c401, am_c1600, true_and, and_true, true_implies, if_true, if_false, Nat.reduceAdd, Nat.reduceSub, Nat.reduceLT, Nat.reduceLeDiff, Nat.reduceEqDiff, reduceIte, Nat.le_refl, or_false, false_and, false_implies, or_true, true_or, implies_true, pk_us, pk_un, am_vs, am_vn, bx_uu, ne_eq, not_false_eq_true, not_true_eq_false, am_b0, am_b1, Nat.not_lt_zero, am_tl0, am_tl1, kr_26, kn_26, kl_26, kc_26_0, kc_26_1, kl_27, ko_27, kn_27, ka_26_38, kc_26_4, kc_26_5, kc_26_6, kc_26_7, kc_26_8, kc_26_11, kc_26_12, kc_26_13, kf_26_34, kc_26_16, kc_26_17, kl_10, ko_10, kn_10, ka_26_41, kc_26_20, kl_28, ko_28, kn_28, ka_26_47, kc_26_23, kc_26_26, kc_26_27, kc_26_28, kc_26_31, kc_26_34, kc_26_35, tn_X0, tn_X1, tn_X2, tn_X3, tn_X4, tn_X5, tn_X6, tn_X7, tn_X8, tn_X9, tn_X10, tn_X11, tn_X12, tn_X13, tn_X14, tn_X15, tn_X16, tn_X17, tn_X18, tn_X19, tn_X20, tn_X21, tn_X22]
    refine sp_28 C2 hR (C.g htn) (pu_hg_part C.V t).2 K D (fun O' tr' h3 K3 D3 hsub f3 => ?_) (fun h3 hno f3 => ?_)
    · simp only [am_Zs, am_zn_1, am_g3, am_a3, am_kz_l, am_kz_r, am_mem, Bool.false_eq_true, am_Rs, am_R0, am_g2, am_al, am_kk_l, am_kk_r, am_step, am_op, am_one, am_two, am_br, am_inv, am_pp, am_ct, am_in, am_no, am_rc, am_s1, am_cut, am_s2, List.getElem?_cons_zero, List.getElem?_cons_succ, List.set_cons_zero, List.set_cons_succ, Value.category, List.cons_append, List.nil_append, am_f0, am_f1, am_f2, am_f3, am_cm1, am_c0, am_c1, am_c2, am_c3, am_c20, am_c40, am_c400, am_c401, am_c1600, true_and, and_true, true_implies, if_true, if_false, Nat.reduceAdd, Nat.reduceSub, Nat.reduceLT, Nat.reduceLeDiff, Nat.reduceEqDiff, reduceIte, Nat.le_refl, or_false, false_and, false_implies, or_true, true_or, implies_true, pk_us, pk_un, am_vs, am_vn, bx_uu, ne_eq, not_false_eq_true, not_true_eq_false, am_b0, am_b1, Nat.not_lt_zero, am_tl0, am_tl1, kr_26, kn_26, kl_26, kc_26_0, kc_26_1, kl_27, ko_27, kn_27, ka_26_38, kc_26_4, kc_26_5, kc_26_6, kc_26_7, kc_26_8, kc_26_11, kc_26_12, kc_26_13, kf_26_34, kc_26_16, kc_26_17, kl_10, ko_10, kn_10, ka_26_41, kc_26_20, kl_28, ko_28, kn_28, ka_26_47, kc_26_23, kc_26_26, kc_26_27, kc_26_28, kc_26_31, kc_26_34, kc_26_35, tn_X0, tn_X1, tn_X2, tn_X3, tn_X4, tn_X5, tn_X6, tn_X7, tn_X8, tn_X9, tn_X10, tn_X11, tn_X12, tn_X13, tn_X14, tn_X15, tn_X16, tn_X17, tn_X18, tn_X19, tn_X20, tn_X21, tn_X22]
      refine ⟨fun _ => ?_, fun q => absurd q (by decide)⟩
      rw [nI_add]
      refine ih (t + 1) O' tr' h3 (by omega) (by omega) K3 D3 (fun u hu => ?_) (fr.tr f3)
      by_cases e : u = t
      · subst e; exact hsub _ List.mem_cons_self
      · exact hsub _ (List.mem_cons_of_mem _ (hO u (by omega)))
    · simp only [am_Zs, am_zn_1, am_g3, am_a3, am_kz_l, am_kz_r, am_mem, Bool.false_eq_true, am_Rs, am_R0, am_g2, am_al, am_kk_l, am_kk_r, am_step, am_op, am_one, am_two, am_br, am_inv, am_pp, am_ct, am_in, am_no, am_rc, am_s1, am_cut, am_s2, List.getElem?_cons_zero, List.getElem?_cons_succ, List.set_cons_zero, List.set_cons_succ, Value.category, List.cons_append, List.nil_append, am_f0, am_f1, am_f2, am_f3, am_cm1, am_c0, am_c1, am_c2, am_c3, am_c20, am_c40, am_c400, am_c401, am_c1600, true_and, and_true, true_implies, if_true, if_false, Nat.reduceAdd, Nat.reduceSub, Nat.reduceLT, Nat.reduceLeDiff, Nat.reduceEqDiff, reduceIte, Nat.le_refl, or_false, false_and, false_implies, or_true, true_or, implies_true, pk_us, pk_un, am_vs, am_vn, bx_uu, ne_eq, not_false_eq_true, not_true_eq_false, am_b0, am_b1, Nat.not_lt_zero, am_tl0, am_tl1, kr_26, kn_26, kl_26, kc_26_0, kc_26_1, kl_27, ko_27, kn_27, ka_26_38, kc_26_4, kc_26_5, kc_26_6, kc_26_7, kc_26_8, kc_26_11, kc_26_12, kc_26_13, kf_26_34, kc_26_16, kc_26_17, kl_10, ko_10, kn_10, ka_26_41, kc_26_20, kl_28, ko_28, kn_28, ka_26_47, kc_26_23, kc_26_26, kc_26_27, kc_26_28, kc_26_31, kc_26_34, kc_26_35, tn_X0, tn_X1, tn_X2, tn_X3, tn_X4, tn_X5, tn_X6, tn_X7, tn_X8, tn_X9, tn_X10, tn_X11, tn_X12, tn_X13, tn_X14, tn_X15, tn_X16, tn_X17, tn_X18, tn_X19, tn_X20, tn_X21, tn_X22]
      exact ⟨fun q => absurd nI_0 q, fun _ => h0 h3 hno (fr.tr f3)⟩
/-- Walk.overAll -/
theorem sp_26 (C : tn_C n m ar sg pt hs h)
    (h1 : ∀ O tr h', tn_K [] O tr h' → pu_DS n (tn_dg ar sg hs) (tn_ch sg pt hs) (fun x => pu_hg hs x = x) [] O tr → (∀ t, t < n → pu_hg hs t ∈ O) → tn_fK h h' → Q h' (.inl (some (.int (nI 1)))))
    (h0 : ∀ h', (∀ rk : Nat → Nat, ¬ ∀ x, x < n → ∀ k, k < tn_dg ar sg hs x → rk (tn_ch sg pt hs x k) < rk x) → tn_fK h h' → Q h' (.inl (some (.int (nI 0))))) :
    am_AW tn_G tn_X (26, 0, 0, [some (.ref 3), some (.int (nI n)), none], [], h) Q := by
  refine am_AW.go [6] 60 ?_
  simp only [am_Zs, am_zn_1, am_g3, am_a3, am_kz_l, am_kz_r, am_mem, Bool.false_eq_true, am_Rs, am_R0, am_g2, am_al, am_kk_l, am_kk_r, am_step, am_op, am_one, am_two, am_br, am_inv, am_pp, am_ct, am_in, am_no, am_rc, am_s1, am_cut, am_s2, List.getElem?_cons_zero, List.getElem?_cons_succ, List.set_cons_zero, List.set_cons_succ, Value.category, List.cons_append, List.nil_append, am_f0, am_f1, am_f2, am_f3, am_cm1, am_c0, am_c1, am_c2, am_c3, am_c20, am_c40, am_c400, am_c401, am_c1600, true_and, and_true, true_implies, if_true, if_false, Nat.reduceAdd, Nat.reduceSub, Nat.reduceLT, Nat.reduceLeDiff, Nat.reduceEqDiff, reduceIte, Nat.le_refl, or_false, false_and, false_implies, or_true, true_or, implies_true, pk_us, pk_un, am_vs, am_vn, bx_uu, ne_eq, not_false_eq_true, not_true_eq_false, am_b0, am_b1, Nat.not_lt_zero, am_tl0, am_tl1, kr_26, kn_26, kl_26, kc_26_0, kc_26_1, kl_27, ko_27, kn_27, ka_26_38, kc_26_4, kc_26_5, kc_26_6, kc_26_7, kc_26_8, kc_26_11, kc_26_12, kc_26_13, kf_26_34, kc_26_16, kc_26_17, kl_10, ko_10, kn_10, ka_26_41, kc_26_20, kl_28, ko_28, kn_28, ka_26_47, kc_26_23, kc_26_26, kc_26_27, kc_26_28, kc_26_31, kc_26_34, kc_26_35, tn_X0, tn_X1, tn_X2, tn_X3, tn_X4, tn_X5, tn_X6, tn_X7, tn_X8, tn_X9, tn_X10, tn_X11, tn_X12, tn_X13, tn_X14, tn_X15, tn_X16, tn_X17, tn_X18, tn_X19, tn_X20, tn_X21, tn_X22]
  refine sp_27 (fun h2 K2 f2 => ?_)
  simp only [am_Zs, am_zn_1, am_g3, am_a3, am_kz_l, am_kz_r, am_mem, Bool.false_eq_true, am_Rs, am_R0, am_g2, am_al, am_kk_l, am_kk_r, am_step, am_op, am_one, am_two, am_br, am_inv, am_pp, am_ct, am_in, am_no, am_rc, am_s1, am_cut, am_s2, List.getElem?_cons_zero, List.getElem?_cons_succ, List.set_cons_zero, List.set_cons_succ, Value.category, List.cons_append, List.nil_append, am_f0, am_f1, am_f2, am_f3, am_cm1, am_c0, am_c1, am_c2, am_c3, am_c20, am_c40, am_c400, am_c401, am_c1600, true_and, and_true, true_implies, if_true, if_false, Nat.reduceAdd, Nat.reduceSub, Nat.reduceLT, Nat.reduceLeDiff, Nat.reduceEqDiff, reduceIte, Nat.le_refl, or_false, false_and, false_implies, or_true, true_or, implies_true, pk_us, pk_un, am_vs, am_vn, bx_uu, ne_eq, not_false_eq_true, not_true_eq_false, am_b0, am_b1, Nat.not_lt_zero, am_tl0, am_tl1, kr_26, kn_26, kl_26, kc_26_0, kc_26_1, kl_27, ko_27, kn_27, ka_26_38, kc_26_4, kc_26_5, kc_26_6, kc_26_7, kc_26_8, kc_26_11, kc_26_12, kc_26_13, kf_26_34, kc_26_16, kc_26_17, kl_10, ko_10, kn_10, ka_26_41, kc_26_20, kl_28, ko_28, kn_28, ka_26_47, kc_26_23, kc_26_26, kc_26_27, kc_26_28, kc_26_31, kc_26_34, kc_26_35, tn_X0, tn_X1, tn_X2, tn_X3, tn_X4, tn_X5, tn_X6, tn_X7, tn_X8, tn_X9, tn_X10, tn_X11, tn_X12, tn_X13, tn_X14, tn_X15, tn_X16, tn_X17, tn_X18, tn_X19, tn_X20, tn_X21, tn_X22]
  exact sp_26l C h1 h0 _ 0 [] _ h2 rfl (Nat.zero_le _) K2 ⟨List.nodup_nil, fun x hx => (by cases hx), trivial, trivial⟩ (fun u hu => by omega) f2
/-- below a group, itself too -/
def tn_rc (n : Nat) (ar : Nat → Nat) (sg : Nat → Option Nat) (pt : Nat → Nat → Nat) (hs : List (Nat × Nat)) (r x : Nat) : Prop := ∀ S : Nat → Prop, S r → (∀ y, y < n → S y → ∀ k, k < tn_dg ar sg hs y → S (tn_ch sg pt hs y k)) → S x
/-- Walk.overTree -/
theorem sp_32 (C : tn_C n m ar sg pt hs h) (hA : ∃ rk : Nat → Nat, ∀ x, x < n → ∀ k, k < tn_dg ar sg hs x → rk (tn_ch sg pt hs x k) < rk x) {a : Nat} (ha : a < n)
    (h1 : ∀ O tr h', tn_K [] O tr h' → pu_DS n (tn_dg ar sg hs) (tn_ch sg pt hs) (fun x => pu_hg hs x = x) [] O tr → (∀ x, x ∈ O ↔ tn_rc n ar sg pt hs (pu_hg hs a) x) → tn_fK h h' → Q h' (.inl none)) :
    am_AW tn_G tn_X (32, 0, 0, [some (.ref 3), some (.int (nI a))], [], h) Q := by
  refine am_AW.go [] 60 ?_
  simp only [am_Zs, am_zn_1, am_g3, am_a3, am_kz_l, am_kz_r, am_mem, Bool.false_eq_true, am_Rs, am_R0, am_g2, am_al, am_kk_l, am_kk_r, am_step, am_op, am_one, am_two, am_br, am_inv, am_pp, am_ct, am_in, am_no, am_rc, am_s1, am_cut, am_s2, List.getElem?_cons_zero, List.getElem?_cons_succ, List.set_cons_zero, List.set_cons_succ, Value.category, List.cons_append, List.nil_append, am_f0, am_f1, am_f2, am_f3, am_cm1, am_c0, am_c1, am_c2, am_c3, am_c20, am_c40, am_c400, am_c401, am_c1600, true_and, and_true, true_implies, if_true, if_false, Nat.reduceAdd, Nat.reduceSub, Nat.reduceLT, Nat.reduceLeDiff, Nat.reduceEqDiff, reduceIte, Nat.le_refl, or_false, false_and, false_implies, or_true, true_or, implies_true, pk_us, pk_un, am_vs, am_vn, bx_uu, ne_eq, not_false_eq_true, not_true_eq_false, am_b0, am_b1, Nat.not_lt_zero, am_tl0, am_tl1, kr_32, kn_32, kl_32, kc_32_0, kc_32_1, kl_27, ko_27, kn_27, ka_32_38, kc_32_4, kc_32_5, kc_32_6, kf_32_34, kc_32_9, kc_32_10, kl_10, ko_10, kn_10, ka_32_41, kc_32_13, kl_28, ko_28, kn_28, ka_32_47, kc_32_16, kc_32_17, tn_X0, tn_X1, tn_X2, tn_X3, tn_X4, tn_X5, tn_X6, tn_X7, tn_X8, tn_X9, tn_X10, tn_X11, tn_X12, tn_X13, tn_X14, tn_X15, tn_X16, tn_X17, tn_X18, tn_X19, tn_X20, tn_X21, tn_X22]
  refine sp_27 (fun h2 K2 f2 => ?_)
  simp only [am_Zs, am_zn_1, am_g3, am_a3, am_kz_l, am_kz_r, am_mem, Bool.false_eq_true, am_Rs, am_R0, am_g2, am_al, am_kk_l, am_kk_r, am_step, am_op, am_one, am_two, am_br, am_inv, am_pp, am_ct, am_in, am_no, am_rc, am_s1, am_cut, am_s2, List.getElem?_cons_zero, List.getElem?_cons_succ, List.set_cons_zero, List.set_cons_succ, Value.category, List.cons_append, List.nil_append, am_f0, am_f1, am_f2, am_f3, am_cm1, am_c0, am_c1, am_c2, am_c3, am_c20, am_c40, am_c400, am_c401, am_c1600, true_and, and_true, true_implies, if_true, if_false, Nat.reduceAdd, Nat.reduceSub, Nat.reduceLT, Nat.reduceLeDiff, Nat.reduceEqDiff, reduceIte, Nat.le_refl, or_false, false_and, false_implies, or_true, true_or, implies_true, pk_us, pk_un, am_vs, am_vn, bx_uu, ne_eq, not_false_eq_true, not_true_eq_false, am_b0, am_b1, Nat.not_lt_zero, am_tl0, am_tl1, kr_32, kn_32, kl_32, kc_32_0, kc_32_1, kl_27, ko_27, kn_27, ka_32_38, kc_32_4, kc_32_5, kc_32_6, kf_32_34, kc_32_9, kc_32_10, kl_10, ko_10, kn_10, ka_32_41, kc_32_13, kl_28, ko_28, kn_28, ka_32_47, kc_32_16, kc_32_17, tn_X0, tn_X1, tn_X2, tn_X3, tn_X4, tn_X5, tn_X6, tn_X7, tn_X8, tn_X9, tn_X10, tn_X11, tn_X12, tn_X13, tn_X14, tn_X15, tn_X16, tn_X17, tn_X18, tn_X19, tn_X20, tn_X21, tn_X22]
  have C2 := C.K f2
  refine sp_10 C2 ha ?_
  simp only [am_Zs, am_zn_1, am_g3, am_a3, am_kz_l, am_kz_r, am_mem, Bool.false_eq_true, am_Rs, am_R0, am_g2, am_al, am_kk_l, am_kk_r, am_step, am_op, am_one, am_two, am_br, am_inv, am_pp, am_ct, am_in, am_no, am_rc, am_s1, am_cut, am_s2, List.getElem?_cons_zero, List.getElem?_cons_succ, List.set_cons_zero, List.set_cons_succ, Value.category, List.cons_append, List.nil_append, am_f0, am_f1, am_f2, am_f3, am_cm1, am_c0, am_c1, am_c2, am_c3, am_c20, am_c40, am_c400, am_c401, am_c1600, true_and, and_true, true_implies, if_true, if_false, Nat.reduceAdd, Nat.reduceSub, Nat.reduceLT, Nat.reduceLeDiff, Nat.reduceEqDiff, reduceIte, Nat.le_refl, or_false, false_and, false_implies, or_true, true_or, implies_true, pk_us, pk_un, am_vs, am_vn, bx_uu, ne_eq, not_false_eq_true, not_true_eq_false, am_b0, am_b1, Nat.not_lt_zero, am_tl0, am_tl1, kr_32, kn_32, kl_32, kc_32_0, kc_32_1, kl_27, ko_27, kn_27, ka_32_38, kc_32_4, kc_32_5, kc_32_6, kf_32_34, kc_32_9, kc_32_10, kl_10, ko_10, kn_10, ka_32_41, kc_32_13, kl_28, ko_28, kn_28, ka_32_47, kc_32_16, kc_32_17, tn_X0, tn_X1, tn_X2, tn_X3, tn_X4, tn_X5, tn_X6, tn_X7, tn_X8, tn_X9, tn_X10, tn_X11, tn_X12, tn_X13, tn_X14, tn_X15, tn_X16, tn_X17, tn_X18, tn_X19, tn_X20, tn_X21, tn_X22]
  refine sp_28 (R := fun x => pu_hg hs x = x ∧ tn_rc n ar sg pt hs (pu_hg hs a) x) C2 (fun x hx hRx k hk => ?_) (C.g ha) ⟨(pu_hg_part C.V a).2, fun S s0 _ => s0⟩ K2 ⟨List.nodup_nil, fun x hx => (by cases hx), trivial, trivial⟩ (fun O tr h3 K3 D3 hsub f3 => ?_) (fun h3 hno _ => ?_)
  · obtain ⟨s, e1, e2, e3, e4, e5, e6⟩ := C.ch hx hk
    exact ⟨e6, fun S s0 sc => sc x hx (hRx.2 S s0 sc) k hk⟩
  · simp only [am_Zs, am_zn_1, am_g3, am_a3, am_kz_l, am_kz_r, am_mem, Bool.false_eq_true, am_Rs, am_R0, am_g2, am_al, am_kk_l, am_kk_r, am_step, am_op, am_one, am_two, am_br, am_inv, am_pp, am_ct, am_in, am_no, am_rc, am_s1, am_cut, am_s2, List.getElem?_cons_zero, List.getElem?_cons_succ, List.set_cons_zero, List.set_cons_succ, Value.category, List.cons_append, List.nil_append, am_f0, am_f1, am_f2, am_f3, am_cm1, am_c0, am_c1, am_c2, am_c3, am_c20, am_c40, am_c400, am_c401, am_c1600, true_and, and_true, true_implies, if_true, if_false, Nat.reduceAdd, Nat.reduceSub, Nat.reduceLT, Nat.reduceLeDiff, Nat.reduceEqDiff, reduceIte, Nat.le_refl, or_false, false_and, false_implies, or_true, true_or, implies_true, pk_us, pk_un, am_vs, am_vn, bx_uu, ne_eq, not_false_eq_true, not_true_eq_false, am_b0, am_b1, Nat.not_lt_zero, am_tl0, am_tl1, kr_32, kn_32, kl_32, kc_32_0, kc_32_1, kl_27, ko_27, kn_27, ka_32_38, kc_32_4, kc_32_5, kc_32_6, kf_32_34, kc_32_9, kc_32_10, kl_10, ko_10, kn_10, ka_32_41, kc_32_13, kl_28, ko_28, kn_28, ka_32_47, kc_32_16, kc_32_17, tn_X0, tn_X1, tn_X2, tn_X3, tn_X4, tn_X5, tn_X6, tn_X7, tn_X8, tn_X9, tn_X10, tn_X11, tn_X12, tn_X13, tn_X14, tn_X15, tn_X16, tn_X17, tn_X18, tn_X19, tn_X20, tn_X21, tn_X22]
    obtain ⟨d1, d2, d3, d4⟩ := D3
    refine h1 O tr h3 K3 ⟨d1, fun x hx => ⟨(d2 x hx).1, (d2 x hx).2.1⟩, d3, d4⟩ (fun x => ⟨fun hx => (d2 x hx).2.2, fun hx => ?_⟩) (f2.tr f3)
    refine hx (fun y => y ∈ O) (hsub _ List.mem_cons_self) (fun y _ hy k hk => ?_)
    have key : ∀ {O : List Nat}, pu_top (tn_dg ar sg hs) (tn_ch sg pt hs) O → y ∈ O → tn_ch sg pt hs y k ∈ O := by
      intro O
      induction O with
      | nil => intro _ q; cases q
      | cons z O ih =>
        intro ht q
        rcases List.mem_cons.mp q with e | q
        · subst e; exact List.mem_cons_of_mem _ (ht.1 k hk)
        · exact List.mem_cons_of_mem _ (ih ht.2 q)
    exact key d3 hy
  · obtain ⟨rk, hrk⟩ := hA
    exact absurd hrk (hno rk)
/-- Walk.findsBelow -/
theorem sp_36 (C : tn_C n m ar sg pt hs h) (hA : ∃ rk : Nat → Nat, ∀ x, x < n → ∀ k, k < tn_dg ar sg hs x → rk (tn_ch sg pt hs x k) < rk x) {a b : Nat} (ha : a < n) (hb : b < n)
    (h1 : ∀ h', tn_fK h h' → tn_rc n ar sg pt hs (pu_hg hs b) (pu_hg hs a) → Q h' (.inl (some (.int (nI 1))))) (h0 : ∀ h', tn_fK h h' → ¬ tn_rc n ar sg pt hs (pu_hg hs b) (pu_hg hs a) → Q h' (.inl (some (.int (nI 0))))) :
    am_AW tn_G tn_X (36, 0, 0, [some (.ref 3), some (.int (nI a)), some (.int (nI b))], [], h) Q := by
  have hn := C.le
  have ga := C.g ha
  refine am_AW.go [] 60 ?_
  simp only [am_Zs, am_zn_1, am_g3, am_a3, am_kz_l, am_kz_r, am_mem, Bool.false_eq_true, am_Rs, am_R0, am_g2, am_al, am_kk_l, am_kk_r, am_step, am_op, am_one, am_two, am_br, am_inv, am_pp, am_ct, am_in, am_no, am_rc, am_s1, am_cut, am_s2, List.getElem?_cons_zero, List.getElem?_cons_succ, List.set_cons_zero, List.set_cons_succ, Value.category, List.cons_append, List.nil_append, am_f0, am_f1, am_f2, am_f3, am_cm1, am_c0, am_c1, am_c2, am_c3, am_c20, am_c40, am_c400, am_c401, am_c1600, true_and, and_true, true_implies, if_true, if_false, Nat.reduceAdd, Nat.reduceSub, Nat.reduceLT, Nat.reduceLeDiff, Nat.reduceEqDiff, reduceIte, Nat.le_refl, or_false, false_and, false_implies, or_true, true_or, implies_true, pk_us, pk_un, am_vs, am_vn, bx_uu, ne_eq, not_false_eq_true, not_true_eq_false, am_b0, am_b1, Nat.not_lt_zero, am_tl0, am_tl1, kr_36, kn_36, kl_36, kc_36_0, kc_36_1, kc_36_2, kl_32, ko_32, kn_32, ka_36_51, kc_36_5, kc_36_6, kf_36_9, kc_36_9, kc_36_10, kf_36_34, kc_36_13, kc_36_14, kl_10, ko_10, kn_10, ka_36_41, kc_36_17, kc_36_18, kc_36_19, kc_36_22, kc_36_23, kc_36_26, kc_36_27, tn_X0, tn_X1, tn_X2, tn_X3, tn_X4, tn_X5, tn_X6, tn_X7, tn_X8, tn_X9, tn_X10, tn_X11, tn_X12, tn_X13, tn_X14, tn_X15, tn_X16, tn_X17, tn_X18, tn_X19, tn_X20, tn_X21, tn_X22]
  refine sp_32 C hA hb (fun O tr h2 K2 D2 hO f2 => ?_)
  simp only [am_Zs, am_zn_1, am_g3, am_a3, am_kz_l, am_kz_r, am_mem, Bool.false_eq_true, am_Rs, am_R0, am_g2, am_al, am_kk_l, am_kk_r, am_step, am_op, am_one, am_two, am_br, am_inv, am_pp, am_ct, am_in, am_no, am_rc, am_s1, am_cut, am_s2, List.getElem?_cons_zero, List.getElem?_cons_succ, List.set_cons_zero, List.set_cons_succ, Value.category, List.cons_append, List.nil_append, am_f0, am_f1, am_f2, am_f3, am_cm1, am_c0, am_c1, am_c2, am_c3, am_c20, am_c40, am_c400, am_c401, am_c1600, true_and, and_true, true_implies, if_true, if_false, Nat.reduceAdd, Nat.reduceSub, Nat.reduceLT, Nat.reduceLeDiff, Nat.reduceEqDiff, reduceIte, Nat.le_refl, or_false, false_and, false_implies, or_true, true_or, implies_true, pk_us, pk_un, am_vs, am_vn, bx_uu, ne_eq, not_false_eq_true, not_true_eq_false, am_b0, am_b1, Nat.not_lt_zero, am_tl0, am_tl1, kr_36, kn_36, kl_36, kc_36_0, kc_36_1, kc_36_2, kl_32, ko_32, kn_32, ka_36_51, kc_36_5, kc_36_6, kf_36_9, kc_36_9, kc_36_10, kf_36_34, kc_36_13, kc_36_14, kl_10, ko_10, kn_10, ka_36_41, kc_36_17, kc_36_18, kc_36_19, kc_36_22, kc_36_23, kc_36_26, kc_36_27, tn_X0, tn_X1, tn_X2, tn_X3, tn_X4, tn_X5, tn_X6, tn_X7, tn_X8, tn_X9, tn_X10, tn_X11, tn_X12, tn_X13, tn_X14, tn_X15, tn_X16, tn_X17, tn_X18, tn_X19, tn_X20, tn_X21, tn_X22]
  refine sp_10 (C.K f2) ha ?_
  simp only [am_Zs, am_zn_1, am_g3, am_a3, am_kz_l, am_kz_r, am_mem, Bool.false_eq_true, am_Rs, am_R0, am_g2, am_al, am_kk_l, am_kk_r, am_step, am_op, am_one, am_two, am_br, am_inv, am_pp, am_ct, am_in, am_no, am_rc, am_s1, am_cut, am_s2, List.getElem?_cons_zero, List.getElem?_cons_succ, List.set_cons_zero, List.set_cons_succ, Value.category, List.cons_append, List.nil_append, am_f0, am_f1, am_f2, am_f3, am_cm1, am_c0, am_c1, am_c2, am_c3, am_c20, am_c40, am_c400, am_c401, am_c1600, true_and, and_true, true_implies, if_true, if_false, Nat.reduceAdd, Nat.reduceSub, Nat.reduceLT, Nat.reduceLeDiff, Nat.reduceEqDiff, reduceIte, Nat.le_refl, or_false, false_and, false_implies, or_true, true_or, implies_true, pk_us, pk_un, am_vs, am_vn, bx_uu, ne_eq, not_false_eq_true, not_true_eq_false, am_b0, am_b1, Nat.not_lt_zero, am_tl0, am_tl1, kr_36, kn_36, kl_36, kc_36_0, kc_36_1, kc_36_2, kl_32, ko_32, kn_32, ka_36_51, kc_36_5, kc_36_6, kf_36_9, kc_36_9, kc_36_10, kf_36_34, kc_36_13, kc_36_14, kl_10, ko_10, kn_10, ka_36_41, kc_36_17, kc_36_18, kc_36_19, kc_36_22, kc_36_23, kc_36_26, kc_36_27, tn_X0, tn_X1, tn_X2, tn_X3, tn_X4, tn_X5, tn_X6, tn_X7, tn_X8, tn_X9, tn_X10, tn_X11, tn_X12, tn_X13, tn_X14, tn_X15, tn_X16, tn_X17, tn_X18, tn_X19, tn_X20, tn_X21, tn_X22]
  rw [cl_ (by omega), K2.2.2.1 _ (by omega)]
  refine ⟨vi_ (by omega) (by omega), fun e => h0 h2 f2 (fun q => e ?_), fun e => h1 h2 f2 ((hO _).mp ?_)⟩
  · rw [if_pos ((hO _).mpr q)]
  · by_cases q : pu_hg hs a ∈ O
    · exact q
    · rw [if_neg q] at e
      simp only [List.not_mem_nil, if_false] at e
      exact absurd e (by decide)
/-- unknownsBelow, its loop -/
theorem sp_37l (C : tn_C n m ar sg pt hs h) {O : List Nat} {tr : Nat → Nat} (K : tn_K [] O tr h) (D : pu_DS n (tn_dg ar sg hs) (tn_ch sg pt hs) (fun x => pu_hg hs x = x) [] O tr) {r : Int32} (hQ : Q h (.inl (some (.int (nI (O.filter (fun x => decide (pu_hs sg hs x = none))).length))))) :
    ∀ (A B : List Nat), O = A ++ B → am_AW tn_G tn_X (37, 9, 0, [some (.ref 3), some (.int r), some (.int (nI (B.filter (fun x => decide (pu_hs sg hs x = none))).length)), some (.int (nI B.length))], [], h) Q := by
  have hn := C.le
  have hl := D.len
  simp only [List.length_nil, Nat.zero_add] at hl
  intro A
  refine pu_rev_ind (p := fun A => ∀ B : List Nat, O = A ++ B → am_AW tn_G tn_X (37, 9, 0, [some (.ref 3), some (.int r), some (.int (nI (B.filter (fun x => decide (pu_hs sg hs x = none))).length)), some (.int (nI B.length))], [], h) Q) ?_ ?_ A
  · intro B e
    simp only [List.nil_append] at e
    subst e
    refine am_AW.go [9] 60 ?_
    simp only [am_Zs, am_zn_1, am_g3, am_a3, am_kz_l, am_kz_r, am_mem, Bool.false_eq_true, am_Rs, am_R0, am_g2, am_al, am_kk_l, am_kk_r, am_step, am_op, am_one, am_two, am_br, am_inv, am_pp, am_ct, am_in, am_no, am_rc, am_s1, am_cut, am_s2, List.getElem?_cons_zero, List.getElem?_cons_succ, List.set_cons_zero, List.set_cons_succ, Value.category, List.cons_append, List.nil_append, am_f0, am_f1, am_f2, am_f3, am_cm1, am_c0, am_c1, am_c2, am_c3, am_c20, am_c40, am_c400, am_c401, am_c1600, true_and, and_true, true_implies, if_true, if_false, Nat.reduceAdd, Nat.reduceSub, Nat.reduceLT, Nat.reduceLeDiff, Nat.reduceEqDiff, reduceIte, Nat.le_refl, or_false, false_and, false_implies, or_true, true_or, implies_true, pk_us, pk_un, am_vs, am_vn, bx_uu, ne_eq, not_false_eq_true, not_true_eq_false, am_b0, am_b1, Nat.not_lt_zero, am_tl0, am_tl1, kr_37, kn_37, kl_37, kc_37_0, kc_37_1, kc_37_2, kl_32, ko_32, kn_32, ka_37_51, kc_37_5, kc_37_6, kc_37_7, kc_37_8, kc_37_9, kc_37_10, kc_37_11, kf_37_31, kc_37_14, kc_37_17, kc_37_18, kf_37_34, kc_37_21, kc_37_22, kf_37_21, kc_37_25, kc_37_26, kc_37_27, kl_15, ko_15, kn_15, ka_37_79, kc_37_30, kc_37_33, kc_37_36, kc_37_39, kc_37_42, kc_37_43, tn_X0, tn_X1, tn_X2, tn_X3, tn_X4, tn_X5, tn_X6, tn_X7, tn_X8, tn_X9, tn_X10, tn_X11, tn_X12, tn_X13, tn_X14, tn_X15, tn_X16, tn_X17, tn_X18, tn_X19, tn_X20, tn_X21, tn_X22]
    rw [K.2.1, nI_leI (by omega) (by omega)]
    exact ⟨fun _ => hQ, fun q => absurd (Nat.le_refl _) q⟩
  · intro A y ih B e
    have hlen : O.length = A.length + 1 + B.length := by rw [e]; simp; omega
    have hy : y ∈ O := by rw [e]; simp
    obtain ⟨hyn, hyl⟩ := D.2.1 y hy
    have hget : O.reverse[B.length]? = some y := by
      rw [e, List.reverse_append, List.reverse_append, List.getElem?_append_right (by rw [List.length_reverse]; exact Nat.le_refl _), List.length_reverse, Nat.sub_self]
      rfl
    have k6 := K.2.2.2.2.2 B.length y hget
    refine am_AW.go [9] 60 ?_
    simp only [am_Zs, am_zn_1, am_g3, am_a3, am_kz_l, am_kz_r, am_mem, Bool.false_eq_true, am_Rs, am_R0, am_g2, am_al, am_kk_l, am_kk_r, am_step, am_op, am_one, am_two, am_br, am_inv, am_pp, am_ct, am_in, am_no, am_rc, am_s1, am_cut, am_s2, List.getElem?_cons_zero, List.getElem?_cons_succ, List.set_cons_zero, List.set_cons_succ, Value.category, List.cons_append, List.nil_append, am_f0, am_f1, am_f2, am_f3, am_cm1, am_c0, am_c1, am_c2, am_c3, am_c20, am_c40, am_c400, am_c401, am_c1600, true_and, and_true, true_implies, if_true, if_false, Nat.reduceAdd, Nat.reduceSub, Nat.reduceLT, Nat.reduceLeDiff, Nat.reduceEqDiff, reduceIte, Nat.le_refl, or_false, false_and, false_implies, or_true, true_or, implies_true, pk_us, pk_un, am_vs, am_vn, bx_uu, ne_eq, not_false_eq_true, not_true_eq_false, am_b0, am_b1, Nat.not_lt_zero, am_tl0, am_tl1, kr_37, kn_37, kl_37, kc_37_0, kc_37_1, kc_37_2, kl_32, ko_32, kn_32, ka_37_51, kc_37_5, kc_37_6, kc_37_7, kc_37_8, kc_37_9, kc_37_10, kc_37_11, kf_37_31, kc_37_14, kc_37_17, kc_37_18, kf_37_34, kc_37_21, kc_37_22, kf_37_21, kc_37_25, kc_37_26, kc_37_27, kl_15, ko_15, kn_15, ka_37_79, kc_37_30, kc_37_33, kc_37_36, kc_37_39, kc_37_42, kc_37_43, tn_X0, tn_X1, tn_X2, tn_X3, tn_X4, tn_X5, tn_X6, tn_X7, tn_X8, tn_X9, tn_X10, tn_X11, tn_X12, tn_X13, tn_X14, tn_X15, tn_X16, tn_X17, tn_X18, tn_X19, tn_X20, tn_X21, tn_X22]
    rw [K.2.1, nI_leI (by omega) (by omega), cl_ (by omega), k6]
    refine ⟨fun q => by omega, fun _ => ⟨vi_ (by omega) (by omega), ?_⟩⟩
    have i1 := ih (y :: B) (by rw [e, List.append_assoc]; rfl)
    refine sp_15 C hyn (fun e2 => ?_) (fun z e2 => ?_)
    · simp only [am_Zs, am_zn_1, am_g3, am_a3, am_kz_l, am_kz_r, am_mem, Bool.false_eq_true, am_Rs, am_R0, am_g2, am_al, am_kk_l, am_kk_r, am_step, am_op, am_one, am_two, am_br, am_inv, am_pp, am_ct, am_in, am_no, am_rc, am_s1, am_cut, am_s2, List.getElem?_cons_zero, List.getElem?_cons_succ, List.set_cons_zero, List.set_cons_succ, Value.category, List.cons_append, List.nil_append, am_f0, am_f1, am_f2, am_f3, am_cm1, am_c0, am_c1, am_c2, am_c3, am_c20, am_c40, am_c400, am_c401, am_c1600, true_and, and_true, true_implies, if_true, if_false, Nat.reduceAdd, Nat.reduceSub, Nat.reduceLT, Nat.reduceLeDiff, Nat.reduceEqDiff, reduceIte, Nat.le_refl, or_false, false_and, false_implies, or_true, true_or, implies_true, pk_us, pk_un, am_vs, am_vn, bx_uu, ne_eq, not_false_eq_true, not_true_eq_false, am_b0, am_b1, Nat.not_lt_zero, am_tl0, am_tl1, kr_37, kn_37, kl_37, kc_37_0, kc_37_1, kc_37_2, kl_32, ko_32, kn_32, ka_37_51, kc_37_5, kc_37_6, kc_37_7, kc_37_8, kc_37_9, kc_37_10, kc_37_11, kf_37_31, kc_37_14, kc_37_17, kc_37_18, kf_37_34, kc_37_21, kc_37_22, kf_37_21, kc_37_25, kc_37_26, kc_37_27, kl_15, ko_15, kn_15, ka_37_79, kc_37_30, kc_37_33, kc_37_36, kc_37_39, kc_37_42, kc_37_43, tn_X0, tn_X1, tn_X2, tn_X3, tn_X4, tn_X5, tn_X6, tn_X7, tn_X8, tn_X9, tn_X10, tn_X11, tn_X12, tn_X13, tn_X14, tn_X15, tn_X16, tn_X17, tn_X18, tn_X19, tn_X20, tn_X21, tn_X22]
      refine ⟨fun q => absurd nI_0 q, fun _ => ?_⟩
      rw [nI_add, nI_add]
      rw [hyl] at e2
      rw [List.filter_cons_of_pos (by simp [e2]), List.length_cons, List.length_cons] at i1
      exact i1
    · simp only [am_Zs, am_zn_1, am_g3, am_a3, am_kz_l, am_kz_r, am_mem, Bool.false_eq_true, am_Rs, am_R0, am_g2, am_al, am_kk_l, am_kk_r, am_step, am_op, am_one, am_two, am_br, am_inv, am_pp, am_ct, am_in, am_no, am_rc, am_s1, am_cut, am_s2, List.getElem?_cons_zero, List.getElem?_cons_succ, List.set_cons_zero, List.set_cons_succ, Value.category, List.cons_append, List.nil_append, am_f0, am_f1, am_f2, am_f3, am_cm1, am_c0, am_c1, am_c2, am_c3, am_c20, am_c40, am_c400, am_c401, am_c1600, true_and, and_true, true_implies, if_true, if_false, Nat.reduceAdd, Nat.reduceSub, Nat.reduceLT, Nat.reduceLeDiff, Nat.reduceEqDiff, reduceIte, Nat.le_refl, or_false, false_and, false_implies, or_true, true_or, implies_true, pk_us, pk_un, am_vs, am_vn, bx_uu, ne_eq, not_false_eq_true, not_true_eq_false, am_b0, am_b1, Nat.not_lt_zero, am_tl0, am_tl1, kr_37, kn_37, kl_37, kc_37_0, kc_37_1, kc_37_2, kl_32, ko_32, kn_32, ka_37_51, kc_37_5, kc_37_6, kc_37_7, kc_37_8, kc_37_9, kc_37_10, kc_37_11, kf_37_31, kc_37_14, kc_37_17, kc_37_18, kf_37_34, kc_37_21, kc_37_22, kf_37_21, kc_37_25, kc_37_26, kc_37_27, kl_15, ko_15, kn_15, ka_37_79, kc_37_30, kc_37_33, kc_37_36, kc_37_39, kc_37_42, kc_37_43, tn_X0, tn_X1, tn_X2, tn_X3, tn_X4, tn_X5, tn_X6, tn_X7, tn_X8, tn_X9, tn_X10, tn_X11, tn_X12, tn_X13, tn_X14, tn_X15, tn_X16, tn_X17, tn_X18, tn_X19, tn_X20, tn_X21, tn_X22]
      refine ⟨fun _ => ?_, fun q => absurd q (by decide)⟩
      rw [nI_add]
      rw [hyl] at e2
      rw [List.filter_cons_of_neg (by simp [e2]), List.length_cons] at i1
      exact i1
/-- Walk.unknownsBelow -/
theorem sp_37 (C : tn_C n m ar sg pt hs h) (hA : ∃ rk : Nat → Nat, ∀ x, x < n → ∀ k, k < tn_dg ar sg hs x → rk (tn_ch sg pt hs x k) < rk x) {a : Nat} (ha : a < n)
    (h1 : ∀ (O : List Nat) (h' : am_S), O.Nodup → (∀ x ∈ O, x < n ∧ pu_hg hs x = x) → (∀ x, x ∈ O ↔ tn_rc n ar sg pt hs (pu_hg hs a) x) → tn_fK h h' → Q h' (.inl (some (.int (nI (O.filter (fun x => decide (pu_hs sg hs x = none))).length))))) :
    am_AW tn_G tn_X (37, 0, 0, [some (.ref 3), some (.int (nI a)), none, none], [], h) Q := by
  refine am_AW.go [9] 60 ?_
  simp only [am_Zs, am_zn_1, am_g3, am_a3, am_kz_l, am_kz_r, am_mem, Bool.false_eq_true, am_Rs, am_R0, am_g2, am_al, am_kk_l, am_kk_r, am_step, am_op, am_one, am_two, am_br, am_inv, am_pp, am_ct, am_in, am_no, am_rc, am_s1, am_cut, am_s2, List.getElem?_cons_zero, List.getElem?_cons_succ, List.set_cons_zero, List.set_cons_succ, Value.category, List.cons_append, List.nil_append, am_f0, am_f1, am_f2, am_f3, am_cm1, am_c0, am_c1, am_c2, am_c3, am_c20, am_c40, am_c400, am_c401, am_c1600, true_and, and_true, true_implies, if_true, if_false, Nat.reduceAdd, Nat.reduceSub, Nat.reduceLT, Nat.reduceLeDiff, Nat.reduceEqDiff, reduceIte, Nat.le_refl, or_false, false_and, false_implies, or_true, true_or, implies_true, pk_us, pk_un, am_vs, am_vn, bx_uu, ne_eq, not_false_eq_true, not_true_eq_false, am_b0, am_b1, Nat.not_lt_zero, am_tl0, am_tl1, kr_37, kn_37, kl_37, kc_37_0, kc_37_1, kc_37_2, kl_32, ko_32, kn_32, ka_37_51, kc_37_5, kc_37_6, kc_37_7, kc_37_8, kc_37_9, kc_37_10, kc_37_11, kf_37_31, kc_37_14, kc_37_17, kc_37_18, kf_37_34, kc_37_21, kc_37_22, kf_37_21, kc_37_25, kc_37_26, kc_37_27, kl_15, ko_15, kn_15, ka_37_79, kc_37_30, kc_37_33, kc_37_36, kc_37_39, kc_37_42, kc_37_43, tn_X0, tn_X1, tn_X2, tn_X3, tn_X4, tn_X5, tn_X6, tn_X7, tn_X8, tn_X9, tn_X10, tn_X11, tn_X12, tn_X13, tn_X14, tn_X15, tn_X16, tn_X17, tn_X18, tn_X19, tn_X20, tn_X21, tn_X22]
  refine sp_32 C hA ha (fun O tr h2 K2 D2 hO f2 => ?_)
  simp only [am_Zs, am_zn_1, am_g3, am_a3, am_kz_l, am_kz_r, am_mem, Bool.false_eq_true, am_Rs, am_R0, am_g2, am_al, am_kk_l, am_kk_r, am_step, am_op, am_one, am_two, am_br, am_inv, am_pp, am_ct, am_in, am_no, am_rc, am_s1, am_cut, am_s2, List.getElem?_cons_zero, List.getElem?_cons_succ, List.set_cons_zero, List.set_cons_succ, Value.category, List.cons_append, List.nil_append, am_f0, am_f1, am_f2, am_f3, am_cm1, am_c0, am_c1, am_c2, am_c3, am_c20, am_c40, am_c400, am_c401, am_c1600, true_and, and_true, true_implies, if_true, if_false, Nat.reduceAdd, Nat.reduceSub, Nat.reduceLT, Nat.reduceLeDiff, Nat.reduceEqDiff, reduceIte, Nat.le_refl, or_false, false_and, false_implies, or_true, true_or, implies_true, pk_us, pk_un, am_vs, am_vn, bx_uu, ne_eq, not_false_eq_true, not_true_eq_false, am_b0, am_b1, Nat.not_lt_zero, am_tl0, am_tl1, kr_37, kn_37, kl_37, kc_37_0, kc_37_1, kc_37_2, kl_32, ko_32, kn_32, ka_37_51, kc_37_5, kc_37_6, kc_37_7, kc_37_8, kc_37_9, kc_37_10, kc_37_11, kf_37_31, kc_37_14, kc_37_17, kc_37_18, kf_37_34, kc_37_21, kc_37_22, kf_37_21, kc_37_25, kc_37_26, kc_37_27, kl_15, ko_15, kn_15, ka_37_79, kc_37_30, kc_37_33, kc_37_36, kc_37_39, kc_37_42, kc_37_43, tn_X0, tn_X1, tn_X2, tn_X3, tn_X4, tn_X5, tn_X6, tn_X7, tn_X8, tn_X9, tn_X10, tn_X11, tn_X12, tn_X13, tn_X14, tn_X15, tn_X16, tn_X17, tn_X18, tn_X19, tn_X20, tn_X21, tn_X22]
  exact sp_37l (C.K f2) K2 D2 (h1 O h2 (by simpa using D2.1) (fun x hx => D2.2.1 x hx) hO f2) O [] (by simp)
end RE
