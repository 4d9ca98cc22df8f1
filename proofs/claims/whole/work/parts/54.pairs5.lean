/-! PAIRS: term. -/
section PAIR5
variable {hX hY : am_S}
set_option maxRecDepth 20000 in
theorem pr_term (R : tn_R hX hY) {s a b c : Int32} : am_AW tn_G tn_X (42, 0, 0, [some (.ref 0), some (.int s), some (.int a), some (.int b), some (.int c), none], [], hX) (fun hX' o => am_AW tn_G tn_Y (61, 0, 0, [some (.ref 0), some (.int s), some (.int a), some (.int b), some (.int c), none], [], hY) (fun hY' o' => tn_R hX' hY' ∧ tn_ag tn_nS o o' (hY'.1 4))) := by
  obtain ⟨n, m, ar, sg, pt, hs, eq, P, I, J⟩ := R
  have hn := I.1.le
  have hm := I.1.m4
  refine sp_42 I (fun j hs' h' hj es h4 args R0 hx I' => ?_) (fun e => ?_) (fun j hj es q1 q2 q3 hn4 => ?_)
  · refine sp_61 J (fun j2 hj2 es2 q1 q2 q3 _ => ?_) (fun bad => ?_) (fun j2 _ _ _ _ _ e => by omega)
    · have e2 : j2 = j := by
        rw [es, nI_eq (by omega) (by omega)] at es2
        exact es2.symm
      subst e2
      have npj : pu_np (fun t => if t = n then some j2 else sg t) ar n = ar j2 := by simp [pu_np]
      refine am_AW.go [] 9 ?_
      simp only [am_Zs, am_zn_1, am_g3, am_a3, am_kz_l, am_kz_r, am_mem, Bool.false_eq_true, am_Rs, am_R0, am_g2, am_al, am_kk_l, am_kk_r, am_step, am_op, am_one, am_two, am_br, am_inv, am_pp, am_ct, am_in, am_no, am_rc, am_s1, am_cut, am_s2, List.getElem?_cons_zero, List.getElem?_cons_succ, List.set_cons_zero, List.set_cons_succ, Value.category, List.cons_append, List.nil_append, am_f0, am_f1, am_f2, am_f3, am_cm1, am_c0, am_c1, am_c2, am_c3, am_c20, am_c40, am_c400, am_c401, am_c1600, true_and, and_true, true_implies, if_true, if_false, Nat.reduceAdd, Nat.reduceSub, Nat.reduceLT, Nat.reduceLeDiff, Nat.reduceEqDiff, reduceIte, Nat.le_refl, or_false, false_and, false_implies, or_true, true_or, implies_true, pk_us, pk_un, am_vs, am_vn, bx_uu, ne_eq, not_false_eq_true, not_true_eq_false, am_b0, am_b1, Nat.not_lt_zero, am_tl0, am_tl1, am_l1, kr_61, kn_61, kl_61, kc_61_0, kc_61_1, kc_61_4, kc_61_5, kc_61_6, kf_61_57, kc_61_9, kc_61_12, kc_61_13, kc_61_16, kc_61_17, kc_61_19, kc_61_21, kc_61_24, kc_61_25, kf_61_9, kc_61_28, kc_61_29, kc_61_30, kc_61_31, kc_61_34, kc_61_35, kc_61_36, kl_62, ko_62, kn_62, ka_61_68, kc_61_39, kc_61_42, kc_61_43, kc_61_46, kc_61_47, kc_61_48, kc_61_49, kc_61_52, kc_61_53, kc_61_54, kc_61_57, kc_61_60, kc_61_61, kc_61_64, kc_61_65, kc_61_66, kc_61_67, kc_61_70, kc_61_71, kc_61_73, kc_61_76, kc_61_79, kc_61_80, kc_61_83, kc_61_84, kc_61_86, kc_61_87, kc_61_89, kc_61_92, kc_61_93, kc_61_96, kc_61_97, kf_61_54, kc_61_100, kc_61_103, kc_61_106, kc_61_107, kc_61_110, kc_61_111, kf_61_50, kc_61_114, kc_61_115, kc_61_118, kc_61_121, kc_61_122, kc_61_125, kc_61_126, kc_61_127, kc_61_128, kc_61_129, kc_61_131, kl_58, ko_58, kn_58, ka_61_64, kc_61_134, tn_Y0, tn_Y1, tn_Y2, tn_Y3, tn_Y4, tn_Y5, tn_Y6, tn_Y7, tn_Y8, tn_Y9, tn_Y10, tn_Y11, tn_Y12, tn_Y13]
      refine sp_58 (J.fA tn_fA.t) I.1.V I.2.2.2.2.2.1 h4 (tn_al_new (some j2) (tn_a3 a b c)) (fun k hk => ?_) (fun u q => ?_) ?_ ?_ (fun k hk => ?_) R0 hx (fun h2 J2 e => ?_)
      · rw [npj] at hk
        simp only [if_true]
        exact (args k hk).1
      · simp only [if_true, Option.some.injEq] at q
        omega
      · simp only [if_true, tn_o]
        exact es
      · rw [npj]; exact I.1.a3 hj
      · rw [npj] at hk
        simp only [if_true]
        exact (args k hk).2
      · simp only [am_Zs, am_zn_1, am_g3, am_a3, am_kz_l, am_kz_r, am_mem, Bool.false_eq_true, am_Rs, am_R0, am_g2, am_al, am_kk_l, am_kk_r, am_step, am_op, am_one, am_two, am_br, am_inv, am_pp, am_ct, am_in, am_no, am_rc, am_s1, am_cut, am_s2, List.getElem?_cons_zero, List.getElem?_cons_succ, List.set_cons_zero, List.set_cons_succ, Value.category, List.cons_append, List.nil_append, am_f0, am_f1, am_f2, am_f3, am_cm1, am_c0, am_c1, am_c2, am_c3, am_c20, am_c40, am_c400, am_c401, am_c1600, true_and, and_true, true_implies, if_true, if_false, Nat.reduceAdd, Nat.reduceSub, Nat.reduceLT, Nat.reduceLeDiff, Nat.reduceEqDiff, reduceIte, Nat.le_refl, or_false, false_and, false_implies, or_true, true_or, implies_true, pk_us, pk_un, am_vs, am_vn, bx_uu, ne_eq, not_false_eq_true, not_true_eq_false, am_b0, am_b1, Nat.not_lt_zero, am_tl0, am_tl1, am_l1, kr_61, kn_61, kl_61, kc_61_0, kc_61_1, kc_61_4, kc_61_5, kc_61_6, kf_61_57, kc_61_9, kc_61_12, kc_61_13, kc_61_16, kc_61_17, kc_61_19, kc_61_21, kc_61_24, kc_61_25, kf_61_9, kc_61_28, kc_61_29, kc_61_30, kc_61_31, kc_61_34, kc_61_35, kc_61_36, kl_62, ko_62, kn_62, ka_61_68, kc_61_39, kc_61_42, kc_61_43, kc_61_46, kc_61_47, kc_61_48, kc_61_49, kc_61_52, kc_61_53, kc_61_54, kc_61_57, kc_61_60, kc_61_61, kc_61_64, kc_61_65, kc_61_66, kc_61_67, kc_61_70, kc_61_71, kc_61_73, kc_61_76, kc_61_79, kc_61_80, kc_61_83, kc_61_84, kc_61_86, kc_61_87, kc_61_89, kc_61_92, kc_61_93, kc_61_96, kc_61_97, kf_61_54, kc_61_100, kc_61_103, kc_61_106, kc_61_107, kc_61_110, kc_61_111, kf_61_50, kc_61_114, kc_61_115, kc_61_118, kc_61_121, kc_61_122, kc_61_125, kc_61_126, kc_61_127, kc_61_128, kc_61_129, kc_61_131, kl_58, ko_58, kn_58, ka_61_64, kc_61_134, tn_Y0, tn_Y1, tn_Y2, tn_Y3, tn_Y4, tn_Y5, tn_Y6, tn_Y7, tn_Y8, tn_Y9, tn_Y10, tn_Y11, tn_Y12, tn_Y13]
        exact ⟨⟨_, _, _, _, _, _, _, _, I', J2⟩, Or.inl ⟨_, rfl, rfl, by rw [e]; simp only [pk_us]⟩⟩
    · rcases bad j hj es with q | q | q
      · exact absurd (args 0 q.1).2 (q.2 _ (args 0 q.1).1)
      · exact absurd (args 1 q.1).2 (q.2 _ (args 1 q.1).1)
      · exact absurd (args 2 q.1).2 (q.2 _ (args 2 q.1).1)
  · have no : ∀ j, j < m → s = nI j → (0 < ar j → ∃ t, t < n ∧ a = nI t) → (1 < ar j → ∃ t, t < n ∧ b = nI t) → (2 < ar j → ∃ t, t < n ∧ c = nI t) → False := fun j hj es q1 q2 q3 => by
      rcases e j hj es with q | q | q
      · obtain ⟨t, ht, et⟩ := q1 q.1; exact q.2 t ht et
      · obtain ⟨t, ht, et⟩ := q2 q.1; exact q.2 t ht et
      · obtain ⟨t, ht, et⟩ := q3 q.1; exact q.2 t ht et
    exact sp_61 J (fun j hj es q1 q2 q3 _ => (no j hj es q1 q2 q3).elim) (fun _ => ⟨⟨_, _, _, _, _, _, _, _, I, J.fA tn_fA.t⟩, Or.inr ⟨_, _, rfl, by decide, by decide, by simp only [pk_us]; rfl, rfl⟩⟩) (fun j hj es q1 q2 q3 _ => (no j hj es q1 q2 q3).elim)
  · refine sp_61 J (fun j2 _ _ _ _ _ e => by omega) (fun bad => ?_) (fun j2 _ _ _ _ _ _ => ⟨⟨_, _, _, _, _, _, _, _, I, J.fA tn_fA.t⟩, Or.inr ⟨_, _, rfl, by decide, by decide, by simp only [pk_us]; rfl, rfl⟩⟩)
    exfalso
    rcases bad j hj es with q | q | q
    · obtain ⟨t, ht, et⟩ := q1 q.1; exact q.2 t ht et
    · obtain ⟨t, ht, et⟩ := q2 q.1; exact q.2 t ht et
    · obtain ⟨t, ht, et⟩ := q3 q.1; exact q.2 t ht et
end PAIR5
