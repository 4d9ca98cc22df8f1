/-! PURE: what look keeps: an order of the groups that are ready. -/
def pu_ix : List Nat → Nat → Nat
  | [], _ => 0
  | x :: O, u => if x = u then O.length + 1 else pu_ix O u
theorem pu_ix_le : ∀ {O : List Nat} {u : Nat}, pu_ix O u ≤ O.length
  | [], _ => Nat.le_refl _
  | x :: O, u => by
    have := pu_ix_le (O := O) (u := u)
    simp only [pu_ix, List.length_cons]
    by_cases e : x = u
    · rw [if_pos e]; exact Nat.le_refl _
    · rw [if_neg e]; omega
theorem pu_ix_top {deg : Nat → Nat} {ch : Nat → Nat → Nat} : ∀ {O : List Nat}, pu_top deg ch O → O.Nodup → ∀ u ∈ O, ∀ k, k < deg u → pu_ix O (ch u k) < pu_ix O u
  | [], _, _, u, hu, _, _ => by cases hu
  | x :: O, h, nd, u, hu, k, hk => by
    have nd' := List.nodup_cons.mp nd
    by_cases e : x = u
    · subst e
      have c := h.1 k hk
      have ne : ¬ x = ch x k := fun q => nd'.1 (q ▸ c)
      have := pu_ix_le (O := O) (u := ch x k)
      simp only [pu_ix]
      rw [if_neg ne, if_pos trivial]
      omega
    · have hu' : u ∈ O := (List.mem_cons.mp hu).resolve_left (fun q => e q.symm)
      have c := pu_top_in hk h.2 hu'
      have ne : ¬ x = ch u k := fun q => nd'.1 (q ▸ c)
      simp only [pu_ix]
      rw [if_neg ne, if_neg e]
      exact pu_ix_top h.2 nd'.2 u hu' k hk
def tn_kn (n : Nat) (sg : Nat → Option Nat) (hs : List (Nat × Nat)) (kn : Nat → Option Nat) : Prop := ∀ u, u < n → (∀ x, kn u = some x → x < n ∧ sg x ≠ none ∧ pu_hg hs x = u) ∧ (kn u = none → ∀ x, x < n → pu_hg hs x = u → sg x = none)
section KN
variable {n : Nat} {ar : Nat → Nat} {sg : Nat → Option Nat} {pt : Nat → Nat → Nat} {hs : List (Nat × Nat)} {kn : Nat → Option Nat} {L : List Nat}
/-- a group's parts, by any of its members that are told -/
theorem tn_dc (hV : pu_V n hs) (hU : pu_U n sg ar pt (pu_hg hs)) {u x : Nat} (hg : pu_hg hs u = u) (hu : u < n) (hx : x < n) (sx : sg x ≠ none) (e : pu_hg hs x = u) : pu_hs sg hs u ≠ none ∧ tn_dg ar sg hs u = pu_np sg ar x ∧ ∀ k, k < pu_np sg ar x → tn_ch sg pt hs u k = pu_hg hs (pt x k) := by
  have sh := pu_shape sg hV u hg
  cases q : pu_hs sg hs u with
  | none => exact absurd (sh.2 q x e) sx
  | some s =>
    have hs9 := pu_shape_lt hV hu q
    have E := hU x s hx hs9 sx (sh.1 s q).2 (by rw [e, (sh.1 s q).1])
    refine ⟨fun z => (by cases z), ?_, fun k hk => ?_⟩
    · simp only [tn_dg, hg, q]
      exact (pu_np_eq E.1).symm
    · simp only [tn_ch, hg, q]
      exact (E.2 k hk).symm
theorem tn_dc0 (hV : pu_V n hs) {u : Nat} (hg : pu_hg hs u = u) (hu : u < n) (h : ∀ x, x < n → pu_hg hs x = u → sg x = none) : pu_hs sg hs u = none ∧ tn_dg ar sg hs u = 0 := by
  have sh := pu_shape sg hV u hg
  cases q : pu_hs sg hs u with
  | some s => exact absurd (h s (pu_shape_lt hV hu q) (sh.1 s q).1) (sh.1 s q).2
  | none => exact ⟨rfl, by simp only [tn_dg, hg, q]⟩
theorem tn_dcx (hV : pu_V n hs) {u k : Nat} (hg : pu_hg hs u = u) (hu : u < n) (hk : k < tn_dg ar sg hs u) : ∃ s, s < n ∧ sg s ≠ none ∧ pu_hg hs s = u ∧ k < pu_np sg ar s ∧ tn_ch sg pt hs u k = pu_hg hs (pt s k) := by
  have sh := pu_shape sg hV u hg
  cases q : pu_hs sg hs u with
  | none => simp only [tn_dg, hg, q] at hk; omega
  | some s =>
    simp only [tn_dg, hg, q] at hk
    exact ⟨s, pu_shape_lt hV hu q, (sh.1 s q).2, (sh.1 s q).1, hk, by simp only [tn_ch, hg, q]⟩
theorem tn_np_some {t k : Nat} (hk : k < pu_np sg ar t) : sg t ≠ none := fun e => by
  simp only [pu_np, e] at hk
  omega
theorem pu_A_of (hV : pu_V n hs) (hU : pu_U n sg ar pt (pu_hg hs)) (nd : L.Nodup) (top : pu_top (tn_dg ar sg hs) (tn_ch sg pt hs) L) (all : ∀ u, u < n → pu_hg hs u = u → u ∈ L) : pu_A n sg ar pt (pu_hg hs) := by
  refine ⟨pu_ix L, fun t ht k hk => ?_⟩
  have gl := hV.part.lt ht
  have gg := (hV.part t ht).2
  obtain ⟨-, d1, d2⟩ := tn_dc hV hU gg gl ht (tn_np_some hk) rfl
  rw [← d2 k hk]
  exact pu_ix_top top nd _ (all _ gl gg) k (by rw [d1]; exact hk)
theorem pu_A_not (hT : pu_Told n sg ar pt) (hV : pu_V n hs) (stuck : ∀ u, u < n → pu_hg hs u = u → u ∉ L → ∃ k, k < tn_dg ar sg hs u ∧ tn_ch sg pt hs u k ∉ L) {u0 : Nat} (h0 : u0 < n) (g0 : pu_hg hs u0 = u0) (hL : u0 ∉ L) : ¬ pu_A n sg ar pt (pu_hg hs) := by
  rintro ⟨rk, hrk⟩
  have key : ∀ N u, rk u < N → u < n → pu_hg hs u = u → u ∈ L := by
    intro N
    induction N with
    | zero => intro u q; omega
    | succ N ih =>
      intro u q hu hg
      apply Classical.byContradiction
      intro hn
      obtain ⟨k, hk, hc⟩ := stuck u hu hg hn
      obtain ⟨s, s1, s2, s3, s4, s5⟩ := tn_dcx (pt := pt) hV hg hu hk
      have lt := hrk s s1 k s4
      rw [s3, ← s5] at lt
      have hp : pt s k < n := Nat.lt_trans (hT s s1 k s4) s1
      exact hc (ih _ (by omega) (by rw [s5]; exact hV.part.lt hp) (by rw [s5]; exact (hV.part _ hp).2))
  exact hL (key _ u0 (Nat.lt_succ_self _) h0 g0)
end KN
/-! TermNetModel: look, its first loops. -/
theorem am_cM : (1000000000 : Int32) = nI 1000000000 := by decide
def tn_fL (h h' : am_S) : Prop := h'.1 = h.1 ∧ ∀ k, (k < 9 ∨ 12 < k) → h'.2 k = h.2 k
theorem tn_fL.rf {h : am_S} : tn_fL h h := ⟨rfl, fun _ _ => rfl⟩
theorem tn_fL.tr {h h1 h2 : am_S} (a : tn_fL h h1) (b : tn_fL h1 h2) : tn_fL h h2 := ⟨b.1.trans a.1, fun k hk => (b.2 k hk).trans (a.2 k hk)⟩
section LO
variable {n m : Nat} {ar : Nat → Nat} {sg : Nat → Option Nat} {pt : Nat → Nat → Nat} {hs : List (Nat × Nat)} {h : am_S} {Q : am_Q} {o : Nat}
theorem tn_B.L {h' : am_S} (B : tn_B n m ar sg pt h) (f : tn_fL h h') : tn_B n m ar sg pt h' := B.fr (fun i _ => by rw [f.1]) (fun k _ _ => f.2 k (by omega))
theorem tn_gr.L {g : Nat → Nat} {h' : am_S} (q : tn_gr o n g h) (ho8 : o < 9) (f : tn_fL h h') : tn_gr o n g h' := fun t ht => by rw [f.2 o (Or.inl ho8)]; exact q t ht
set_option maxRecDepth 20000 in
theorem sp_64a (B : tn_B n m ar sg pt h) {A3 A4 A5 A6 A7 A8 A9 A10 A11 : Option Value}
    (hE : ∀ h1, (∀ u, u < n → h1.2 9 u = -1 ∧ h1.2 12 u = nI 0) → tn_fL h h1 → am_AW tn_G tn_Y (64, 30, 0, [some (.ref 0), some (.ref o), some (.int (nI n)), A3, A4, A5, A6, A7, A8, A9, A10, A11], [], h1) Q) :
    ∀ (d t : Nat), n - t = d → t ≤ n → ∀ h1, (∀ u, u < t → h1.2 9 u = -1 ∧ h1.2 12 u = nI 0) → tn_fL h h1 → am_AW tn_G tn_Y (64, 2, 0, [some (.ref 0), some (.ref o), some (.int (nI t)), A3, A4, A5, A6, A7, A8, A9, A10, A11], [], h1) Q := by
  have hn := B.le
  intro d
  induction d with
  | zero =>
    intro t hd ht h1 q f
    have : t = n := by omega
    subst this
    refine am_AW.go [10, 30] 6 ?_
    simp only [am_Zs, am_zn_1, am_g3, am_a3, am_kz_l, am_kz_r, am_mem, Bool.false_eq_true, am_Rs, am_R0, am_g2, am_al, am_kk_l, am_kk_r, am_step, am_op, am_one, am_two, am_br, am_inv, am_pp, am_ct, am_in, am_no, am_rc, am_s1, am_cut, am_s2, List.getElem?_cons_zero, List.getElem?_cons_succ, List.set_cons_zero, List.set_cons_succ, Value.category, List.cons_append, List.nil_append, am_f0, am_f1, am_f2, am_f3, am_cm1, am_c0, am_c1, am_c2, am_c3, am_c20, am_c40, am_c400, am_c401, am_c1600, true_and, and_true, true_implies, if_true, if_false, Nat.reduceAdd, Nat.reduceSub, Nat.reduceLT, Nat.reduceLeDiff, Nat.reduceEqDiff, reduceIte, Nat.le_refl, or_false, false_and, false_implies, or_true, true_or, implies_true, pk_us, pk_un, am_vs, am_vn, bx_uu, ne_eq, not_false_eq_true, not_true_eq_false, am_b0, am_b1, Nat.not_lt_zero, am_tl0, am_tl1, am_l1, kr_64, kn_64, kl_64, kc_64_0, kc_64_1, kc_64_2, kc_64_3, kc_64_4, kf_64_54, kc_64_7, kc_64_10, kc_64_11, kf_64_34, kc_64_14, kc_64_15, kc_64_16, kc_64_17, kc_64_18, kf_64_43, kc_64_21, kc_64_22, kc_64_23, kc_64_24, kc_64_27, kc_64_30, kc_64_31, kc_64_32, kc_64_33, kc_64_34, kc_64_37, kc_64_40, kc_64_41, kf_64_13, kc_64_44, kc_64_45, kc_64_46, kc_64_49, kc_64_50, kc_64_53, kc_64_54, kc_64_55, kc_64_56, kc_64_57, kc_64_58, kc_64_61, kc_64_64, kc_64_65, kc_64_66, kc_64_67, kc_64_68, kc_64_69, kc_64_72, kc_64_73, kc_64_74, kc_64_75, kc_64_76, kc_64_77, kc_64_79, kc_64_81, kc_64_82, kc_64_85, kc_64_88, kc_64_89, kc_64_91, kc_64_92, kc_64_94, kc_64_97, kc_64_98, kc_64_101, kc_64_103, kc_64_104, kc_64_107, kc_64_110, kc_64_111, kc_64_114, kc_64_116, kc_64_117, kc_64_119, kc_64_121, kc_64_124, kc_64_125, kc_64_128, kc_64_129, kf_64_9, kc_64_132, kc_64_133, kc_64_136, kc_64_138, kc_64_139, kc_64_140, kc_64_142, kc_64_143, kc_64_145, kc_64_146, kc_64_148, kc_64_149, kc_64_151, kc_64_152, kc_64_154, kc_64_156, kc_64_158, kc_64_161, kc_64_162, kc_64_163, kf_64_16, kc_64_166, kc_64_167, kc_64_169, kc_64_170, kc_64_172, kc_64_173, kc_64_174, kc_64_175, kc_64_177, kc_64_178, kc_64_181, kc_64_183, kc_64_184, kc_64_187, kc_64_188, kc_64_190, kc_64_193, kc_64_195, kc_64_196, kf_64_37, kc_64_199, kc_64_201, kc_64_202, kc_64_203, ki_64_76, kc_64_205, kc_64_208, kc_64_210, kc_64_213, kc_64_215, kc_64_216, kc_64_219, kc_64_221, kc_64_222, kc_64_223, kc_64_225, kc_64_226, kf_64_40, kc_64_229, kc_64_231, kc_64_232, kc_64_234, kc_64_237, kc_64_238, kc_64_241, kc_64_243, kc_64_244, kc_64_246, kc_64_249, kc_64_252, kc_64_254, kc_64_257, kc_64_260, kc_64_263, kc_64_264, kc_64_267, kc_64_269, kc_64_270, kc_64_271, kc_64_272, kc_64_275, kc_64_277, kc_64_279, kc_64_280, kc_64_281, kc_64_284, kc_64_286, kc_64_288, kc_64_289, kc_64_290, kc_64_291, kc_64_292, kc_64_293, kc_64_296, kc_64_299, kc_64_302, kc_64_303, kc_64_306, kc_64_307, kc_64_310, kc_64_311, tn_Y0, tn_Y1, tn_Y2, tn_Y3, tn_Y4, tn_Y5, tn_Y6, tn_Y7, tn_Y8, tn_Y9, tn_Y10, tn_Y11, tn_Y12, tn_Y13]
    rw [(B.L f).nn, nI_leI (by omega) (by omega)]
    exact ⟨fun _ => hE h1 q f, fun z => by omega⟩
  | succ d ih =>
    intro t hd ht h1 q f
    refine am_AW.go [10, 30] 6 ?_
    simp only [am_Zs, am_zn_1, am_g3, am_a3, am_kz_l, am_kz_r, am_mem, Bool.false_eq_true, am_Rs, am_R0, am_g2, am_al, am_kk_l, am_kk_r, am_step, am_op, am_one, am_two, am_br, am_inv, am_pp, am_ct, am_in, am_no, am_rc, am_s1, am_cut, am_s2, List.getElem?_cons_zero, List.getElem?_cons_succ, List.set_cons_zero, List.set_cons_succ, Value.category, List.cons_append, List.nil_append, am_f0, am_f1, am_f2, am_f3, am_cm1, am_c0, am_c1, am_c2, am_c3, am_c20, am_c40, am_c400, am_c401, am_c1600, true_and, and_true, true_implies, if_true, if_false, Nat.reduceAdd, Nat.reduceSub, Nat.reduceLT, Nat.reduceLeDiff, Nat.reduceEqDiff, reduceIte, Nat.le_refl, or_false, false_and, false_implies, or_true, true_or, implies_true, pk_us, pk_un, am_vs, am_vn, bx_uu, ne_eq, not_false_eq_true, not_true_eq_false, am_b0, am_b1, Nat.not_lt_zero, am_tl0, am_tl1, am_l1, kr_64, kn_64, kl_64, kc_64_0, kc_64_1, kc_64_2, kc_64_3, kc_64_4, kf_64_54, kc_64_7, kc_64_10, kc_64_11, kf_64_34, kc_64_14, kc_64_15, kc_64_16, kc_64_17, kc_64_18, kf_64_43, kc_64_21, kc_64_22, kc_64_23, kc_64_24, kc_64_27, kc_64_30, kc_64_31, kc_64_32, kc_64_33, kc_64_34, kc_64_37, kc_64_40, kc_64_41, kf_64_13, kc_64_44, kc_64_45, kc_64_46, kc_64_49, kc_64_50, kc_64_53, kc_64_54, kc_64_55, kc_64_56, kc_64_57, kc_64_58, kc_64_61, kc_64_64, kc_64_65, kc_64_66, kc_64_67, kc_64_68, kc_64_69, kc_64_72, kc_64_73, kc_64_74, kc_64_75, kc_64_76, kc_64_77, kc_64_79, kc_64_81, kc_64_82, kc_64_85, kc_64_88, kc_64_89, kc_64_91, kc_64_92, kc_64_94, kc_64_97, kc_64_98, kc_64_101, kc_64_103, kc_64_104, kc_64_107, kc_64_110, kc_64_111, kc_64_114, kc_64_116, kc_64_117, kc_64_119, kc_64_121, kc_64_124, kc_64_125, kc_64_128, kc_64_129, kf_64_9, kc_64_132, kc_64_133, kc_64_136, kc_64_138, kc_64_139, kc_64_140, kc_64_142, kc_64_143, kc_64_145, kc_64_146, kc_64_148, kc_64_149, kc_64_151, kc_64_152, kc_64_154, kc_64_156, kc_64_158, kc_64_161, kc_64_162, kc_64_163, kf_64_16, kc_64_166, kc_64_167, kc_64_169, kc_64_170, kc_64_172, kc_64_173, kc_64_174, kc_64_175, kc_64_177, kc_64_178, kc_64_181, kc_64_183, kc_64_184, kc_64_187, kc_64_188, kc_64_190, kc_64_193, kc_64_195, kc_64_196, kf_64_37, kc_64_199, kc_64_201, kc_64_202, kc_64_203, ki_64_76, kc_64_205, kc_64_208, kc_64_210, kc_64_213, kc_64_215, kc_64_216, kc_64_219, kc_64_221, kc_64_222, kc_64_223, kc_64_225, kc_64_226, kf_64_40, kc_64_229, kc_64_231, kc_64_232, kc_64_234, kc_64_237, kc_64_238, kc_64_241, kc_64_243, kc_64_244, kc_64_246, kc_64_249, kc_64_252, kc_64_254, kc_64_257, kc_64_260, kc_64_263, kc_64_264, kc_64_267, kc_64_269, kc_64_270, kc_64_271, kc_64_272, kc_64_275, kc_64_277, kc_64_279, kc_64_280, kc_64_281, kc_64_284, kc_64_286, kc_64_288, kc_64_289, kc_64_290, kc_64_291, kc_64_292, kc_64_293, kc_64_296, kc_64_299, kc_64_302, kc_64_303, kc_64_306, kc_64_307, kc_64_310, kc_64_311, tn_Y0, tn_Y1, tn_Y2, tn_Y3, tn_Y4, tn_Y5, tn_Y6, tn_Y7, tn_Y8, tn_Y9, tn_Y10, tn_Y11, tn_Y12, tn_Y13]
    rw [(B.L f).nn, nI_leI (by omega) (by omega)]
    refine ⟨fun z => by omega, fun _ => ?_⟩
    refine am_AW.go [2] 13 ?_
    simp only [am_Zs, am_zn_1, am_g3, am_a3, am_kz_l, am_kz_r, am_mem, Bool.false_eq_true, am_Rs, am_R0, am_g2, am_al, am_kk_l, am_kk_r, am_step, am_op, am_one, am_two, am_br, am_inv, am_pp, am_ct, am_in, am_no, am_rc, am_s1, am_cut, am_s2, List.getElem?_cons_zero, List.getElem?_cons_succ, List.set_cons_zero, List.set_cons_succ, Value.category, List.cons_append, List.nil_append, am_f0, am_f1, am_f2, am_f3, am_cm1, am_c0, am_c1, am_c2, am_c3, am_c20, am_c40, am_c400, am_c401, am_c1600, true_and, and_true, true_implies, if_true, if_false, Nat.reduceAdd, Nat.reduceSub, Nat.reduceLT, Nat.reduceLeDiff, Nat.reduceEqDiff, reduceIte, Nat.le_refl, or_false, false_and, false_implies, or_true, true_or, implies_true, pk_us, pk_un, am_vs, am_vn, bx_uu, ne_eq, not_false_eq_true, not_true_eq_false, am_b0, am_b1, Nat.not_lt_zero, am_tl0, am_tl1, am_l1, kr_64, kn_64, kl_64, kc_64_0, kc_64_1, kc_64_2, kc_64_3, kc_64_4, kf_64_54, kc_64_7, kc_64_10, kc_64_11, kf_64_34, kc_64_14, kc_64_15, kc_64_16, kc_64_17, kc_64_18, kf_64_43, kc_64_21, kc_64_22, kc_64_23, kc_64_24, kc_64_27, kc_64_30, kc_64_31, kc_64_32, kc_64_33, kc_64_34, kc_64_37, kc_64_40, kc_64_41, kf_64_13, kc_64_44, kc_64_45, kc_64_46, kc_64_49, kc_64_50, kc_64_53, kc_64_54, kc_64_55, kc_64_56, kc_64_57, kc_64_58, kc_64_61, kc_64_64, kc_64_65, kc_64_66, kc_64_67, kc_64_68, kc_64_69, kc_64_72, kc_64_73, kc_64_74, kc_64_75, kc_64_76, kc_64_77, kc_64_79, kc_64_81, kc_64_82, kc_64_85, kc_64_88, kc_64_89, kc_64_91, kc_64_92, kc_64_94, kc_64_97, kc_64_98, kc_64_101, kc_64_103, kc_64_104, kc_64_107, kc_64_110, kc_64_111, kc_64_114, kc_64_116, kc_64_117, kc_64_119, kc_64_121, kc_64_124, kc_64_125, kc_64_128, kc_64_129, kf_64_9, kc_64_132, kc_64_133, kc_64_136, kc_64_138, kc_64_139, kc_64_140, kc_64_142, kc_64_143, kc_64_145, kc_64_146, kc_64_148, kc_64_149, kc_64_151, kc_64_152, kc_64_154, kc_64_156, kc_64_158, kc_64_161, kc_64_162, kc_64_163, kf_64_16, kc_64_166, kc_64_167, kc_64_169, kc_64_170, kc_64_172, kc_64_173, kc_64_174, kc_64_175, kc_64_177, kc_64_178, kc_64_181, kc_64_183, kc_64_184, kc_64_187, kc_64_188, kc_64_190, kc_64_193, kc_64_195, kc_64_196, kf_64_37, kc_64_199, kc_64_201, kc_64_202, kc_64_203, ki_64_76, kc_64_205, kc_64_208, kc_64_210, kc_64_213, kc_64_215, kc_64_216, kc_64_219, kc_64_221, kc_64_222, kc_64_223, kc_64_225, kc_64_226, kf_64_40, kc_64_229, kc_64_231, kc_64_232, kc_64_234, kc_64_237, kc_64_238, kc_64_241, kc_64_243, kc_64_244, kc_64_246, kc_64_249, kc_64_252, kc_64_254, kc_64_257, kc_64_260, kc_64_263, kc_64_264, kc_64_267, kc_64_269, kc_64_270, kc_64_271, kc_64_272, kc_64_275, kc_64_277, kc_64_279, kc_64_280, kc_64_281, kc_64_284, kc_64_286, kc_64_288, kc_64_289, kc_64_290, kc_64_291, kc_64_292, kc_64_293, kc_64_296, kc_64_299, kc_64_302, kc_64_303, kc_64_306, kc_64_307, kc_64_310, kc_64_311, tn_Y0, tn_Y1, tn_Y2, tn_Y3, tn_Y4, tn_Y5, tn_Y6, tn_Y7, tn_Y8, tn_Y9, tn_Y10, tn_Y11, tn_Y12, tn_Y13]
    rw [cl_ (by omega), nI_add]
    refine ⟨vi_ (by omega) (by omega), vi_ (by omega) (by omega), ?_⟩
    refine ih (t + 1) (by omega) (by omega) _ (fun u hu => ?_) ⟨f.1, fun k hk => ?_⟩
    · simp only [am_vs, am_vn (show (9 : Nat) ≠ 12 by decide), am_vn (show (12 : Nat) ≠ 9 by decide)]
      by_cases e : u = t
      · subst e; rw [pk_us, pk_us]; exact ⟨rfl, rfl⟩
      · rw [pk_un e, pk_un e]; exact q u (by omega)
    · simp only [am_vn (show k ≠ 12 by omega), am_vn (show k ≠ 9 by omega)]
      exact f.2 k hk
set_option maxRecDepth 20000 in
theorem sp_64b (B : tn_B n m ar sg pt h) (ho : tn_Y[o]? = some (.inr (0, 400))) (ho8 : o < 9) (hV : pu_V n hs) (gr : tn_gr o n (pu_hg hs) h) {A3 A4 A5 A6 A7 A8 A9 A10 A11 : Option Value}
    (hE : ∀ kn h1, tn_kn n sg hs kn → (∀ u, u < n → h1.2 9 u = tn_o (kn u) ∧ h1.2 12 u = nI 0) → tn_fL h h1 → am_AW tn_G tn_Y (64, 64, 0, [some (.ref 0), some (.ref o), some (.int (nI n)), A3, A4, A5, A6, A7, A8, A9, A10, A11], [], h1) Q) :
    ∀ (d t : Nat), n - t = d → t ≤ n → ∀ (kn : Nat → Option Nat) (h1 : am_S), (∀ u, u < n → (h1.2 9 u = tn_o (kn u) ∧ h1.2 12 u = nI 0) ∧ (∀ x, kn u = some x → x < n ∧ sg x ≠ none ∧ pu_hg hs x = u) ∧ (kn u = none → ∀ x, x < t → pu_hg hs x = u → sg x = none)) → tn_fL h h1 → am_AW tn_G tn_Y (64, 32, 0, [some (.ref 0), some (.ref o), some (.int (nI t)), A3, A4, A5, A6, A7, A8, A9, A10, A11], [], h1) Q := by
  have hn := B.le
  intro d
  induction d with
  | zero =>
    intro t hd ht kn h1 q f
    have : t = n := by omega
    subst this
    refine am_AW.go [40, 64] 6 ?_
    simp only [am_Zs, am_zn_1, am_g3, am_a3, am_kz_l, am_kz_r, am_mem, Bool.false_eq_true, am_Rs, am_R0, am_g2, am_al, am_kk_l, am_kk_r, am_step, am_op, am_one, am_two, am_br, am_inv, am_pp, am_ct, am_in, am_no, am_rc, am_s1, am_cut, am_s2, List.getElem?_cons_zero, List.getElem?_cons_succ, List.set_cons_zero, List.set_cons_succ, Value.category, List.cons_append, List.nil_append, am_f0, am_f1, am_f2, am_f3, am_cm1, am_c0, am_c1, am_c2, am_c3, am_c20, am_c40, am_c400, am_c401, am_c1600, true_and, and_true, true_implies, if_true, if_false, Nat.reduceAdd, Nat.reduceSub, Nat.reduceLT, Nat.reduceLeDiff, Nat.reduceEqDiff, reduceIte, Nat.le_refl, or_false, false_and, false_implies, or_true, true_or, implies_true, pk_us, pk_un, am_vs, am_vn, bx_uu, ne_eq, not_false_eq_true, not_true_eq_false, am_b0, am_b1, Nat.not_lt_zero, am_tl0, am_tl1, am_l1, kr_64, kn_64, kl_64, kc_64_0, kc_64_1, kc_64_2, kc_64_3, kc_64_4, kf_64_54, kc_64_7, kc_64_10, kc_64_11, kf_64_34, kc_64_14, kc_64_15, kc_64_16, kc_64_17, kc_64_18, kf_64_43, kc_64_21, kc_64_22, kc_64_23, kc_64_24, kc_64_27, kc_64_30, kc_64_31, kc_64_32, kc_64_33, kc_64_34, kc_64_37, kc_64_40, kc_64_41, kf_64_13, kc_64_44, kc_64_45, kc_64_46, kc_64_49, kc_64_50, kc_64_53, kc_64_54, kc_64_55, kc_64_56, kc_64_57, kc_64_58, kc_64_61, kc_64_64, kc_64_65, kc_64_66, kc_64_67, kc_64_68, kc_64_69, kc_64_72, kc_64_73, kc_64_74, kc_64_75, kc_64_76, kc_64_77, kc_64_79, kc_64_81, kc_64_82, kc_64_85, kc_64_88, kc_64_89, kc_64_91, kc_64_92, kc_64_94, kc_64_97, kc_64_98, kc_64_101, kc_64_103, kc_64_104, kc_64_107, kc_64_110, kc_64_111, kc_64_114, kc_64_116, kc_64_117, kc_64_119, kc_64_121, kc_64_124, kc_64_125, kc_64_128, kc_64_129, kf_64_9, kc_64_132, kc_64_133, kc_64_136, kc_64_138, kc_64_139, kc_64_140, kc_64_142, kc_64_143, kc_64_145, kc_64_146, kc_64_148, kc_64_149, kc_64_151, kc_64_152, kc_64_154, kc_64_156, kc_64_158, kc_64_161, kc_64_162, kc_64_163, kf_64_16, kc_64_166, kc_64_167, kc_64_169, kc_64_170, kc_64_172, kc_64_173, kc_64_174, kc_64_175, kc_64_177, kc_64_178, kc_64_181, kc_64_183, kc_64_184, kc_64_187, kc_64_188, kc_64_190, kc_64_193, kc_64_195, kc_64_196, kf_64_37, kc_64_199, kc_64_201, kc_64_202, kc_64_203, ki_64_76, kc_64_205, kc_64_208, kc_64_210, kc_64_213, kc_64_215, kc_64_216, kc_64_219, kc_64_221, kc_64_222, kc_64_223, kc_64_225, kc_64_226, kf_64_40, kc_64_229, kc_64_231, kc_64_232, kc_64_234, kc_64_237, kc_64_238, kc_64_241, kc_64_243, kc_64_244, kc_64_246, kc_64_249, kc_64_252, kc_64_254, kc_64_257, kc_64_260, kc_64_263, kc_64_264, kc_64_267, kc_64_269, kc_64_270, kc_64_271, kc_64_272, kc_64_275, kc_64_277, kc_64_279, kc_64_280, kc_64_281, kc_64_284, kc_64_286, kc_64_288, kc_64_289, kc_64_290, kc_64_291, kc_64_292, kc_64_293, kc_64_296, kc_64_299, kc_64_302, kc_64_303, kc_64_306, kc_64_307, kc_64_310, kc_64_311, tn_Y0, tn_Y1, tn_Y2, tn_Y3, tn_Y4, tn_Y5, tn_Y6, tn_Y7, tn_Y8, tn_Y9, tn_Y10, tn_Y11, tn_Y12, tn_Y13, ho]
    rw [(B.L f).nn, nI_leI (by omega) (by omega)]
    exact ⟨fun _ => hE kn h1 (fun u hu => (q u hu).2) (fun u hu => (q u hu).1) f, fun z => by omega⟩
  | succ d ih =>
    intro t hd ht kn h1 q f
    have htn : t < n := by omega
    have B1 := B.L f
    have g1 := hV.part.lt htn
    refine am_AW.go [40, 64] 6 ?_
    simp only [am_Zs, am_zn_1, am_g3, am_a3, am_kz_l, am_kz_r, am_mem, Bool.false_eq_true, am_Rs, am_R0, am_g2, am_al, am_kk_l, am_kk_r, am_step, am_op, am_one, am_two, am_br, am_inv, am_pp, am_ct, am_in, am_no, am_rc, am_s1, am_cut, am_s2, List.getElem?_cons_zero, List.getElem?_cons_succ, List.set_cons_zero, List.set_cons_succ, Value.category, List.cons_append, List.nil_append, am_f0, am_f1, am_f2, am_f3, am_cm1, am_c0, am_c1, am_c2, am_c3, am_c20, am_c40, am_c400, am_c401, am_c1600, true_and, and_true, true_implies, if_true, if_false, Nat.reduceAdd, Nat.reduceSub, Nat.reduceLT, Nat.reduceLeDiff, Nat.reduceEqDiff, reduceIte, Nat.le_refl, or_false, false_and, false_implies, or_true, true_or, implies_true, pk_us, pk_un, am_vs, am_vn, bx_uu, ne_eq, not_false_eq_true, not_true_eq_false, am_b0, am_b1, Nat.not_lt_zero, am_tl0, am_tl1, am_l1, kr_64, kn_64, kl_64, kc_64_0, kc_64_1, kc_64_2, kc_64_3, kc_64_4, kf_64_54, kc_64_7, kc_64_10, kc_64_11, kf_64_34, kc_64_14, kc_64_15, kc_64_16, kc_64_17, kc_64_18, kf_64_43, kc_64_21, kc_64_22, kc_64_23, kc_64_24, kc_64_27, kc_64_30, kc_64_31, kc_64_32, kc_64_33, kc_64_34, kc_64_37, kc_64_40, kc_64_41, kf_64_13, kc_64_44, kc_64_45, kc_64_46, kc_64_49, kc_64_50, kc_64_53, kc_64_54, kc_64_55, kc_64_56, kc_64_57, kc_64_58, kc_64_61, kc_64_64, kc_64_65, kc_64_66, kc_64_67, kc_64_68, kc_64_69, kc_64_72, kc_64_73, kc_64_74, kc_64_75, kc_64_76, kc_64_77, kc_64_79, kc_64_81, kc_64_82, kc_64_85, kc_64_88, kc_64_89, kc_64_91, kc_64_92, kc_64_94, kc_64_97, kc_64_98, kc_64_101, kc_64_103, kc_64_104, kc_64_107, kc_64_110, kc_64_111, kc_64_114, kc_64_116, kc_64_117, kc_64_119, kc_64_121, kc_64_124, kc_64_125, kc_64_128, kc_64_129, kf_64_9, kc_64_132, kc_64_133, kc_64_136, kc_64_138, kc_64_139, kc_64_140, kc_64_142, kc_64_143, kc_64_145, kc_64_146, kc_64_148, kc_64_149, kc_64_151, kc_64_152, kc_64_154, kc_64_156, kc_64_158, kc_64_161, kc_64_162, kc_64_163, kf_64_16, kc_64_166, kc_64_167, kc_64_169, kc_64_170, kc_64_172, kc_64_173, kc_64_174, kc_64_175, kc_64_177, kc_64_178, kc_64_181, kc_64_183, kc_64_184, kc_64_187, kc_64_188, kc_64_190, kc_64_193, kc_64_195, kc_64_196, kf_64_37, kc_64_199, kc_64_201, kc_64_202, kc_64_203, ki_64_76, kc_64_205, kc_64_208, kc_64_210, kc_64_213, kc_64_215, kc_64_216, kc_64_219, kc_64_221, kc_64_222, kc_64_223, kc_64_225, kc_64_226, kf_64_40, kc_64_229, kc_64_231, kc_64_232, kc_64_234, kc_64_237, kc_64_238, kc_64_241, kc_64_243, kc_64_244, kc_64_246, kc_64_249, kc_64_252, kc_64_254, kc_64_257, kc_64_260, kc_64_263, kc_64_264, kc_64_267, kc_64_269, kc_64_270, kc_64_271, kc_64_272, kc_64_275, kc_64_277, kc_64_279, kc_64_280, kc_64_281, kc_64_284, kc_64_286, kc_64_288, kc_64_289, kc_64_290, kc_64_291, kc_64_292, kc_64_293, kc_64_296, kc_64_299, kc_64_302, kc_64_303, kc_64_306, kc_64_307, kc_64_310, kc_64_311, tn_Y0, tn_Y1, tn_Y2, tn_Y3, tn_Y4, tn_Y5, tn_Y6, tn_Y7, tn_Y8, tn_Y9, tn_Y10, tn_Y11, tn_Y12, tn_Y13, ho]
    rw [B1.nn, nI_leI (by omega) (by omega)]
    refine ⟨fun z => by omega, fun _ => ?_⟩
    refine am_AW.go [32] 16 ?_
    simp only [am_Zs, am_zn_1, am_g3, am_a3, am_kz_l, am_kz_r, am_mem, Bool.false_eq_true, am_Rs, am_R0, am_g2, am_al, am_kk_l, am_kk_r, am_step, am_op, am_one, am_two, am_br, am_inv, am_pp, am_ct, am_in, am_no, am_rc, am_s1, am_cut, am_s2, List.getElem?_cons_zero, List.getElem?_cons_succ, List.set_cons_zero, List.set_cons_succ, Value.category, List.cons_append, List.nil_append, am_f0, am_f1, am_f2, am_f3, am_cm1, am_c0, am_c1, am_c2, am_c3, am_c20, am_c40, am_c400, am_c401, am_c1600, true_and, and_true, true_implies, if_true, if_false, Nat.reduceAdd, Nat.reduceSub, Nat.reduceLT, Nat.reduceLeDiff, Nat.reduceEqDiff, reduceIte, Nat.le_refl, or_false, false_and, false_implies, or_true, true_or, implies_true, pk_us, pk_un, am_vs, am_vn, bx_uu, ne_eq, not_false_eq_true, not_true_eq_false, am_b0, am_b1, Nat.not_lt_zero, am_tl0, am_tl1, am_l1, kr_64, kn_64, kl_64, kc_64_0, kc_64_1, kc_64_2, kc_64_3, kc_64_4, kf_64_54, kc_64_7, kc_64_10, kc_64_11, kf_64_34, kc_64_14, kc_64_15, kc_64_16, kc_64_17, kc_64_18, kf_64_43, kc_64_21, kc_64_22, kc_64_23, kc_64_24, kc_64_27, kc_64_30, kc_64_31, kc_64_32, kc_64_33, kc_64_34, kc_64_37, kc_64_40, kc_64_41, kf_64_13, kc_64_44, kc_64_45, kc_64_46, kc_64_49, kc_64_50, kc_64_53, kc_64_54, kc_64_55, kc_64_56, kc_64_57, kc_64_58, kc_64_61, kc_64_64, kc_64_65, kc_64_66, kc_64_67, kc_64_68, kc_64_69, kc_64_72, kc_64_73, kc_64_74, kc_64_75, kc_64_76, kc_64_77, kc_64_79, kc_64_81, kc_64_82, kc_64_85, kc_64_88, kc_64_89, kc_64_91, kc_64_92, kc_64_94, kc_64_97, kc_64_98, kc_64_101, kc_64_103, kc_64_104, kc_64_107, kc_64_110, kc_64_111, kc_64_114, kc_64_116, kc_64_117, kc_64_119, kc_64_121, kc_64_124, kc_64_125, kc_64_128, kc_64_129, kf_64_9, kc_64_132, kc_64_133, kc_64_136, kc_64_138, kc_64_139, kc_64_140, kc_64_142, kc_64_143, kc_64_145, kc_64_146, kc_64_148, kc_64_149, kc_64_151, kc_64_152, kc_64_154, kc_64_156, kc_64_158, kc_64_161, kc_64_162, kc_64_163, kf_64_16, kc_64_166, kc_64_167, kc_64_169, kc_64_170, kc_64_172, kc_64_173, kc_64_174, kc_64_175, kc_64_177, kc_64_178, kc_64_181, kc_64_183, kc_64_184, kc_64_187, kc_64_188, kc_64_190, kc_64_193, kc_64_195, kc_64_196, kf_64_37, kc_64_199, kc_64_201, kc_64_202, kc_64_203, ki_64_76, kc_64_205, kc_64_208, kc_64_210, kc_64_213, kc_64_215, kc_64_216, kc_64_219, kc_64_221, kc_64_222, kc_64_223, kc_64_225, kc_64_226, kf_64_40, kc_64_229, kc_64_231, kc_64_232, kc_64_234, kc_64_237, kc_64_238, kc_64_241, kc_64_243, kc_64_244, kc_64_246, kc_64_249, kc_64_252, kc_64_254, kc_64_257, kc_64_260, kc_64_263, kc_64_264, kc_64_267, kc_64_269, kc_64_270, kc_64_271, kc_64_272, kc_64_275, kc_64_277, kc_64_279, kc_64_280, kc_64_281, kc_64_284, kc_64_286, kc_64_288, kc_64_289, kc_64_290, kc_64_291, kc_64_292, kc_64_293, kc_64_296, kc_64_299, kc_64_302, kc_64_303, kc_64_306, kc_64_307, kc_64_310, kc_64_311, tn_Y0, tn_Y1, tn_Y2, tn_Y3, tn_Y4, tn_Y5, tn_Y6, tn_Y7, tn_Y8, tn_Y9, tn_Y10, tn_Y11, tn_Y12, tn_Y13, ho]
    rw [cl_ (by omega), B1.sn htn, B1.slt htn, gr.L ho8 f t htn, cl_ (by omega), nI_add]
    refine ⟨vi_ (by omega) (by omega), fun e => ?_, fun e => ⟨vi_ (by omega) (by omega), vi_ (by omega) (by omega), ?_⟩⟩
    · refine ih (t + 1) (by omega) (by omega) kn h1 (fun u hu => ⟨(q u hu).1, (q u hu).2.1, fun z x hx gx => ?_⟩) f
      by_cases ex : x = t
      · subst ex; exact e
      · exact (q u hu).2.2 z x (by omega) gx
    · refine ih (t + 1) (by omega) (by omega) (fun u => if u = pu_hg hs t then some t else kn u) _ (fun u hu => ?_) ⟨f.1, fun k hk => ?_⟩
      · obtain ⟨⟨q1, q2⟩, q3, q4⟩ := q u hu
        simp only [am_vs, am_vn (show (12 : Nat) ≠ 9 by decide)]
        by_cases eu : u = pu_hg hs t
        · rw [if_pos eu]
          refine ⟨⟨by rw [eu, pk_us]; rfl, q2⟩, fun x z => ?_, fun z => by cases z⟩
          simp only [Option.some.injEq] at z
          subst z
          exact ⟨htn, e, eu.symm⟩
        · rw [if_neg eu, pk_un eu]
          refine ⟨⟨q1, q2⟩, q3, fun z x hx gx => ?_⟩
          by_cases ex : x = t
          · subst ex; exact absurd gx.symm eu
          · exact q4 z x (by omega) gx
      · simp only [am_vn (show k ≠ 9 by omega)]
        exact f.2 k hk
end LO
