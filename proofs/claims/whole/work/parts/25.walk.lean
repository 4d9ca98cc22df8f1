/-! Walk: the walk itself. -/
def tn_fi (f : Nat → Int32) (v : Int32) (N : Nat) : Nat → Int32 := fun j => if j < N then v else f j
theorem tn_fi_s (f : Nat → Int32) (v : Int32) (N : Nat) : upd (tn_fi f v N) N v = tn_fi f v (N + 1) := by
  funext j
  simp only [upd, tn_fi]
  by_cases h1 : j = N
  · subst h1; simp
  · by_cases h2 : j < N
    · rw [if_neg h1, if_pos h2, if_pos (by omega)]
    · rw [if_neg h1, if_neg h2, if_neg (by omega)]
set_option maxRecDepth 20000 in
/-- Arrays.fill, its loop -/
theorem sp_78l {k N : Nat} {v : Int32} {Q : am_Q} {h : am_S} (hk : tn_X[k]? = some (.inr (0, N))) (hN : N ≤ 8000) (hQ : Q (h.1, va_up h.2 k (tn_fi (h.2 k) v N)) (.inl none)) :
    ∀ (d i : Nat), N - i = d → i ≤ N → am_AW tn_G tn_X (78, 5, 0, [some (.ref k), some (.int v), some (.int (nI i)), some (.int (nI N))], [], (h.1, va_up h.2 k (tn_fi (h.2 k) v i))) Q := by
  intro d
  induction d with
  | zero =>
    intro i hd hi
    have : i = N := by omega
    subst this
    refine am_AW.go [5] 60 ?_
    simp only [am_Zs, am_zn_1, am_g3, am_a3, am_kz_l, am_kz_r, am_mem, Bool.false_eq_true, am_Rs, am_R0, am_g2, am_al, am_kk_l, am_kk_r, am_step, am_op, am_one, am_two, am_br, am_inv, am_pp, am_ct, am_in, am_no, am_rc, am_s1, am_cut, am_s2, List.getElem?_cons_zero, List.getElem?_cons_succ, List.set_cons_zero, List.set_cons_succ, Value.category, List.cons_append, List.nil_append, am_f0, am_f1, am_f2, am_f3, am_cm1, am_c0, am_c1, am_c2, am_c3, am_c20, am_c40, am_c400, am_c401, am_c1600, true_and, and_true, true_implies, if_true, if_false, Nat.reduceAdd, Nat.reduceSub, Nat.reduceLT, Nat.reduceLeDiff, Nat.reduceEqDiff, reduceIte, Nat.le_refl, or_false, false_and, false_implies, or_true, true_or, implies_true, pk_us, pk_un, am_vs, am_vn, bx_uu, ne_eq, not_false_eq_true, not_true_eq_false, am_b0, am_b1, Nat.not_lt_zero, am_tl0, am_tl1, kr_78, kn_78, kl_78, kc_78_0, kc_78_1, kc_78_2, kc_78_3, kc_78_4, kc_78_5, kc_78_6, kc_78_7, kc_78_10, kc_78_11, kc_78_12, kc_78_13, kc_78_14, kc_78_17, kc_78_20, tn_X0, tn_X1, tn_X2, tn_X3, tn_X4, tn_X5, tn_X6, tn_X7, tn_X8, tn_X9, tn_X10, tn_X11, tn_X12, tn_X13, tn_X14, tn_X15, tn_X16, tn_X17, tn_X18, tn_X19, tn_X20, tn_X21, tn_X22, hk]
    rw [nI_leI (by omega) (by omega)]
    exact ⟨fun _ => hQ, fun q => by omega⟩
  | succ d ih =>
    intro i hd hi
    refine am_AW.go [5] 60 ?_
    simp only [am_Zs, am_zn_1, am_g3, am_a3, am_kz_l, am_kz_r, am_mem, Bool.false_eq_true, am_Rs, am_R0, am_g2, am_al, am_kk_l, am_kk_r, am_step, am_op, am_one, am_two, am_br, am_inv, am_pp, am_ct, am_in, am_no, am_rc, am_s1, am_cut, am_s2, List.getElem?_cons_zero, List.getElem?_cons_succ, List.set_cons_zero, List.set_cons_succ, Value.category, List.cons_append, List.nil_append, am_f0, am_f1, am_f2, am_f3, am_cm1, am_c0, am_c1, am_c2, am_c3, am_c20, am_c40, am_c400, am_c401, am_c1600, true_and, and_true, true_implies, if_true, if_false, Nat.reduceAdd, Nat.reduceSub, Nat.reduceLT, Nat.reduceLeDiff, Nat.reduceEqDiff, reduceIte, Nat.le_refl, or_false, false_and, false_implies, or_true, true_or, implies_true, pk_us, pk_un, am_vs, am_vn, bx_uu, ne_eq, not_false_eq_true, not_true_eq_false, am_b0, am_b1, Nat.not_lt_zero, am_tl0, am_tl1, kr_78, kn_78, kl_78, kc_78_0, kc_78_1, kc_78_2, kc_78_3, kc_78_4, kc_78_5, kc_78_6, kc_78_7, kc_78_10, kc_78_11, kc_78_12, kc_78_13, kc_78_14, kc_78_17, kc_78_20, tn_X0, tn_X1, tn_X2, tn_X3, tn_X4, tn_X5, tn_X6, tn_X7, tn_X8, tn_X9, tn_X10, tn_X11, tn_X12, tn_X13, tn_X14, tn_X15, tn_X16, tn_X17, tn_X18, tn_X19, tn_X20, tn_X21, tn_X22, hk]
    rw [nI_leI (by omega) (by omega), nI_clamp (by omega), nI_add, tn_fi_s]
    exact ⟨fun q => by omega, fun _ => ⟨vi_ (by omega) hN, ih (i + 1) (by omega) (by omega)⟩⟩
set_option maxRecDepth 20000 in
/-- Arrays.fill -/
theorem sp_78 {k N : Nat} {v : Int32} {Q : am_Q} {h : am_S} (hk : tn_X[k]? = some (.inr (0, N))) (hN : N ≤ 8000) (hQ : Q (h.1, va_up h.2 k (tn_fi (h.2 k) v N)) (.inl none)) : am_AW tn_G tn_X (78, 0, 0, [some (.ref k), some (.int v), none, none], [], h) Q := by
  refine am_AW.go [5] 60 ?_
  simp only [am_Zs, am_zn_1, am_g3, am_a3, am_kz_l, am_kz_r, am_mem, Bool.false_eq_true, am_Rs, am_R0, am_g2, am_al, am_kk_l, am_kk_r, am_step, am_op, am_one, am_two, am_br, am_inv, am_pp, am_ct, am_in, am_no, am_rc, am_s1, am_cut, am_s2, List.getElem?_cons_zero, List.getElem?_cons_succ, List.set_cons_zero, List.set_cons_succ, Value.category, List.cons_append, List.nil_append, am_f0, am_f1, am_f2, am_f3, am_cm1, am_c0, am_c1, am_c2, am_c3, am_c20, am_c40, am_c400, am_c401, am_c1600, true_and, and_true, true_implies, if_true, if_false, Nat.reduceAdd, Nat.reduceSub, Nat.reduceLT, Nat.reduceLeDiff, Nat.reduceEqDiff, reduceIte, Nat.le_refl, or_false, false_and, false_implies, or_true, true_or, implies_true, pk_us, pk_un, am_vs, am_vn, bx_uu, ne_eq, not_false_eq_true, not_true_eq_false, am_b0, am_b1, Nat.not_lt_zero, am_tl0, am_tl1, kr_78, kn_78, kl_78, kc_78_0, kc_78_1, kc_78_2, kc_78_3, kc_78_4, kc_78_5, kc_78_6, kc_78_7, kc_78_10, kc_78_11, kc_78_12, kc_78_13, kc_78_14, kc_78_17, kc_78_20, tn_X0, tn_X1, tn_X2, tn_X3, tn_X4, tn_X5, tn_X6, tn_X7, tn_X8, tn_X9, tn_X10, tn_X11, tn_X12, tn_X13, tn_X14, tn_X15, tn_X16, tn_X17, tn_X18, tn_X19, tn_X20, tn_X21, tn_X22, hk]
  have e : h = (h.1, va_up h.2 k (tn_fi (h.2 k) v 0)) := by
    have e1 : va_up h.2 k (tn_fi (h.2 k) v 0) = h.2 := by
      funext j
      by_cases hj : j = k
      · subst hj; rw [am_vs]; funext q; simp [tn_fi]
      · rw [am_vn hj]
    rw [e1]
  have := sp_78l hk hN hQ N 0 (by omega) (by omega)
  rw [← e] at this
  exact this
def tn_K (P O : List Nat) (tr : Nat → Nat) (h : am_S) : Prop :=
  h.1 5 = nI P.length ∧ h.1 6 = nI O.length ∧ (∀ t, t < 400 → h.2 15 t = if t ∈ O then nI 2 else if t ∈ P then nI 1 else nI 0) ∧ (∀ x ∈ P, h.2 16 x = nI (tr x)) ∧ (∀ i x, P.reverse[i]? = some x → h.2 17 i = nI x) ∧ ∀ i x, O.reverse[i]? = some x → h.2 18 i = nI x
/-- what the walk leaves alone -/
def tn_fK (h h' : am_S) : Prop := (∀ i, i ≠ 5 → i ≠ 6 → h'.1 i = h.1 i) ∧ ∀ k, (k < 15 ∨ 18 < k) → h'.2 k = h.2 k
theorem tn_fK.rf {h : am_S} : tn_fK h h := ⟨fun _ _ _ => rfl, fun _ _ => rfl⟩
theorem tn_fK.tr {h h1 h2 : am_S} (a : tn_fK h h1) (b : tn_fK h1 h2) : tn_fK h h2 := ⟨fun i hi hj => (b.1 i hi hj).trans (a.1 i hi hj), fun k hk => (b.2 k hk).trans (a.2 k hk)⟩
theorem tn_C.fr {n m : Nat} {ar : Nat → Nat} {sg : Nat → Option Nat} {pt : Nat → Nat → Nat} {hs : List (Nat × Nat)} {h h' : am_S} (C : tn_C n m ar sg pt hs h) (f1 : ∀ i, 2 ≤ i → i ≤ 4 → h'.1 i = h.1 i) (f2 : ∀ k, 8 ≤ k → k ≤ 14 → h'.2 k = h.2 k) : tn_C n m ar sg pt hs h' := by
  obtain ⟨c1, c2, c3, c4, c5, c6, c7, c8, c9⟩ := C
  refine ⟨⟨by rw [f1 2 (by omega) (by omega)]; exact c1.1, c1.2⟩, ⟨by rw [f1 3 (by omega) (by omega)]; exact c2.1, c2.2⟩, by rw [f1 4 (by omega) (by omega)]; exact c3, fun s hs9 => ?_, fun t ht9 => ?_, c6, c7, fun t ht => ?_, fun i q hq => ?_⟩
  · rw [f2 8 (by omega) (by omega)]; exact c4 s hs9
  · rw [f2 9 (by omega) (by omega), f2 10 (by omega) (by omega)]; exact c5 t ht9
  · rw [f2 11 (by omega) (by omega), f2 12 (by omega) (by omega), f2 13 (by omega) (by omega)]; exact c8 t ht
  · rw [f2 14 (by omega) (by omega)]; exact c9 i q hq
theorem tn_C.K {n m : Nat} {ar : Nat → Nat} {sg : Nat → Option Nat} {pt : Nat → Nat → Nat} {hs : List (Nat × Nat)} {h h' : am_S} (C : tn_C n m ar sg pt hs h) (f : tn_fK h h') : tn_C n m ar sg pt hs h' :=
  C.fr (fun i _ _ => f.1 i (by omega) (by omega)) (fun k _ _ => f.2 k (by omega))
/-- Walk.begin -/
theorem sp_27 {Q : am_Q} {h : am_S} (hQ : ∀ h', tn_K [] [] (fun _ => 0) h' → tn_fK h h' → Q h' (.inl none)) : am_AW tn_G tn_X (27, 0, 0, [some (.ref 3)], [], h) Q := by
  refine am_AW.go [] 60 ?_
  simp only [am_Zs, am_zn_1, am_g3, am_a3, am_kz_l, am_kz_r, am_mem, Bool.false_eq_true, am_Rs, am_R0, am_g2, am_al, am_kk_l, am_kk_r, am_step, am_op, am_one, am_two, am_br, am_inv, am_pp, am_ct, am_in, am_no, am_rc, am_s1, am_cut, am_s2, List.getElem?_cons_zero, List.getElem?_cons_succ, List.set_cons_zero, List.set_cons_succ, Value.category, List.cons_append, List.nil_append, am_f0, am_f1, am_f2, am_f3, am_cm1, am_c0, am_c1, am_c2, am_c3, am_c20, am_c40, am_c400, am_c401, am_c1600, true_and, and_true, true_implies, if_true, if_false, Nat.reduceAdd, Nat.reduceSub, Nat.reduceLT, Nat.reduceLeDiff, Nat.reduceEqDiff, reduceIte, Nat.le_refl, or_false, false_and, false_implies, or_true, true_or, implies_true, pk_us, pk_un, am_vs, am_vn, bx_uu, ne_eq, not_false_eq_true, not_true_eq_false, am_b0, am_b1, Nat.not_lt_zero, am_tl0, am_tl1, kr_27, kn_27, kl_27, kc_27_0, kc_27_1, kf_27_9, kc_27_4, kc_27_5, kl_78, ko_78, kn_78, ka_27_82, kc_27_8, kc_27_9, kc_27_10, kf_27_27, kc_27_13, kc_27_14, kc_27_15, kf_27_31, kc_27_18, tn_X0, tn_X1, tn_X2, tn_X3, tn_X4, tn_X5, tn_X6, tn_X7, tn_X8, tn_X9, tn_X10, tn_X11, tn_X12, tn_X13, tn_X14, tn_X15, tn_X16, tn_X17, tn_X18, tn_X19, tn_X20, tn_X21, tn_X22]
  refine sp_78 tn_X15 (by omega) ?_
  simp only [am_Zs, am_zn_1, am_g3, am_a3, am_kz_l, am_kz_r, am_mem, Bool.false_eq_true, am_Rs, am_R0, am_g2, am_al, am_kk_l, am_kk_r, am_step, am_op, am_one, am_two, am_br, am_inv, am_pp, am_ct, am_in, am_no, am_rc, am_s1, am_cut, am_s2, List.getElem?_cons_zero, List.getElem?_cons_succ, List.set_cons_zero, List.set_cons_succ, Value.category, List.cons_append, List.nil_append, am_f0, am_f1, am_f2, am_f3, am_cm1, am_c0, am_c1, am_c2, am_c3, am_c20, am_c40, am_c400, am_c401, am_c1600, true_and, and_true, true_implies, if_true, if_false, Nat.reduceAdd, Nat.reduceSub, Nat.reduceLT, Nat.reduceLeDiff, Nat.reduceEqDiff, reduceIte, Nat.le_refl, or_false, false_and, false_implies, or_true, true_or, implies_true, pk_us, pk_un, am_vs, am_vn, bx_uu, ne_eq, not_false_eq_true, not_true_eq_false, am_b0, am_b1, Nat.not_lt_zero, am_tl0, am_tl1, kr_27, kn_27, kl_27, kc_27_0, kc_27_1, kf_27_9, kc_27_4, kc_27_5, kl_78, ko_78, kn_78, ka_27_82, kc_27_8, kc_27_9, kc_27_10, kf_27_27, kc_27_13, kc_27_14, kc_27_15, kf_27_31, kc_27_18, tn_X0, tn_X1, tn_X2, tn_X3, tn_X4, tn_X5, tn_X6, tn_X7, tn_X8, tn_X9, tn_X10, tn_X11, tn_X12, tn_X13, tn_X14, tn_X15, tn_X16, tn_X17, tn_X18, tn_X19, tn_X20, tn_X21, tn_X22]
  refine hQ _ ⟨?_, ?_, fun t ht => ?_, fun x hx => (by cases hx), fun i x hx => (by simp at hx), fun i x hx => (by simp at hx)⟩ ⟨fun i hi hj => ?_, fun k hk => ?_⟩
  · simp only [pk_un (show (5 : Nat) ≠ 6 by decide), pk_us]; rfl
  · simp only [pk_us]; rfl
  · simp only [am_vs, tn_fi, if_pos ht, List.not_mem_nil, if_false]
  · simp only [pk_un hi, pk_un hj]
  · simp only [am_vn (show k ≠ 15 by omega)]
theorem tn_rev_get {c i : Nat} {P : List Nat} {x : Nat} (h : (c :: P).reverse[i]? = some x) : (i = P.length ∧ x = c) ∨ (i < P.length ∧ P.reverse[i]? = some x) := by
  rw [List.reverse_cons] at h
  by_cases e : i < P.reverse.length
  · right
    rw [List.getElem?_append_left e] at h
    rw [List.length_reverse] at e
    exact ⟨e, h⟩
  · left
    have h1 := (List.getElem?_eq_some_iff.mp h).1
    rw [List.length_append, List.length_reverse] at h1
    rw [List.length_reverse] at e
    have : i = P.length := by
      simp only [List.length_cons, List.length_nil] at h1
      omega
    subst this
    rw [List.getElem?_append_right (by rw [List.length_reverse]; exact Nat.le_refl _), List.length_reverse, Nat.sub_self] at h
    exact ⟨rfl, by simpa using h.symm⟩
/-- Walk.enter -/
theorem sp_29 {Q : am_Q} {h : am_S} {P O : List Nat} {tr : Nat → Nat} (K : tn_K P O tr h) {c : Nat} (hc : c < 400) (hl : c ∉ P → c ∉ O → P.length < 400)
    (hnew : c ∉ P → c ∉ O → ∀ h', tn_K (c :: P) O (fun y => if y = c then 0 else tr y) h' → tn_fK h h' → Q h' (.inl (some (.int (nI 1)))))
    (hdone : c ∈ O → Q h (.inl (some (.int (nI 1))))) (hopen : c ∉ O → c ∈ P → Q h (.inl (some (.int (nI 0))))) : am_AW tn_G tn_X (29, 0, 0, [some (.ref 3), some (.int (nI c))], [], h) Q := by
  obtain ⟨k1, k2, k3, k4, k5, k6⟩ := K
  refine am_AW.go [] 60 ?_
  simp only [am_Zs, am_zn_1, am_g3, am_a3, am_kz_l, am_kz_r, am_mem, Bool.false_eq_true, am_Rs, am_R0, am_g2, am_al, am_kk_l, am_kk_r, am_step, am_op, am_one, am_two, am_br, am_inv, am_pp, am_ct, am_in, am_no, am_rc, am_s1, am_cut, am_s2, List.getElem?_cons_zero, List.getElem?_cons_succ, List.set_cons_zero, List.set_cons_succ, Value.category, List.cons_append, List.nil_append, am_f0, am_f1, am_f2, am_f3, am_cm1, am_c0, am_c1, am_c2, am_c3, am_c20, am_c40, am_c400, am_c401, am_c1600, true_and, and_true, true_implies, if_true, if_false, Nat.reduceAdd, Nat.reduceSub, Nat.reduceLT, Nat.reduceLeDiff, Nat.reduceEqDiff, reduceIte, Nat.le_refl, or_false, false_and, false_implies, or_true, true_or, implies_true, pk_us, pk_un, am_vs, am_vn, bx_uu, ne_eq, not_false_eq_true, not_true_eq_false, am_b0, am_b1, Nat.not_lt_zero, am_tl0, am_tl1, kr_29, kn_29, kl_29, kc_29_0, kc_29_1, kf_29_9, kc_29_4, kc_29_5, kc_29_6, kc_29_9, kc_29_10, kc_29_13, kc_29_14, kc_29_15, kc_29_16, kc_29_17, kf_29_15, kc_29_20, kc_29_21, kc_29_22, kc_29_23, kc_29_24, kf_29_18, kc_29_27, kc_29_28, kf_29_27, kc_29_31, kc_29_32, kc_29_33, kc_29_34, kc_29_35, kc_29_38, kc_29_39, kc_29_40, kc_29_43, kc_29_46, kc_29_47, kc_29_50, kc_29_51, kc_29_52, kc_29_53, kc_29_56, kc_29_57, kc_29_58, kc_29_59, tn_X0, tn_X1, tn_X2, tn_X3, tn_X4, tn_X5, tn_X6, tn_X7, tn_X8, tn_X9, tn_X10, tn_X11, tn_X12, tn_X13, tn_X14, tn_X15, tn_X16, tn_X17, tn_X18, tn_X19, tn_X20, tn_X21, tn_X22]
  rw [cl_ (by omega), k3 c hc, k1]
  by_cases hO : c ∈ O
  · rw [if_pos hO]
    refine ⟨vi_ hc (by omega), fun _ => ⟨vi_ hc (by omega), fun _ => hdone hO, fun q => absurd q (by decide)⟩, fun q => absurd q (by decide)⟩
  · rw [if_neg hO]
    by_cases hP : c ∈ P
    · rw [if_pos hP]
      exact ⟨vi_ hc (by omega), fun _ => ⟨vi_ hc (by omega), fun q => absurd rfl q, fun _ => hopen hO hP⟩, fun q => absurd q (by decide)⟩
    · rw [if_neg hP]
      have hl := hl hP hO
      rw [cl_ (by omega), nI_add]
      refine ⟨vi_ hc (by omega), fun q => absurd nI_0 q, fun _ => ⟨vi_ hc (by omega), vi_ hc (by omega), vi_ hl (by omega), ?_⟩⟩
      refine hnew hP hO _ ⟨?_, ?_, fun t ht => ?_, fun x hx => ?_, fun i x hx => ?_, fun i x hx => ?_⟩ ⟨fun i hi hj => ?_, fun k hk => ?_⟩
      · simp only [pk_us, List.length_cons]
      · simp only [pk_un (show (6 : Nat) ≠ 5 by decide)]; exact k2
      · simp only [am_vn (show (15 : Nat) ≠ 17 by decide), am_vn (show (15 : Nat) ≠ 16 by decide), am_vs, upd, List.mem_cons]
        by_cases e : t = c
        · subst e
          simp [hO]
        · rw [if_neg e, k3 t ht]
          simp only [e, false_or]
      · simp only [am_vn (show (16 : Nat) ≠ 17 by decide), am_vs, upd]
        by_cases e : x = c
        · rw [if_pos e, if_pos e]
        · rw [if_neg e, if_neg e]
          rcases List.mem_cons.mp hx with q | q
          · exact absurd q e
          · exact k4 x q
      · simp only [am_vs, upd]
        rcases tn_rev_get hx with ⟨e1, e2⟩ | ⟨e1, e2⟩
        · rw [if_pos e1, e2]
        · rw [if_neg (by omega)]; exact k5 i x e2
      · simp only [am_vn (show (18 : Nat) ≠ 17 by decide), am_vn (show (18 : Nat) ≠ 16 by decide), am_vn (show (18 : Nat) ≠ 15 by decide)]
        exact k6 i x hx
      · simp only [pk_un hi]
      · simp only [am_vn (show k ≠ 17 by omega), am_vn (show k ≠ 16 by omega), am_vn (show k ≠ 15 by omega)]
/-- a group's parts -/
def tn_ch (sg : Nat → Option Nat) (pt : Nat → Nat → Nat) (hs : List (Nat × Nat)) (x k : Nat) : Nat := match pu_hs sg hs (pu_hg hs x) with
  | none => 0
  | some s => pu_hg hs (pt s k)
theorem tn_C.ch {n m : Nat} {ar : Nat → Nat} {sg : Nat → Option Nat} {pt : Nat → Nat → Nat} {hs : List (Nat × Nat)} {h : am_S} (C : tn_C n m ar sg pt hs h) {x k : Nat} (hx : x < n) (hk : k < tn_dg ar sg hs x) : ∃ s, pu_hs sg hs (pu_hg hs x) = some s ∧ k < pu_np sg ar s ∧ s < n ∧ tn_ch sg pt hs x k = pu_hg hs (pt s k) ∧ tn_ch sg pt hs x k < n ∧ pu_hg hs (tn_ch sg pt hs x k) = tn_ch sg pt hs x k := by
  unfold tn_dg at hk
  cases e : pu_hs sg hs (pu_hg hs x) with
  | none => rw [e] at hk; exact absurd hk (Nat.not_lt_zero _)
  | some s =>
    rw [e] at hk
    have hsn := C.sx (C.g hx) e
    have hp := C.pl hsn hk
    have e2 : tn_ch sg pt hs x k = pu_hg hs (pt s k) := by unfold tn_ch; rw [e]
    exact ⟨s, rfl, hk, hsn, e2, by rw [e2]; exact C.g hp, by rw [e2]; exact (pu_hg_part C.V _).2⟩
theorem tn_C.d3 {n m : Nat} {ar : Nat → Nat} {sg : Nat → Option Nat} {pt : Nat → Nat → Nat} {hs : List (Nat × Nat)} {h : am_S} (C : tn_C n m ar sg pt hs h) {x : Nat} (hx : x < n) : tn_dg ar sg hs x ≤ 3 := by
  unfold tn_dg
  cases e : pu_hs sg hs (pu_hg hs x) with
  | none => exact Nat.zero_le _
  | some s => exact C.p3 (C.sx (C.g hx) e)
section GO
variable {n m : Nat} {ar : Nat → Nat} {sg : Nat → Option Nat} {pt : Nat → Nat → Nat} {hs : List (Nat × Nat)} {h : am_S} {Q : am_Q} {P O : List Nat} {tr : Nat → Nat}
set_option maxRecDepth 4000 in
/-- Walk.goOn -/
theorem sp_30 (C : tn_C n m ar sg pt hs h) {x : Nat} (hx : x < n) (K : tn_K (x :: P) O tr h) (hxO : x ∉ O) (hxP : x ∉ P) (htr : tr x ≤ tn_dg ar sg hs x) (hlO : O.length < 400) (hlP : ∀ c, c < n → c ∉ x :: P → c ∉ O → P.length + 1 < 400)
    (hpush : tr x < tn_dg ar sg hs x → tn_ch sg pt hs x (tr x) ∉ x :: P → tn_ch sg pt hs x (tr x) ∉ O → ∀ h', tn_K (tn_ch sg pt hs x (tr x) :: x :: P) O (fun y => if y = tn_ch sg pt hs x (tr x) then 0 else if y = x then tr x + 1 else tr y) h' → tn_fK h h' → Q h' (.inl (some (.int (nI 1)))))
    (hskip : tr x < tn_dg ar sg hs x → tn_ch sg pt hs x (tr x) ∈ O → ∀ h', tn_K (x :: P) O (fun y => if y = x then tr x + 1 else tr y) h' → tn_fK h h' → Q h' (.inl (some (.int (nI 1)))))
    (hcyc : tr x < tn_dg ar sg hs x → tn_ch sg pt hs x (tr x) ∈ x :: P → ∀ h', tn_fK h h' → Q h' (.inl (some (.int (nI 0)))))
    (hpop : tn_dg ar sg hs x ≤ tr x → ∀ h', tn_K P (x :: O) tr h' → tn_fK h h' → Q h' (.inl (some (.int (nI 1))))) :
    am_AW tn_G tn_X (30, 0, 0, [some (.ref 3), some (.int (nI x))], [], h) Q := by
  have hn := C.le
  have h3 := C.d3 hx
  obtain ⟨k1, k2, k3, k4, k5, k6⟩ := id K
  have ktr := k4 x List.mem_cons_self
  refine am_AW.go [] 60 ?_
  simp only [am_Zs, am_zn_1, am_g3, am_a3, am_kz_l, am_kz_r, am_mem, Bool.false_eq_true, am_Rs, am_R0, am_g2, am_al, am_kk_l, am_kk_r, am_step, am_op, am_one, am_two, am_br, am_inv, am_pp, am_ct, am_in, am_no, am_rc, am_s1, am_cut, am_s2, List.getElem?_cons_zero, List.getElem?_cons_succ, List.set_cons_zero, List.set_cons_succ, Value.category, List.cons_append, List.nil_append, am_f0, am_f1, am_f2, am_f3, am_cm1, am_c0, am_c1, am_c2, am_c3, am_c20, am_c40, am_c400, am_c401, am_c1600, true_and, and_true, true_implies, if_true, if_false, Nat.reduceAdd, Nat.reduceSub, Nat.reduceLT, Nat.reduceLeDiff, Nat.reduceEqDiff, reduceIte, Nat.le_refl, or_false, false_and, false_implies, or_true, true_or, implies_true, pk_us, pk_un, am_vs, am_vn, bx_uu, ne_eq, not_false_eq_true, not_true_eq_false, am_b0, am_b1, Nat.not_lt_zero, am_tl0, am_tl1, kr_30, kn_30, kl_30, kc_30_0, kc_30_1, kf_30_15, kc_30_4, kc_30_5, kc_30_6, kc_30_7, kf_30_34, kc_30_10, kc_30_11, kl_11, ko_11, kn_11, ka_30_58, kc_30_14, kc_30_17, kc_30_18, kc_30_21, kc_30_22, kc_30_23, kc_30_24, kc_30_25, kc_30_26, kc_30_27, kc_30_28, kc_30_29, kc_30_32, kc_30_33, kc_30_34, kc_30_37, kc_30_38, kc_30_39, kc_30_40, kc_30_41, kl_12, ko_12, kn_12, ka_30_61, kc_30_44, kl_29, ko_29, kn_29, ka_30_88, kc_30_47, kc_30_48, kc_30_49, kf_30_9, kc_30_52, kc_30_53, kc_30_54, kc_30_55, kc_30_56, kf_30_21, kc_30_59, kc_30_60, kf_30_31, kc_30_63, kc_30_64, kc_30_65, kc_30_66, kc_30_67, kc_30_70, kc_30_71, kc_30_72, kc_30_75, kc_30_76, kc_30_77, kf_30_27, kc_30_80, kc_30_81, kc_30_82, kc_30_85, kc_30_86, tn_X0, tn_X1, tn_X2, tn_X3, tn_X4, tn_X5, tn_X6, tn_X7, tn_X8, tn_X9, tn_X10, tn_X11, tn_X12, tn_X13, tn_X14, tn_X15, tn_X16, tn_X17, tn_X18, tn_X19, tn_X20, tn_X21, tn_X22]
  refine ⟨vi_ (by omega) (by omega), ?_⟩
  refine sp_11 C hx ?_
  simp only [am_Zs, am_zn_1, am_g3, am_a3, am_kz_l, am_kz_r, am_mem, Bool.false_eq_true, am_Rs, am_R0, am_g2, am_al, am_kk_l, am_kk_r, am_step, am_op, am_one, am_two, am_br, am_inv, am_pp, am_ct, am_in, am_no, am_rc, am_s1, am_cut, am_s2, List.getElem?_cons_zero, List.getElem?_cons_succ, List.set_cons_zero, List.set_cons_succ, Value.category, List.cons_append, List.nil_append, am_f0, am_f1, am_f2, am_f3, am_cm1, am_c0, am_c1, am_c2, am_c3, am_c20, am_c40, am_c400, am_c401, am_c1600, true_and, and_true, true_implies, if_true, if_false, Nat.reduceAdd, Nat.reduceSub, Nat.reduceLT, Nat.reduceLeDiff, Nat.reduceEqDiff, reduceIte, Nat.le_refl, or_false, false_and, false_implies, or_true, true_or, implies_true, pk_us, pk_un, am_vs, am_vn, bx_uu, ne_eq, not_false_eq_true, not_true_eq_false, am_b0, am_b1, Nat.not_lt_zero, am_tl0, am_tl1, kr_30, kn_30, kl_30, kc_30_0, kc_30_1, kf_30_15, kc_30_4, kc_30_5, kc_30_6, kc_30_7, kf_30_34, kc_30_10, kc_30_11, kl_11, ko_11, kn_11, ka_30_58, kc_30_14, kc_30_17, kc_30_18, kc_30_21, kc_30_22, kc_30_23, kc_30_24, kc_30_25, kc_30_26, kc_30_27, kc_30_28, kc_30_29, kc_30_32, kc_30_33, kc_30_34, kc_30_37, kc_30_38, kc_30_39, kc_30_40, kc_30_41, kl_12, ko_12, kn_12, ka_30_61, kc_30_44, kl_29, ko_29, kn_29, ka_30_88, kc_30_47, kc_30_48, kc_30_49, kf_30_9, kc_30_52, kc_30_53, kc_30_54, kc_30_55, kc_30_56, kf_30_21, kc_30_59, kc_30_60, kf_30_31, kc_30_63, kc_30_64, kc_30_65, kc_30_66, kc_30_67, kc_30_70, kc_30_71, kc_30_72, kc_30_75, kc_30_76, kc_30_77, kf_30_27, kc_30_80, kc_30_81, kc_30_82, kc_30_85, kc_30_86, tn_X0, tn_X1, tn_X2, tn_X3, tn_X4, tn_X5, tn_X6, tn_X7, tn_X8, tn_X9, tn_X10, tn_X11, tn_X12, tn_X13, tn_X14, tn_X15, tn_X16, tn_X17, tn_X18, tn_X19, tn_X20, tn_X21, tn_X22]
  rw [cl_ (by omega), ktr, nI_leI (by omega) (by omega), nI_add, k1, k2, cl_ (by omega), nI_add, show nI 1 = 1 by decide, nI_pred, List.length_cons, nI_pred]
  refine ⟨fun hle => ⟨vi_ (by omega) (by omega), vi_ (by omega) (by omega), ?_⟩, fun hlt => ⟨vi_ (by omega) (by omega), vi_ (by omega) (by omega), vi_ (by omega) (by omega), ?_⟩⟩
  · refine hpop hle _ ⟨?_, ?_, fun t ht => ?_, fun y hy => ?_, fun i y hy => ?_, fun i y hy => ?_⟩ ⟨fun i hi hj => ?_, fun k hk => ?_⟩
    · simp only [pk_us]
    · simp only [pk_un (show (6 : Nat) ≠ 5 by decide), pk_us, List.length_cons]
    · simp only [am_vn (show (15 : Nat) ≠ 18 by decide), am_vs, upd, List.mem_cons]
      by_cases e : t = x
      · subst e; simp
      · rw [if_neg e, k3 t ht]
        simp only [List.mem_cons, e, false_or]
    · simp only [am_vn (show (16 : Nat) ≠ 18 by decide), am_vn (show (16 : Nat) ≠ 15 by decide)]
      exact k4 y (List.mem_cons_of_mem _ hy)
    · simp only [am_vn (show (17 : Nat) ≠ 18 by decide), am_vn (show (17 : Nat) ≠ 15 by decide)]
      refine k5 i y ?_
      rw [List.reverse_cons, List.getElem?_append_left (List.getElem?_eq_some_iff.mp hy).1]
      exact hy
    · simp only [am_vs, upd]
      rcases tn_rev_get hy with ⟨e1, e2⟩ | ⟨e1, e2⟩
      · rw [if_pos e1, e2]
      · rw [if_neg (by omega)]; exact k6 i y e2
    · simp only [pk_un hi, pk_un hj]
    · simp only [am_vn (show k ≠ 18 by omega), am_vn (show k ≠ 15 by omega)]
  · have hlt : tr x < tn_dg ar sg hs x := by omega
    obtain ⟨s, e1, e2, e3, e4, e5, e6⟩ := C.ch hx hlt
    have C2 : tn_C n m ar sg pt hs (h.1, va_up h.2 16 (upd (h.2 16) x (nI (tr x + 1)))) := C.fr (fun _ _ _ => rfl) (fun k a b => am_vn (by omega))
    have K2 : tn_K (x :: P) O (fun y => if y = x then tr x + 1 else tr y) (h.1, va_up h.2 16 (upd (h.2 16) x (nI (tr x + 1)))) := by
      refine ⟨k1, k2, fun t ht => ?_, fun y hy => ?_, fun i y hy => ?_, fun i y hy => ?_⟩
      · simp only [am_vn (show (15 : Nat) ≠ 16 by decide)]; exact k3 t ht
      · simp only [am_vs, upd]
        by_cases e : y = x
        · rw [if_pos e, if_pos e]
        · rw [if_neg e, if_neg e]; exact k4 y hy
      · simp only [am_vn (show (17 : Nat) ≠ 16 by decide)]; exact k5 i y hy
      · simp only [am_vn (show (18 : Nat) ≠ 16 by decide)]; exact k6 i y hy
    have f2 : tn_fK h (h.1, va_up h.2 16 (upd (h.2 16) x (nI (tr x + 1)))) := ⟨fun _ _ _ => rfl, fun k hk => am_vn (by omega)⟩
    refine sp_12 C2 hx e1 e2 ?_
    rw [← e4]
    simp only [am_Zs, am_zn_1, am_g3, am_a3, am_kz_l, am_kz_r, am_mem, Bool.false_eq_true, am_Rs, am_R0, am_g2, am_al, am_kk_l, am_kk_r, am_step, am_op, am_one, am_two, am_br, am_inv, am_pp, am_ct, am_in, am_no, am_rc, am_s1, am_cut, am_s2, List.getElem?_cons_zero, List.getElem?_cons_succ, List.set_cons_zero, List.set_cons_succ, Value.category, List.cons_append, List.nil_append, am_f0, am_f1, am_f2, am_f3, am_cm1, am_c0, am_c1, am_c2, am_c3, am_c20, am_c40, am_c400, am_c401, am_c1600, true_and, and_true, true_implies, if_true, if_false, Nat.reduceAdd, Nat.reduceSub, Nat.reduceLT, Nat.reduceLeDiff, Nat.reduceEqDiff, reduceIte, Nat.le_refl, or_false, false_and, false_implies, or_true, true_or, implies_true, pk_us, pk_un, am_vs, am_vn, bx_uu, ne_eq, not_false_eq_true, not_true_eq_false, am_b0, am_b1, Nat.not_lt_zero, am_tl0, am_tl1, kr_30, kn_30, kl_30, kc_30_0, kc_30_1, kf_30_15, kc_30_4, kc_30_5, kc_30_6, kc_30_7, kf_30_34, kc_30_10, kc_30_11, kl_11, ko_11, kn_11, ka_30_58, kc_30_14, kc_30_17, kc_30_18, kc_30_21, kc_30_22, kc_30_23, kc_30_24, kc_30_25, kc_30_26, kc_30_27, kc_30_28, kc_30_29, kc_30_32, kc_30_33, kc_30_34, kc_30_37, kc_30_38, kc_30_39, kc_30_40, kc_30_41, kl_12, ko_12, kn_12, ka_30_61, kc_30_44, kl_29, ko_29, kn_29, ka_30_88, kc_30_47, kc_30_48, kc_30_49, kf_30_9, kc_30_52, kc_30_53, kc_30_54, kc_30_55, kc_30_56, kf_30_21, kc_30_59, kc_30_60, kf_30_31, kc_30_63, kc_30_64, kc_30_65, kc_30_66, kc_30_67, kc_30_70, kc_30_71, kc_30_72, kc_30_75, kc_30_76, kc_30_77, kf_30_27, kc_30_80, kc_30_81, kc_30_82, kc_30_85, kc_30_86, tn_X0, tn_X1, tn_X2, tn_X3, tn_X4, tn_X5, tn_X6, tn_X7, tn_X8, tn_X9, tn_X10, tn_X11, tn_X12, tn_X13, tn_X14, tn_X15, tn_X16, tn_X17, tn_X18, tn_X19, tn_X20, tn_X21, tn_X22]
    refine sp_29 K2 (by omega) (fun q1 q2 => by rw [List.length_cons]; exact hlP _ e5 q1 q2) (fun q1 q2 h' K' f' => ?_) (fun q => ?_) (fun q1 q2 => ?_)
    · simp only [am_Zs, am_zn_1, am_g3, am_a3, am_kz_l, am_kz_r, am_mem, Bool.false_eq_true, am_Rs, am_R0, am_g2, am_al, am_kk_l, am_kk_r, am_step, am_op, am_one, am_two, am_br, am_inv, am_pp, am_ct, am_in, am_no, am_rc, am_s1, am_cut, am_s2, List.getElem?_cons_zero, List.getElem?_cons_succ, List.set_cons_zero, List.set_cons_succ, Value.category, List.cons_append, List.nil_append, am_f0, am_f1, am_f2, am_f3, am_cm1, am_c0, am_c1, am_c2, am_c3, am_c20, am_c40, am_c400, am_c401, am_c1600, true_and, and_true, true_implies, if_true, if_false, Nat.reduceAdd, Nat.reduceSub, Nat.reduceLT, Nat.reduceLeDiff, Nat.reduceEqDiff, reduceIte, Nat.le_refl, or_false, false_and, false_implies, or_true, true_or, implies_true, pk_us, pk_un, am_vs, am_vn, bx_uu, ne_eq, not_false_eq_true, not_true_eq_false, am_b0, am_b1, Nat.not_lt_zero, am_tl0, am_tl1, kr_30, kn_30, kl_30, kc_30_0, kc_30_1, kf_30_15, kc_30_4, kc_30_5, kc_30_6, kc_30_7, kf_30_34, kc_30_10, kc_30_11, kl_11, ko_11, kn_11, ka_30_58, kc_30_14, kc_30_17, kc_30_18, kc_30_21, kc_30_22, kc_30_23, kc_30_24, kc_30_25, kc_30_26, kc_30_27, kc_30_28, kc_30_29, kc_30_32, kc_30_33, kc_30_34, kc_30_37, kc_30_38, kc_30_39, kc_30_40, kc_30_41, kl_12, ko_12, kn_12, ka_30_61, kc_30_44, kl_29, ko_29, kn_29, ka_30_88, kc_30_47, kc_30_48, kc_30_49, kf_30_9, kc_30_52, kc_30_53, kc_30_54, kc_30_55, kc_30_56, kf_30_21, kc_30_59, kc_30_60, kf_30_31, kc_30_63, kc_30_64, kc_30_65, kc_30_66, kc_30_67, kc_30_70, kc_30_71, kc_30_72, kc_30_75, kc_30_76, kc_30_77, kf_30_27, kc_30_80, kc_30_81, kc_30_82, kc_30_85, kc_30_86, tn_X0, tn_X1, tn_X2, tn_X3, tn_X4, tn_X5, tn_X6, tn_X7, tn_X8, tn_X9, tn_X10, tn_X11, tn_X12, tn_X13, tn_X14, tn_X15, tn_X16, tn_X17, tn_X18, tn_X19, tn_X20, tn_X21, tn_X22]
      exact hpush hlt q1 q2 h' K' (f2.tr f')
    · simp only [am_Zs, am_zn_1, am_g3, am_a3, am_kz_l, am_kz_r, am_mem, Bool.false_eq_true, am_Rs, am_R0, am_g2, am_al, am_kk_l, am_kk_r, am_step, am_op, am_one, am_two, am_br, am_inv, am_pp, am_ct, am_in, am_no, am_rc, am_s1, am_cut, am_s2, List.getElem?_cons_zero, List.getElem?_cons_succ, List.set_cons_zero, List.set_cons_succ, Value.category, List.cons_append, List.nil_append, am_f0, am_f1, am_f2, am_f3, am_cm1, am_c0, am_c1, am_c2, am_c3, am_c20, am_c40, am_c400, am_c401, am_c1600, true_and, and_true, true_implies, if_true, if_false, Nat.reduceAdd, Nat.reduceSub, Nat.reduceLT, Nat.reduceLeDiff, Nat.reduceEqDiff, reduceIte, Nat.le_refl, or_false, false_and, false_implies, or_true, true_or, implies_true, pk_us, pk_un, am_vs, am_vn, bx_uu, ne_eq, not_false_eq_true, not_true_eq_false, am_b0, am_b1, Nat.not_lt_zero, am_tl0, am_tl1, kr_30, kn_30, kl_30, kc_30_0, kc_30_1, kf_30_15, kc_30_4, kc_30_5, kc_30_6, kc_30_7, kf_30_34, kc_30_10, kc_30_11, kl_11, ko_11, kn_11, ka_30_58, kc_30_14, kc_30_17, kc_30_18, kc_30_21, kc_30_22, kc_30_23, kc_30_24, kc_30_25, kc_30_26, kc_30_27, kc_30_28, kc_30_29, kc_30_32, kc_30_33, kc_30_34, kc_30_37, kc_30_38, kc_30_39, kc_30_40, kc_30_41, kl_12, ko_12, kn_12, ka_30_61, kc_30_44, kl_29, ko_29, kn_29, ka_30_88, kc_30_47, kc_30_48, kc_30_49, kf_30_9, kc_30_52, kc_30_53, kc_30_54, kc_30_55, kc_30_56, kf_30_21, kc_30_59, kc_30_60, kf_30_31, kc_30_63, kc_30_64, kc_30_65, kc_30_66, kc_30_67, kc_30_70, kc_30_71, kc_30_72, kc_30_75, kc_30_76, kc_30_77, kf_30_27, kc_30_80, kc_30_81, kc_30_82, kc_30_85, kc_30_86, tn_X0, tn_X1, tn_X2, tn_X3, tn_X4, tn_X5, tn_X6, tn_X7, tn_X8, tn_X9, tn_X10, tn_X11, tn_X12, tn_X13, tn_X14, tn_X15, tn_X16, tn_X17, tn_X18, tn_X19, tn_X20, tn_X21, tn_X22]
      exact hskip hlt q _ K2 f2
    · simp only [am_Zs, am_zn_1, am_g3, am_a3, am_kz_l, am_kz_r, am_mem, Bool.false_eq_true, am_Rs, am_R0, am_g2, am_al, am_kk_l, am_kk_r, am_step, am_op, am_one, am_two, am_br, am_inv, am_pp, am_ct, am_in, am_no, am_rc, am_s1, am_cut, am_s2, List.getElem?_cons_zero, List.getElem?_cons_succ, List.set_cons_zero, List.set_cons_succ, Value.category, List.cons_append, List.nil_append, am_f0, am_f1, am_f2, am_f3, am_cm1, am_c0, am_c1, am_c2, am_c3, am_c20, am_c40, am_c400, am_c401, am_c1600, true_and, and_true, true_implies, if_true, if_false, Nat.reduceAdd, Nat.reduceSub, Nat.reduceLT, Nat.reduceLeDiff, Nat.reduceEqDiff, reduceIte, Nat.le_refl, or_false, false_and, false_implies, or_true, true_or, implies_true, pk_us, pk_un, am_vs, am_vn, bx_uu, ne_eq, not_false_eq_true, not_true_eq_false, am_b0, am_b1, Nat.not_lt_zero, am_tl0, am_tl1, kr_30, kn_30, kl_30, kc_30_0, kc_30_1, kf_30_15, kc_30_4, kc_30_5, kc_30_6, kc_30_7, kf_30_34, kc_30_10, kc_30_11, kl_11, ko_11, kn_11, ka_30_58, kc_30_14, kc_30_17, kc_30_18, kc_30_21, kc_30_22, kc_30_23, kc_30_24, kc_30_25, kc_30_26, kc_30_27, kc_30_28, kc_30_29, kc_30_32, kc_30_33, kc_30_34, kc_30_37, kc_30_38, kc_30_39, kc_30_40, kc_30_41, kl_12, ko_12, kn_12, ka_30_61, kc_30_44, kl_29, ko_29, kn_29, ka_30_88, kc_30_47, kc_30_48, kc_30_49, kf_30_9, kc_30_52, kc_30_53, kc_30_54, kc_30_55, kc_30_56, kf_30_21, kc_30_59, kc_30_60, kf_30_31, kc_30_63, kc_30_64, kc_30_65, kc_30_66, kc_30_67, kc_30_70, kc_30_71, kc_30_72, kc_30_75, kc_30_76, kc_30_77, kf_30_27, kc_30_80, kc_30_81, kc_30_82, kc_30_85, kc_30_86, tn_X0, tn_X1, tn_X2, tn_X3, tn_X4, tn_X5, tn_X6, tn_X7, tn_X8, tn_X9, tn_X10, tn_X11, tn_X12, tn_X13, tn_X14, tn_X15, tn_X16, tn_X17, tn_X18, tn_X19, tn_X20, tn_X21, tn_X22]
      exact hcyc hlt q2 _ f2
end GO
