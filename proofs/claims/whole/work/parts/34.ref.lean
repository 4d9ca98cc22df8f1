/-! TermNet: count. -/
def tn_ct (n m : Nat) (sg : Nat → Option Nat) (hs : List (Nat × Nat)) (eq : Nat) (P : List (Nat × Nat × Nat)) (a : Int32) : Int32 :=
  if a.toInt = 0 then nI m else if a.toInt = 1 then nI n else if a.toInt = 2 then nI P.length else if a.toInt = 3 then nI eq else if a.toInt = 4 then nI (n - hs.length) else if a.toInt = 5 then nI (pu_cn (fun t => decide (pu_hg hs t = t ∧ pu_hs sg hs t ≠ none)) n) else -1
theorem am_sw38 (mk : Nat → am_C) (x : Int) : am_sw mk 1 x 0 0 [39, 47, 55, 60, 65, 81] = [(x = 0, mk 40), (x = 1, mk 48), (x = 2, mk 56), (x = 3, mk 61), (x = 4, mk 66), (x = 5, mk 82)] := rfl
theorem am_so38 : (am_swo 1 [39, 47, 55, 60, 65, 81] = true) = True := by simp [am_swo]
theorem am_sz38 : ((5 : Int) + 1 = 0 + ((#[39, 47, 55, 60, 65, 81] : Array Int).size : Int)) = True := by simp
theorem sp_38 {n m : Nat} {ar : Nat → Nat} {sg : Nat → Option Nat} {pt : Nat → Nat → Nat} {hs : List (Nat × Nat)} {eq : Nat} {P : List (Nat × Nat × Nat)} {h : am_S} {Q : am_Q} (I : tn_I n m ar sg pt hs eq P h) {a : Int32} (hQ : Q h (.inl (some (.int (tn_ct n m sg hs eq P a))))) : am_AW tn_G tn_X (38, 0, 0, [some (.ref 0), some (.int a)], [], h) Q := by
  refine am_AW.go [] 60 ?_
  simp only [am_Zs, am_zn_1, am_g3, am_a3, am_kz_l, am_kz_r, am_mem, Bool.false_eq_true, am_Rs, am_R0, am_g2, am_al, am_kk_l, am_kk_r, am_step, am_op, am_one, am_two, am_br, am_inv, am_pp, am_ct, am_in, am_no, am_rc, am_s1, am_cut, am_s2, List.getElem?_cons_zero, List.getElem?_cons_succ, List.set_cons_zero, List.set_cons_succ, Value.category, List.cons_append, List.nil_append, am_f0, am_f1, am_f2, am_f3, am_cm1, am_c0, am_c1, am_c2, am_c3, am_c20, am_c40, am_c400, am_c401, am_c1600, true_and, and_true, true_implies, if_true, if_false, Nat.reduceAdd, Nat.reduceSub, Nat.reduceLT, Nat.reduceLeDiff, Nat.reduceEqDiff, reduceIte, Nat.le_refl, or_false, false_and, false_implies, or_true, true_or, implies_true, pk_us, pk_un, am_vs, am_vn, bx_uu, ne_eq, not_false_eq_true, not_true_eq_false, am_b0, am_b1, Nat.not_lt_zero, am_tl0, am_tl1, am_l1, kr_38, kn_38, kl_38, kc_38_0, kc_38_1, kc_38_40, kc_38_41, kf_38_10, kc_38_44, kf_38_65, kc_38_47, kc_38_48, kc_38_49, kc_38_52, kf_38_115, kc_38_55, kc_38_56, kc_38_57, kf_38_51, kc_38_60, kc_38_61, kc_38_62, kf_38_55, kc_38_65, kc_38_66, kc_38_67, kc_38_70, kc_38_73, kc_38_74, kf_38_21, kc_38_77, kf_38_104, kc_38_80, kc_38_81, kc_38_82, kc_38_83, kc_38_86, kl_0, ko_0, kn_0, ka_38_169, kc_38_89, kc_38_90, kc_38_91, tn_X0, tn_X1, tn_X2, tn_X3, tn_X4, tn_X5, tn_X6, tn_X7, tn_X8, tn_X9, tn_X10, tn_X11, tn_X12, tn_X13, tn_X14, tn_X15, tn_X16, tn_X17, tn_X18, tn_X19, tn_X20, tn_X21, tn_X22, am_sw38, am_so38, am_sz38]
  refine ⟨fun e => ?_, fun e => ?_, fun e => ?_, fun e => ?_, fun e => ?_, fun e => ?_, fun e => ?_⟩
  · rw [tn_ct, if_neg (by omega), if_neg (by omega), if_neg (by omega), if_neg (by omega), if_neg (by omega), if_neg (by omega)] at hQ
    exact hQ
  · rw [tn_ct, if_pos e] at hQ
    rw [I.1.1.1]
    exact hQ
  · rw [tn_ct, if_neg (by omega), if_pos e] at hQ
    rw [I.1.nn]
    exact hQ
  · rw [tn_ct, if_neg (by omega), if_neg (by omega), if_pos e] at hQ
    rw [I.2.2.2.1]
    exact hQ
  · rw [tn_ct, if_neg (by omega), if_neg (by omega), if_neg (by omega), if_pos e] at hQ
    rw [I.2.2.1]
    exact hQ
  · rw [tn_ct, if_neg (by omega), if_neg (by omega), if_neg (by omega), if_neg (by omega), if_pos e] at hQ
    rw [I.1.nn, I.1.2.2.1, pk_sub (pu_len0 I.1.V)]
    exact hQ
  · rw [tn_ct, if_neg (by omega), if_neg (by omega), if_neg (by omega), if_neg (by omega), if_neg (by omega), if_pos e] at hQ
    refine sp_0 I.1 ?_
    simp only [am_Zs, am_zn_1, am_g3, am_a3, am_kz_l, am_kz_r, am_mem, Bool.false_eq_true, am_Rs, am_R0, am_g2, am_al, am_kk_l, am_kk_r, am_step, am_op, am_one, am_two, am_br, am_inv, am_pp, am_ct, am_in, am_no, am_rc, am_s1, am_cut, am_s2, List.getElem?_cons_zero, List.getElem?_cons_succ, List.set_cons_zero, List.set_cons_succ, Value.category, List.cons_append, List.nil_append, am_f0, am_f1, am_f2, am_f3, am_cm1, am_c0, am_c1, am_c2, am_c3, am_c20, am_c40, am_c400, am_c401, am_c1600, true_and, and_true, true_implies, if_true, if_false, Nat.reduceAdd, Nat.reduceSub, Nat.reduceLT, Nat.reduceLeDiff, Nat.reduceEqDiff, reduceIte, Nat.le_refl, or_false, false_and, false_implies, or_true, true_or, implies_true, pk_us, pk_un, am_vs, am_vn, bx_uu, ne_eq, not_false_eq_true, not_true_eq_false, am_b0, am_b1, Nat.not_lt_zero, am_tl0, am_tl1, am_l1, kr_38, kn_38, kl_38, kc_38_0, kc_38_1, kc_38_40, kc_38_41, kf_38_10, kc_38_44, kf_38_65, kc_38_47, kc_38_48, kc_38_49, kc_38_52, kf_38_115, kc_38_55, kc_38_56, kc_38_57, kf_38_51, kc_38_60, kc_38_61, kc_38_62, kf_38_55, kc_38_65, kc_38_66, kc_38_67, kc_38_70, kc_38_73, kc_38_74, kf_38_21, kc_38_77, kf_38_104, kc_38_80, kc_38_81, kc_38_82, kc_38_83, kc_38_86, kl_0, ko_0, kn_0, ka_38_169, kc_38_89, kc_38_90, kc_38_91, tn_X0, tn_X1, tn_X2, tn_X3, tn_X4, tn_X5, tn_X6, tn_X7, tn_X8, tn_X9, tn_X10, tn_X11, tn_X12, tn_X13, tn_X14, tn_X15, tn_X16, tn_X17, tn_X18, tn_X19, tn_X20, tn_X21, tn_X22]
    exact hQ
/-! THE REFERENCE'S STATE -/
theorem tn_o_lt {x : Option Nat} (h : ∀ k, x = some k → k < 2 ^ 31) : tn_o x < 0 ↔ x = none := by
  cases x with
  | none => simp only [tn_o, iff_true]; decide
  | some k => simp only [tn_o, reduceCtorEq, iff_false]; exact nI_pos (h k rfl)
theorem tn_o_ge {x : Option Nat} (h : ∀ k, x = some k → k < 2 ^ 31) : 0 ≤ tn_o x ↔ x ≠ none := by rw [← Int32.not_lt, tn_o_lt h]
theorem tn_o_eq {x y : Option Nat} (h : ∀ k, x = some k → k < 2 ^ 31) (h' : ∀ k, y = some k → k < 2 ^ 31) : tn_o x = tn_o y ↔ x = y := by
  cases y with
  | none => exact tn_o_none h
  | some j =>
    cases x with
    | none => simp only [reduceCtorEq, iff_false]; intro e; exact absurd ((tn_o_none h').mp e.symm) (by simp)
    | some k => simp only [tn_o, Option.some.injEq]; exact nI_eq (h k rfl) (h' j rfl)
def tn_B (n m : Nat) (ar : Nat → Nat) (sg : Nat → Option Nat) (pt : Nat → Nat → Nat) (h : am_S) : Prop :=
  (h.1 0 = nI m ∧ m ≤ 40) ∧ (h.1 1 = nI n ∧ n ≤ 400) ∧ (∀ s, s < m → h.2 1 s = nI (ar s) ∧ ar s ≤ 3) ∧ (∀ t, t < n → h.2 2 t = tn_o (sg t) ∧ (∀ s, sg t = some s → s < m) ∧ ∀ k, k < pu_np sg ar t → h.2 3 (3 * t + k) = nI (pt t k)) ∧ pu_Told n sg ar pt
def tn_gr (o n : Nat) (g : Nat → Nat) (h : am_S) : Prop := ∀ t, t < n → h.2 o t = nI (g t)
/-- only the row o is written -/
def tn_fo (o : Nat) (h h' : am_S) : Prop := h'.1 = h.1 ∧ ∀ k, k ≠ o → h'.2 k = h.2 k
theorem tn_fo.rf {o : Nat} {h : am_S} : tn_fo o h h := ⟨rfl, fun _ _ => rfl⟩
theorem tn_fo.tr {o : Nat} {h h1 h2 : am_S} (a : tn_fo o h h1) (b : tn_fo o h1 h2) : tn_fo o h h2 := ⟨b.1.trans a.1, fun k hk => (b.2 k hk).trans (a.2 k hk)⟩
section BB
variable {n m : Nat} {ar : Nat → Nat} {sg : Nat → Option Nat} {pt : Nat → Nat → Nat} {h h' : am_S}
theorem tn_B.fr (B : tn_B n m ar sg pt h) (f1 : ∀ i, i < 2 → h'.1 i = h.1 i) (f2 : ∀ k, 1 ≤ k → k ≤ 3 → h'.2 k = h.2 k) : tn_B n m ar sg pt h' := by
  obtain ⟨b1, b2, b3, b4, b5⟩ := B
  refine ⟨⟨by rw [f1 0 (by omega)]; exact b1.1, b1.2⟩, ⟨by rw [f1 1 (by omega)]; exact b2.1, b2.2⟩, fun s q => ?_, fun t ht => ?_, b5⟩
  · rw [f2 1 (by omega) (by omega)]; exact b3 s q
  · rw [f2 2 (by omega) (by omega), f2 3 (by omega) (by omega)]; exact b4 t ht
theorem tn_B.o {o : Nat} (B : tn_B n m ar sg pt h) (ho : 3 < o) (f : tn_fo o h h') : tn_B n m ar sg pt h' := B.fr (fun i _ => by rw [f.1]) (fun k _ _ => f.2 k (by omega))
theorem tn_B.le (B : tn_B n m ar sg pt h) : n ≤ 400 := B.2.1.2
theorem tn_B.nn (B : tn_B n m ar sg pt h) : h.1 1 = nI n := B.2.1.1
theorem tn_B.m4 (B : tn_B n m ar sg pt h) : m ≤ 40 := B.1.2
theorem tn_B.T (B : tn_B n m ar sg pt h) : pu_Told n sg ar pt := B.2.2.2.2
theorem tn_B.sn (B : tn_B n m ar sg pt h) {t : Nat} (ht : t < n) : h.2 2 t = tn_o (sg t) := (B.2.2.2.1 t ht).1
theorem tn_B.sm (B : tn_B n m ar sg pt h) {t s : Nat} (ht : t < n) (e : sg t = some s) : s < m := (B.2.2.2.1 t ht).2.1 s e
theorem tn_B.pa (B : tn_B n m ar sg pt h) {t k : Nat} (ht : t < n) (hk : k < pu_np sg ar t) : h.2 3 (3 * t + k) = nI (pt t k) := (B.2.2.2.1 t ht).2.2 k hk
theorem tn_B.ay (B : tn_B n m ar sg pt h) {s : Nat} (e : s < m) : h.2 1 s = nI (ar s) := (B.2.2.1 s e).1
theorem tn_B.a3 (B : tn_B n m ar sg pt h) {s : Nat} (e : s < m) : ar s ≤ 3 := (B.2.2.1 s e).2
theorem tn_B.sb (B : tn_B n m ar sg pt h) {t : Nat} (ht : t < n) : ∀ k, sg t = some k → k < 2 ^ 31 := fun k e => by
  have := B.sm ht e
  have := B.m4
  omega
theorem tn_B.slt (B : tn_B n m ar sg pt h) {t : Nat} (ht : t < n) : tn_o (sg t) < 0 ↔ sg t = none := tn_o_lt (B.sb ht)
theorem tn_B.sge (B : tn_B n m ar sg pt h) {t : Nat} (ht : t < n) : 0 ≤ tn_o (sg t) ↔ sg t ≠ none := tn_o_ge (B.sb ht)
theorem tn_B.seq (B : tn_B n m ar sg pt h) {t u : Nat} (ht : t < n) (hu : u < n) : tn_o (sg t) = tn_o (sg u) ↔ sg t = sg u := tn_o_eq (B.sb ht) (B.sb hu)
theorem tn_B.p3 (B : tn_B n m ar sg pt h) {t : Nat} (ht : t < n) : pu_np sg ar t ≤ 3 := by
  unfold pu_np
  cases e : sg t with
  | none => exact Nat.zero_le _
  | some s => exact B.a3 (B.sm ht e)
theorem tn_B.pl (B : tn_B n m ar sg pt h) {t k : Nat} (ht : t < n) (hk : k < pu_np sg ar t) : pt t k < n := Nat.lt_trans (B.T t ht k hk) ht
/-- the arity that the code reads -/
theorem tn_B.ax (B : tn_B n m ar sg pt h) {t : Nat} (ht : t < n) (e : sg t ≠ none) : h.2 1 (tn_o (sg t)).toNatClampNeg = nI (pu_np sg ar t) ∧ vp_in (tn_o (sg t)) 40 := by
  cases q : sg t with
  | none => exact absurd q e
  | some s =>
    have := B.sm ht q
    have := B.m4
    simp only [tn_o, pu_np, q]
    rw [cl_ (by omega), B.ay (by omega)]
    exact ⟨rfl, vi_ (by omega) (by omega)⟩
end BB
theorem pu_jn_hi {hs : List (Nat × Nat)} {a b : Nat} (h : pu_hg hs b ≤ pu_hg hs a) (t : Nat) : pu_hg (pu_jn hs a b) t = if pu_hg hs t = pu_hg hs a then pu_hg hs b else pu_hg hs t := by
  unfold pu_jn
  by_cases e : pu_hg hs a = pu_hg hs b
  · rw [if_pos e]
    by_cases e2 : pu_hg hs t = pu_hg hs a
    · rw [if_pos e2, e2, e]
    · rw [if_neg e2]
  · rw [if_neg e, if_neg (by omega)]
    rfl
theorem pu_jn_lo {hs : List (Nat × Nat)} {a b : Nat} (h : ¬ pu_hg hs b ≤ pu_hg hs a) (t : Nat) : pu_hg (pu_jn hs a b) t = if pu_hg hs t = pu_hg hs b then pu_hg hs a else pu_hg hs t := by
  unfold pu_jn
  rw [if_neg (by omega), if_pos (by omega)]
  rfl
section JO
variable {n m : Nat} {ar : Nat → Nat} {sg : Nat → Option Nat} {pt : Nat → Nat → Nat} {hs : List (Nat × Nat)} {h : am_S} {Q : am_Q} {o : Nat}
set_option maxRecDepth 4000 in
/-- join, its loop -/
theorem sp_60l (ho : tn_Y[o]? = some (.inr (0, 400))) (hn : h.1 1 = nI n) (hN : n ≤ 400) {g : Nat → Nat} (hg : ∀ t, t < n → g t < 400) {lo hi : Nat} (hhi : hi < 400) {A B : Option Value} (hQ : ∀ h', tn_gr o n (fun t => if g t = hi then lo else g t) h' → tn_fo o h h' → Q h' (.inl none)) :
    ∀ (d t : Nat), n - t = d → t ≤ n → ∀ h1, (∀ u, u < t → h1.2 o u = nI (if g u = hi then lo else g u)) → (∀ u, t ≤ u → u < n → h1.2 o u = nI (g u)) → tn_fo o h h1 → am_AW tn_G tn_Y (60, 43, 0, [some (.ref 0), some (.ref o), A, B, some (.int (nI lo)), some (.int (nI hi)), some (.int (nI t))], [], h1) Q := by
  intro d
  induction d with
  | zero =>
    intro t hd ht h1 q1 q2 f
    have : t = n := by omega
    subst this
    refine am_AW.go [43] 60 ?_
    simp only [am_Zs, am_zn_1, am_g3, am_a3, am_kz_l, am_kz_r, am_mem, Bool.false_eq_true, am_Rs, am_R0, am_g2, am_al, am_kk_l, am_kk_r, am_step, am_op, am_one, am_two, am_br, am_inv, am_pp, am_ct, am_in, am_no, am_rc, am_s1, am_cut, am_s2, List.getElem?_cons_zero, List.getElem?_cons_succ, List.set_cons_zero, List.set_cons_succ, Value.category, List.cons_append, List.nil_append, am_f0, am_f1, am_f2, am_f3, am_cm1, am_c0, am_c1, am_c2, am_c3, am_c20, am_c40, am_c400, am_c401, am_c1600, true_and, and_true, true_implies, if_true, if_false, Nat.reduceAdd, Nat.reduceSub, Nat.reduceLT, Nat.reduceLeDiff, Nat.reduceEqDiff, reduceIte, Nat.le_refl, or_false, false_and, false_implies, or_true, true_or, implies_true, pk_us, pk_un, am_vs, am_vn, bx_uu, ne_eq, not_false_eq_true, not_true_eq_false, am_b0, am_b1, Nat.not_lt_zero, am_tl0, am_tl1, am_l1, kr_60, kn_60, kl_60, kc_60_0, kc_60_1, kc_60_2, kc_60_3, kc_60_4, kc_60_5, kc_60_6, kc_60_9, kc_60_10, kc_60_11, kc_60_12, kc_60_15, kc_60_16, kc_60_17, kc_60_18, kc_60_20, kc_60_21, kc_60_22, kc_60_23, kc_60_24, kc_60_25, kc_60_26, kc_60_29, kc_60_30, kc_60_31, kc_60_32, kc_60_35, kc_60_36, kc_60_37, kc_60_38, kc_60_40, kc_60_41, kc_60_43, kc_60_45, kc_60_46, kf_60_54, kc_60_49, kc_60_52, kc_60_53, kc_60_55, kc_60_56, kc_60_58, kc_60_61, kc_60_62, kc_60_64, kc_60_66, kc_60_67, kc_60_70, kc_60_73, tn_Y0, tn_Y1, tn_Y2, tn_Y3, tn_Y4, tn_Y5, tn_Y6, tn_Y7, tn_Y8, tn_Y9, tn_Y10, tn_Y11, tn_Y12, tn_Y13, ho]
    rw [f.1, hn, nI_leI (by omega) (by omega)]
    exact ⟨fun _ => hQ h1 q1 f, fun q => by omega⟩
  | succ d ih =>
    intro t hd ht h1 q1 q2 f
    have htn : t < n := by omega
    have hgt := hg t htn
    refine am_AW.go [43] 60 ?_
    simp only [am_Zs, am_zn_1, am_g3, am_a3, am_kz_l, am_kz_r, am_mem, Bool.false_eq_true, am_Rs, am_R0, am_g2, am_al, am_kk_l, am_kk_r, am_step, am_op, am_one, am_two, am_br, am_inv, am_pp, am_ct, am_in, am_no, am_rc, am_s1, am_cut, am_s2, List.getElem?_cons_zero, List.getElem?_cons_succ, List.set_cons_zero, List.set_cons_succ, Value.category, List.cons_append, List.nil_append, am_f0, am_f1, am_f2, am_f3, am_cm1, am_c0, am_c1, am_c2, am_c3, am_c20, am_c40, am_c400, am_c401, am_c1600, true_and, and_true, true_implies, if_true, if_false, Nat.reduceAdd, Nat.reduceSub, Nat.reduceLT, Nat.reduceLeDiff, Nat.reduceEqDiff, reduceIte, Nat.le_refl, or_false, false_and, false_implies, or_true, true_or, implies_true, pk_us, pk_un, am_vs, am_vn, bx_uu, ne_eq, not_false_eq_true, not_true_eq_false, am_b0, am_b1, Nat.not_lt_zero, am_tl0, am_tl1, am_l1, kr_60, kn_60, kl_60, kc_60_0, kc_60_1, kc_60_2, kc_60_3, kc_60_4, kc_60_5, kc_60_6, kc_60_9, kc_60_10, kc_60_11, kc_60_12, kc_60_15, kc_60_16, kc_60_17, kc_60_18, kc_60_20, kc_60_21, kc_60_22, kc_60_23, kc_60_24, kc_60_25, kc_60_26, kc_60_29, kc_60_30, kc_60_31, kc_60_32, kc_60_35, kc_60_36, kc_60_37, kc_60_38, kc_60_40, kc_60_41, kc_60_43, kc_60_45, kc_60_46, kf_60_54, kc_60_49, kc_60_52, kc_60_53, kc_60_55, kc_60_56, kc_60_58, kc_60_61, kc_60_62, kc_60_64, kc_60_66, kc_60_67, kc_60_70, kc_60_73, tn_Y0, tn_Y1, tn_Y2, tn_Y3, tn_Y4, tn_Y5, tn_Y6, tn_Y7, tn_Y8, tn_Y9, tn_Y10, tn_Y11, tn_Y12, tn_Y13, ho]
    rw [f.1, hn, nI_leI (by omega) (by omega), cl_ (by omega), q2 t (Nat.le_refl _) htn, nI_eq (by omega) (by omega), nI_add]
    refine ⟨fun q => by omega, fun _ => ⟨vi_ (by omega) (by omega), fun e => ?_, fun e => ⟨vi_ (by omega) (by omega), ?_⟩⟩⟩
    · refine ih (t + 1) (by omega) (by omega) h1 (fun u hu => ?_) (fun u hu => q2 u (by omega)) f
      by_cases eu : u = t
      · subst eu; rw [if_neg e]; exact q2 u (Nat.le_refl _) htn
      · exact q1 u (by omega)
    · refine ih (t + 1) (by omega) (by omega) _ (fun u hu => ?_) (fun u hu hun => ?_) ⟨rfl, fun k hk => ?_⟩
      · simp only [am_vs]
        by_cases eu : u = t
        · subst eu; rw [if_pos e, pk_us]
        · rw [pk_un eu]; exact q1 u (by omega)
      · simp only [am_vs]
        rw [pk_un (by omega)]; exact q2 u (by omega) hun
      · simp only [am_vn hk]; exact f.2 k hk
set_option maxRecDepth 4000 in
/-- join -/
theorem sp_60 (ho : tn_Y[o]? = some (.inr (0, 400))) (hn : h.1 1 = nI n) (hN : n ≤ 400) (hV : pu_V n hs) (hg : tn_gr o n (pu_hg hs) h) {a b : Nat} (ha : a < n) (hb : b < n) (hQ : ∀ h', tn_gr o n (pu_hg (pu_jn hs a b)) h' → tn_fo o h h' → Q h' (.inl none)) :
    am_AW tn_G tn_Y (60, 0, 0, [some (.ref 0), some (.ref o), some (.int (nI a)), some (.int (nI b)), none, none, none], [], h) Q := by
  have ga := hV.part.lt ha
  have gb := hV.part.lt hb
  have gl : ∀ t, t < n → pu_hg hs t < 400 := fun t ht => Nat.lt_of_lt_of_le (hV.part.lt ht) hN
  refine am_AW.go [43] 60 ?_
  simp only [am_Zs, am_zn_1, am_g3, am_a3, am_kz_l, am_kz_r, am_mem, Bool.false_eq_true, am_Rs, am_R0, am_g2, am_al, am_kk_l, am_kk_r, am_step, am_op, am_one, am_two, am_br, am_inv, am_pp, am_ct, am_in, am_no, am_rc, am_s1, am_cut, am_s2, List.getElem?_cons_zero, List.getElem?_cons_succ, List.set_cons_zero, List.set_cons_succ, Value.category, List.cons_append, List.nil_append, am_f0, am_f1, am_f2, am_f3, am_cm1, am_c0, am_c1, am_c2, am_c3, am_c20, am_c40, am_c400, am_c401, am_c1600, true_and, and_true, true_implies, if_true, if_false, Nat.reduceAdd, Nat.reduceSub, Nat.reduceLT, Nat.reduceLeDiff, Nat.reduceEqDiff, reduceIte, Nat.le_refl, or_false, false_and, false_implies, or_true, true_or, implies_true, pk_us, pk_un, am_vs, am_vn, bx_uu, ne_eq, not_false_eq_true, not_true_eq_false, am_b0, am_b1, Nat.not_lt_zero, am_tl0, am_tl1, am_l1, kr_60, kn_60, kl_60, kc_60_0, kc_60_1, kc_60_2, kc_60_3, kc_60_4, kc_60_5, kc_60_6, kc_60_9, kc_60_10, kc_60_11, kc_60_12, kc_60_15, kc_60_16, kc_60_17, kc_60_18, kc_60_20, kc_60_21, kc_60_22, kc_60_23, kc_60_24, kc_60_25, kc_60_26, kc_60_29, kc_60_30, kc_60_31, kc_60_32, kc_60_35, kc_60_36, kc_60_37, kc_60_38, kc_60_40, kc_60_41, kc_60_43, kc_60_45, kc_60_46, kf_60_54, kc_60_49, kc_60_52, kc_60_53, kc_60_55, kc_60_56, kc_60_58, kc_60_61, kc_60_62, kc_60_64, kc_60_66, kc_60_67, kc_60_70, kc_60_73, tn_Y0, tn_Y1, tn_Y2, tn_Y3, tn_Y4, tn_Y5, tn_Y6, tn_Y7, tn_Y8, tn_Y9, tn_Y10, tn_Y11, tn_Y12, tn_Y13, ho]
  rw [cl_ (by omega), cl_ (by omega), hg a ha, hg b hb, nI_leI (by omega) (by omega)]
  have va : vp_in (nI a) 400 := vi_ (by omega) (by omega)
  have vb : vp_in (nI b) 400 := vi_ (by omega) (by omega)
  refine ⟨va, vb, fun e => ⟨vb, va, vb, fun _ => ⟨va, ?_⟩, fun q => absurd e q⟩, fun e => ⟨va, va, vb, fun q => absurd q e, fun _ => ⟨vb, ?_⟩⟩⟩
  · exact sp_60l ho hn hN gl (by omega) (fun h' q f => hQ h' (fun t ht => by rw [q t ht, pu_jn_hi e]) f) _ 0 rfl (Nat.zero_le _) h (fun _ q => absurd q (Nat.not_lt_zero _)) (fun u _ hu => hg u hu) tn_fo.rf
  · exact sp_60l ho hn hN gl (by omega) (fun h' q f => hQ h' (fun t ht => by rw [q t ht, pu_jn_lo e]) f) _ 0 rfl (Nat.zero_le _) h (fun _ q => absurd q (Nat.not_lt_zero _)) (fun u _ hu => hg u hu) tn_fo.rf
end JO
