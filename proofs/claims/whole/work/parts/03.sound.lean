/-! THE ABSTRACT MACHINE IS SOUND: what am_AW says of a configuration holds of the machine. -/
def am_cv (ad : Nat → Nat) (v : Value) : Value := match v with
  | .ref k => .ref (ad k)
  | w => w
theorem am_cv_cat (ad : Nat → Nat) (v : Value) : (am_cv ad v).category = v.category := by cases v <;> rfl
def am_fv (ad : Nat → Nat) (I : Nat → Int32) (f : Nat ⊕ Nat) : Value := match f with
  | .inl r => .ref (ad r)
  | .inr i => .int (I i)
def am_E (ad : Nat → Nat) (ca : Nat → ClassId) (h : am_S) (k : Nat) (d : am_D) : va_E := match d with
  | .inl (ci, fs) => .inr (ci, fs.map (am_fv ad h.1))
  | .inr (tc, n) => .inl (ca tc, n, .inl (h.2 k))
def am_W (sh : List am_D) (ad : Nat → Nat) (ca : Nat → ClassId) (h : am_S) : va_W := sh.mapIdx (fun k d => (ad k, am_E ad ca h k d))
def am_ty (ca : Nat → ClassId) : List (ClassId × FieldType) := [(ca 0, .int), (ca 1, .boolean)]
theorem am_W_get {sh : List am_D} {ad : Nat → Nat} {ca : Nat → ClassId} {h : am_S} {k : Nat} {d : am_D} (hd : sh[k]? = some d) : (am_W sh ad ca h)[k]? = some (ad k, am_E ad ca h k d) := by
  simp [am_W, List.getElem?_mapIdx, hd]
/-- a shape's numbers have names of their own; its number fields are ints that are not final -/
def am_Sh (cl : List vw_C) (sh : List am_D) : Prop :=
  (∀ (o ci : Nat) (fs : List (Nat ⊕ Nat)) (k i : Nat), sh[o]? = some (.inl (ci, fs)) → fs[k]? = some (.inr i) → ∀ (o' ci' : Nat) (fs' : List (Nat ⊕ Nat)) (k' : Nat), sh[o']? = some (.inl (ci', fs')) → fs'[k']? = some (.inr i) → o' = o ∧ k' = k) ∧
  ∀ (o ci : Nat) (fs : List (Nat ⊕ Nat)), sh[o]? = some (.inl (ci, fs)) → ∀ (C : String) (T : u_T) (N : Nat), cl[ci]? = some (C, T, N) → fs.length = N ∧ ∀ k i : Nat, fs[k]? = some (.inr i) → parseFieldDescriptor (T k).2.2.1 = some .int ∧ (T k).2.2.2 = false
theorem am_W_row {sh : List am_D} {ad : Nat → Nat} {ca : Nat → ClassId} {h : am_S} {o tc n : Nat} {f : Nat → Int32} (hd : sh[o]? = some (.inr (tc, n))) : (am_W sh ad ca h).set o (ad o, .inl (ca tc, n, .inl f)) = am_W sh ad ca (h.1, va_up h.2 o f) := by
  apply List.ext_getElem?
  intro j
  by_cases hj : j = o
  · subst hj
    have hl : j < (am_W sh ad ca h).length := (List.getElem?_eq_some_iff.mp (am_W_get (ad := ad) (ca := ca) (h := h) hd)).1
    rw [List.getElem?_set_self hl, am_W_get hd]
    simp [am_E, va_up]
  · rw [List.getElem?_set_ne (Ne.symm hj)]
    cases hs : sh[j]? with
    | none => simp [am_W, List.getElem?_mapIdx, hs]
    | some d =>
      rw [am_W_get hs, am_W_get hs]
      cases d with
      | inl q => rfl
      | inr q => simp [am_E, va_up, hj]
theorem am_W_num {cl : List vw_C} {sh : List am_D} (hsh : am_Sh cl sh) {ad : Nat → Nat} {ca : Nat → ClassId} {h : am_S} {o ci k i : Nat} {fs : List (Nat ⊕ Nat)} {x : Int32} (hd : sh[o]? = some (.inl (ci, fs))) (hk : fs[k]? = some (.inr i)) :
    (am_W sh ad ca h).set o (ad o, .inr (ci, (fs.map (am_fv ad h.1)).set k (.int x))) = am_W sh ad ca (upd h.1 i x, h.2) := by
  have old : ∀ (o' ci' : Nat) (fs' : List (Nat ⊕ Nat)) (k' : Nat) (z : Nat ⊕ Nat), sh[o']? = some (.inl (ci', fs')) → fs'[k']? = some z → ¬ (o' = o ∧ k' = k) → am_fv ad (upd h.1 i x) z = am_fv ad h.1 z := by
    intro o' ci' fs' k' z h1 h2 h3
    cases z with
    | inl r => rfl
    | inr i' =>
      by_cases hi : i' = i
      · subst hi
        exact absurd (hsh.1 o ci fs k i' hd hk o' ci' fs' k' h1 h2) h3
      · simp [am_fv, upd, hi]
  apply List.ext_getElem?
  intro j
  by_cases hj : j = o
  · subst hj
    have hl : j < (am_W sh ad ca h).length := (List.getElem?_eq_some_iff.mp (am_W_get (ad := ad) (ca := ca) (h := h) hd)).1
    rw [List.getElem?_set_self hl, am_W_get hd]
    simp only [am_E, Option.some.injEq, Prod.mk.injEq, Sum.inr.injEq, true_and]
    apply List.ext_getElem?
    intro k'
    by_cases hk' : k' = k
    · subst hk'
      have hl2 : k' < (fs.map (am_fv ad h.1)).length := by
        rw [List.length_map]
        exact (List.getElem?_eq_some_iff.mp hk).1
      rw [List.getElem?_set_self hl2, List.getElem?_map, hk]
      simp [am_fv, upd]
    · rw [List.getElem?_set_ne (Ne.symm hk'), List.getElem?_map, List.getElem?_map]
      cases hz : fs[k']? with
      | none => rfl
      | some z =>
        simp only [Option.map_some, Option.some.injEq]
        exact (old j ci fs k' z hd hz (fun q => hk' q.2)).symm
  · rw [List.getElem?_set_ne (Ne.symm hj)]
    cases hs : sh[j]? with
    | none => simp [am_W, List.getElem?_mapIdx, hs]
    | some d =>
      rw [am_W_get hs, am_W_get hs]
      cases d with
      | inr q => rfl
      | inl q =>
        obtain ⟨c2, f2⟩ := q
        simp only [am_E, Option.some.injEq, Prod.mk.injEq, Sum.inr.injEq, true_and]
        apply List.ext_getElem?
        intro k'
        rw [List.getElem?_map, List.getElem?_map]
        cases hz : f2[k']? with
        | none => rfl
        | some z =>
          simp only [Option.map_some, Option.some.injEq]
          exact (old j c2 f2 k' z hs hz (fun q => hj q.1)).symm
/-- the locals -/
def am_lo (ad : Nat → Nat) (ls : Array Slot) (n : Nat) (lo : List (Option Value)) : Prop := ls.size = n ∧ lv_wf ls ∧ ∀ (i : Nat) (v : Value), lo[i]? = some (some v) → ls[i]? = some (.val (am_cv ad v))
def am_pl (ad : Nat → Nat) (n : Nat) (lo : List (Option Value)) : List (Nat × Value) := (List.range n).filterMap (fun i => match lo[i]? with
  | some (some v) => some (i, am_cv ad v)
  | _ => none)
theorem am_pl_mem {ad : Nat → Nat} {n : Nat} {lo : List (Option Value)} {i : Nat} {v : Value} (hi : i < n) (h : lo[i]? = some (some v)) : (i, am_cv ad v) ∈ am_pl ad n lo :=
  List.mem_filterMap.mpr ⟨i, List.mem_range.mpr hi, by rw [h]⟩
theorem am_lo.has {ad : Nat → Nat} {ls : Array Slot} {n : Nat} {lo : List (Option Value)} (h : am_lo ad ls n lo) : lv_has ls n (am_pl ad n lo) := by
  refine ⟨h.1, h.2.1, fun q hq => ?_⟩
  obtain ⟨i, -, hi⟩ := List.mem_filterMap.mp hq
  split at hi
  · rename_i v hv
    cases hi
    exact h.2.2 i v hv
  · cases hi
theorem am_lo.lt {ad : Nat → Nat} {ls : Array Slot} {n : Nat} {lo : List (Option Value)} (h : am_lo ad ls n lo) {i : Nat} {v : Value} (hv : lo[i]? = some (some v)) : i < n := by
  rw [← h.1]
  exact (Array.getElem?_eq_some_iff.mp (h.2.2 i v hv)).1
theorem am_cut_get {lo : List (Option Value)} {i j : Nat} {w : Value} (h : (am_cut lo i)[j]? = some (some w)) : lo[j]? = some (some w) ∧ ¬ (j + 1 = i ∧ w.category = 2) := by
  cases i with
  | zero => exact ⟨h, fun q => by omega⟩
  | succ i =>
    simp only [am_cut] at h
    split at h
    · rename_i v hv
      split at h
      · rename_i hc
        by_cases hj : i = j
        · subst hj
          have hl : i < lo.length := (List.getElem?_eq_some_iff.mp hv).1
          rw [List.getElem?_set_self hl] at h
          simp at h
        · rw [List.getElem?_set_ne hj] at h
          exact ⟨h, fun q => hj (by omega)⟩
      · rename_i hc
        refine ⟨h, fun q => ?_⟩
        have : j = i := by omega
        subst this
        rw [hv] at h
        cases h
        exact hc q.2
    · rename_i hn
      refine ⟨h, fun q => ?_⟩
      have : j = i := by omega
      subst this
      exact hn w h
theorem am_lo_s1 {ad : Nat → Nat} {ls ls' : Array Slot} {n i : Nat} {lo : List (Option Value)} {v : Value} (h : am_lo ad ls n lo)
    (h' : lv_has ls' n ((i, am_cv ad v) :: (am_pl ad n lo).filter (fun q => !(q.1 == i) && !(q.1 + 1 == i && q.2.category == 2)))) : am_lo ad ls' n (am_s1 lo i v) := by
  refine ⟨h'.1, h'.2.1, fun j w hj => ?_⟩
  by_cases hij : i = j
  · subst hij
    have hl : i < (am_cut lo i).length := by
      have := (List.getElem?_eq_some_iff.mp hj).1
      simpa [am_s1] using this
    rw [am_s1, List.getElem?_set_self hl] at hj
    cases hj
    exact h'.2.2 (i, am_cv ad v) List.mem_cons_self
  · rw [am_s1, List.getElem?_set_ne hij] at hj
    obtain ⟨h1, h2⟩ := am_cut_get hj
    refine h'.2.2 (j, am_cv ad w) (List.mem_cons_of_mem _ (List.mem_filter.mpr ⟨am_pl_mem (h.lt h1) h1, ?_⟩))
    have hji : ¬ j = i := fun q => hij q.symm
    simp only [Bool.and_eq_true, Bool.not_eq_true', beq_eq_false_iff_ne, ne_eq, hji, not_false_iff, true_and, am_cv_cat, Bool.and_eq_false_iff]
    by_cases ha : j + 1 = i
    · right
      exact fun q => h2 ⟨ha, q⟩
    · left
      exact ha
theorem am_lo_s2 {ad : Nat → Nat} {ls ls' : Array Slot} {n i : Nat} {lo : List (Option Value)} {v : Value} (h : am_lo ad ls n lo)
    (h' : lv_has ls' n ((i, am_cv ad v) :: (am_pl ad n lo).filter (fun q => !(q.1 == i) && (!(q.1 == i + 1) && !(q.1 + 1 == i && q.2.category == 2))))) : am_lo ad ls' n (am_s2 lo i v) := by
  refine ⟨h'.1, h'.2.1, fun j w hj => ?_⟩
  by_cases hij1 : i + 1 = j
  · subst hij1
    have hl : i + 1 < ((am_cut lo i).set i (some v)).length := by
      have := (List.getElem?_eq_some_iff.mp hj).1
      simpa [am_s2] using this
    rw [am_s2, List.getElem?_set_self hl] at hj
    cases hj
  · rw [am_s2, List.getElem?_set_ne hij1] at hj
    by_cases hij : i = j
    · subst hij
      have hl : i < (am_cut lo i).length := by
        have := (List.getElem?_eq_some_iff.mp hj).1
        simpa using this
      rw [List.getElem?_set_self hl] at hj
      cases hj
      exact h'.2.2 (i, am_cv ad v) List.mem_cons_self
    · rw [List.getElem?_set_ne hij] at hj
      obtain ⟨h1, h2⟩ := am_cut_get hj
      refine h'.2.2 (j, am_cv ad w) (List.mem_cons_of_mem _ (List.mem_filter.mpr ⟨am_pl_mem (h.lt h1) h1, ?_⟩))
      have hji : ¬ j = i := fun q => hij q.symm
      have hji1 : ¬ j = i + 1 := fun q => hij1 q.symm
      simp only [Bool.and_eq_true, Bool.not_eq_true', beq_eq_false_iff_ne, ne_eq, hji, hji1, not_false_iff, true_and, am_cv_cat, Bool.and_eq_false_iff]
      by_cases ha : j + 1 = i
      · right
        exact fun q => h2 ⟨ha, q⟩
      · left
        exact ha
theorem am_pp_spec : ∀ {n : Nat} {st acc args rest : List Value}, am_pp n st acc = some (args, rest) → ∃ pre : List Value, st = pre ++ rest ∧ args = pre.reverse ++ acc ∧ pre.length = n ∧ ∀ v ∈ pre, v.category = 1
  | 0, st, acc, args, rest, h => by
    simp only [am_pp, Option.some.injEq, Prod.mk.injEq] at h
    obtain ⟨rfl, rfl⟩ := h
    exact ⟨[], rfl, rfl, rfl, fun v hv => by cases hv⟩
  | n + 1, [], acc, args, rest, h => by simp [am_pp] at h
  | n + 1, v :: st, acc, args, rest, h => by
    simp only [am_pp] at h
    split at h
    · rename_i hc
      obtain ⟨pre, rfl, rfl, h3, h4⟩ := am_pp_spec h
      refine ⟨v :: pre, rfl, by simp, by simp [h3], fun w hw => ?_⟩
      rcases List.mem_cons.mp hw with rfl | hw
      · exact hc
      · exact h4 w hw
    · cases h
theorem am_in_get : ∀ {n : Nat} {args : List Value} {i : Nat} {v : Value}, (am_in n args)[i]? = some (some v) → args[i]? = some v
  | n, [], i, v, h => by
    exfalso
    have key : ∀ (n i : Nat), (am_no n)[i]? ≠ some (some v) := by
      intro n
      induction n with
      | zero => intro i q; simp [am_no] at q
      | succ n ih =>
        intro i q
        cases i with
        | zero => simp [am_no] at q
        | succ i => exact ih i (by simpa [am_no] using q)
    cases n <;> exact key _ _ (by simpa [am_in] using h)
  | 0, a :: r, 0, v, h => by simpa [am_in] using h
  | 0, a :: r, i + 1, v, h => by
    have := am_in_get (n := 0) (args := r) (i := i) (v := v) (by simpa [am_in] using h)
    simpa using this
  | n + 1, a :: r, 0, v, h => by simpa [am_in] using h
  | n + 1, a :: r, i + 1, v, h => by
    have := am_in_get (n := n) (args := r) (i := i) (v := v) (by simpa [am_in] using h)
    simpa using this
theorem am_sl1 : ∀ {vs : List Value}, (∀ v ∈ vs, v.category = 1) → (lg_sl vs).length = vs.length
  | [], _ => rfl
  | v :: r, h => by
    have h1 := h v List.mem_cons_self
    have ih := am_sl1 (vs := r) (fun w hw => h w (List.mem_cons_of_mem _ hw))
    simp only [lg_sl, List.flatMap_cons, h1] at ih ⊢
    simp [ih]
theorem am_args1 : ∀ {vs : List Value} {k i : Nat} {v : Value}, (∀ w ∈ vs, w.category = 1) → vs[i]? = some v → (k + i, v) ∈ lv_args k vs
  | [], k, i, v, _, h => by simp at h
  | w :: r, k, 0, v, hc, h => by
    have : w = v := by simpa using h
    subst this
    exact List.mem_cons_self
  | w :: r, k, i + 1, v, hc, h => by
    have h1 := hc w List.mem_cons_self
    have := am_args1 (k := k + 1) (i := i) (v := v) (fun w hw => hc w (List.mem_cons_of_mem _ hw)) (by simpa using h)
    refine List.mem_cons_of_mem _ ?_
    rw [h1, if_neg (by decide)]
    rw [show k + (i + 1) = k + 1 + i by omega]
    exact this
theorem am_nn_spec {z : Int} {t : Nat} (h : am_nn z = some t) : z = (t : Int) := by
  cases z with
  | ofNat n => simp only [am_nn, Option.some.injEq] at h; rw [h]; rfl
  | negSucc n => cases h
theorem am_ct_map {ad : Nat → Nat} : ∀ st : List Value, ((st.map (am_cv ad)).map fun v => v.category).sum = am_ct st
  | [] => rfl
  | v :: r => by
    simp only [List.map_cons, List.sum_cons, am_cv_cat, am_ct]
    rw [am_ct_map r]
/-- what the tables must say -/
def am_Ok (G : am_G) (TS NS : List Cond) (cl : List vw_C) : Prop :=
  (∀ w ∈ TS, goodWord w = true) ∧
  (∀ (μ : Nat) (M : am_M), am_m G μ = some M → plainFor M.1 = true ∧ Cond.code M.1 M.2.1 M.2.2.1 M.2.2.2.1 ∈ TS ∧ Cond.initialized M.1.cls ∈ TS ∧ (M.1.cls ≠ "java/lang/invoke/MethodHandle" ∧ M.1.cls ≠ "java/lang/invoke/VarHandle") ∧ M.2.2.2.2.2.slots = 6 * M.2.2.2.2.2.cells) ∧
  (∀ (μ : Nat) (M : am_M) (ix ci k : Nat), am_m G μ = some M → am_fld G μ ix = some (ci, k) → ∃ (C : String) (T : u_T) (N : Nat) (ty : Nat → FieldType), cl[ci]? = some (C, T, N) ∧ k < N ∧ (T k).1 = C ∧ (∀ w ∈ u_ws C T N, w ∈ TS) ∧ (∀ j, j < N → parseFieldDescriptor (T j).2.2.1 = some (ty j)) ∧ (∀ a, a < N → ∀ b, b < N → a ≠ b → (T a).2.1 ≠ (T b).2.1) ∧
    (Cond.fieldLink M.1.cls ix C (T k).2.1 (T k).2.2.1 ∈ TS ∨ ∃ host, Cond.fieldLinkNest M.1.cls ix C (T k).2.1 (T k).2.2.1 host ∈ NS)) ∧
  (∀ (μ : Nat) (M : am_M) (ix μ' n : Nat), am_m G μ = some M → am_cal G μ ix = some (0, μ', n) → ∃ M' : am_M, am_m G μ' = some M' ∧ Cond.methodLink M.1.cls ix M'.1 ∈ TS ∧ Cond.instanceMethod M'.1 ∈ TS ∧ Cond.selects M'.1.cls M'.1 M'.1 ∈ TS ∧ (parseMethodDescriptor M'.1.desc).map (fun d => d.parameters.length) = some n ∧
    M'.2.2.2.2.2.frames + 1 ≤ M.2.2.2.2.2.frames ∧ 8 + (M'.2.2.1 + 11) + M'.2.2.2.2.2.locals ≤ M.2.2.2.2.2.locals ∧ ∃ (T : u_T) (N : Nat), cl[M'.2.2.2.2.1]? = some (M'.1.cls, T, N)) ∧
  (∀ (μ : Nat) (M : am_M) (ix μ' n : Nat), am_m G μ = some M → am_cal G μ ix = some (2, μ', n) → ∃ M' : am_M, am_m G μ' = some M' ∧ Cond.methodLink M.1.cls ix M'.1 ∈ TS ∧ Cond.static M'.1 ∈ TS ∧ (parseMethodDescriptor M'.1.desc).map (fun d => d.parameters.length) = some n ∧
    M'.2.2.2.2.2.frames + 1 ≤ M.2.2.2.2.2.frames ∧ 8 + (M'.2.2.1 + 11) + M'.2.2.2.2.2.locals ≤ M.2.2.2.2.2.locals) ∧
  (∀ (μ : Nat) (M : am_M) (ix a b : Nat), am_m G μ = some M → am_cal G μ ix = some (3, a, b) → Cond.methodLink M.1.cls ix Lib.Math.max.name ∈ TS ∧ Cond.static Lib.Math.max.name ∈ TS ∧ Cond.initialized "java/lang/Math" ∈ TS ∧ Cond.code Lib.Math.max.name Lib.Math.max.code 2 (some .int) ∈ TS ∧ 1 ≤ M.2.2.2.2.2.frames ∧ 23 ≤ M.2.2.2.2.2.locals) ∧
  (∀ (μ : Nat) (M : am_M) (ix a b : Nat), am_m G μ = some M → am_cal G μ ix = some (4, a, b) → Cond.methodLink M.1.cls ix Lib.Math.min.name ∈ TS ∧ Cond.static Lib.Math.min.name ∈ TS ∧ Cond.initialized "java/lang/Math" ∈ TS ∧ Cond.code Lib.Math.min.name Lib.Math.min.code 2 (some .int) ∈ TS ∧ 1 ≤ M.2.2.2.2.2.frames ∧ 23 ≤ M.2.2.2.2.2.locals) ∧
  (∀ (μ : Nat) (M : am_M) (ix a b : Nat), am_m G μ = some M → am_cal G μ ix = some (5, a, b) → Cond.methodLink M.1.cls ix Lib.MathLoose.min_long.x ∈ TS ∧ Cond.static Lib.MathLoose.min_long.x ∈ TS ∧ Cond.initialized "java/lang/Math" ∈ TS ∧ Cond.code Lib.MathLoose.min_long.x Lib.MathLoose.min_long.code 4 (some .long) ∈ TS ∧ 1 ≤ M.2.2.2.2.2.frames ∧ 23 ≤ M.2.2.2.2.2.locals) ∧
  (∀ (μ : Nat) (M : am_M) (ix : Nat) (v : Int32), am_m G μ = some M → am_ki G μ ix = some v → Cond.constant M.1.cls ix v ∈ TS) ∧
  (∀ (μ : Nat) (M : am_M) (ix : Nat) (v : Int64), am_m G μ = some M → am_kl G μ ix = some v → Cond.constantLong M.1.cls ix v ∈ TS)
/-- a method's body at work -/
def am_B (TS NS : List Cond) (M : am_M) (p : Program) (s : State) (m : MethodId) (args : Array Value) (meth : Method) (cd : Code) : Prop :=
  p.tables.exec = Jvm.exec ∧ cd.code = M.2.1 ∧ meth.sig.returnType = M.2.2.2.1 ∧ cd.maxLocals = M.2.2.1 ∧ s.vm.findClass M.1.cls = some m.cls ∧ (∀ w ∈ TS, w.before args s = true) ∧ (∀ w ∈ NS, va_Nw w s) ∧ meth.locks = false ∧ ∀ x ∈ cd.exceptionTable.toList, False
def am_PW (G : am_G) (sh : List am_D) (TS NS : List Cond) (cl : List vw_C) (EX : (Nat → Prop) → State → Heap → Prop) (l : Launch) (c : am_C) (Q : am_Q) : Prop :=
  ∀ M : am_M, am_m G c.1 = some M → ∀ (p : Program) (e : Env) (s : State) (m : MethodId) (args : Array Value) (below : List Frame) (meth : Method) (cd : Code) (H : Heap) (locs : List Loc) (A : Nat → Prop) (ls : Array Slot) (ad : Nat → Nat) (ca : Nat → ClassId) (D : va_G),
    am_B TS NS M p s m args meth cd → EX A s s.heap → va_K D cl (am_ty ca) s → va_P D cl (am_W sh ad ca c.2.2.2.2.2) H → va_D A (am_W sh ad ca c.2.2.2.2.2) → va_S A s.heap H locs → (∀ q, s.heap.size ≤ q → A q) → am_lo ad ls M.2.2.1 c.2.2.2.1 →
    ∀ (Qc : Array Value → State → Outcome → State → Prop) (XC : String → State → State → Prop),
      (∀ (h' : am_S) (r : Option Value) (t : State), Q h' (.inl r) → s.vm.Alike t.vm → va_P D cl (am_W sh ad ca h') t.heap → va_D A (am_W sh ad ca h') → va_F A s t → Qc args s (.returned (r.map (am_cv ad))) t) →
      (∀ (h' : am_S) (E : String) (t : State), Q h' (.inr E) → s.vm.Alike t.vm → va_P D cl (am_W sh ad ca h') t.heap → va_D A (am_W sh ad ca h') → va_F A s t → XC E s t) →
      W p l e M.2.2.2.2.2 s m args below meth cd H locs c.2.2.1 (6 * c.2.2.1) (vx_MQ below Qc XC args s M.2.2.2.2.2.cells M.2.2.2.2.2.slots A) (F0 m c.2.1 ls (c.2.2.2.2.1.map (am_cv ad)))
theorem am_PW_mono (G : am_G) (sh : List am_D) (TS NS : List Cond) (cl : List vw_C) (EX : (Nat → Prop) → State → Heap → Prop) (l : Launch) : am_mono (am_PW G sh TS NS cl EX l) := by
  intro c Q Q' hQ h M hM p e s m args below meth cd H locs A ls ad ca D hB hE hK hP hD hS hA hl Qc XC h1 h2
  exact h M hM p e s m args below meth cd H locs A ls ad ca D hB hE hK hP hD hS hA hl Qc XC (fun h' r t q => h1 h' r t (hQ _ _ q)) (fun h' E t q => h2 h' E t (hQ _ _ q))
/-- what moves the throws' premises along -/
def am_EX (EX : (Nat → Prop) → State → Heap → Prop) : Prop := ∀ (A B : Nat → Prop) (u U : State) (H0 H1 : Heap), EX A u H0 → u.WarmedH U.vm → (∀ a : Nat, a < H0.size → ¬ A a → H1[a]? = H0[a]?) → (∀ q, B q → A q) → EX B U H1
/-- the throws themselves -/
def am_TH (G : am_G) (TS NS : List Cond) (EX : (Nat → Prop) → State → Heap → Prop) (l : Launch) : Prop :=
  ∀ (μ : Nat) (M : am_M) (pc : Nat) (E : String), am_m G μ = some M → am_th G μ pc = some E → ∀ (p : Program) (e : Env) (s : State) (m : MethodId) (args : Array Value) (below : List Frame) (meth : Method) (cd : Code) (H : Heap) (locs : List Loc) (A : Nat → Prop) (ls : Array Slot) (rest : List Value) (nc : Nat) (Qc : Array Value → State → Outcome → State → Prop) (XC : String → State → State → Prop),
    am_B TS NS M p s m args meth cd → EX A s s.heap → va_S A s.heap H locs → ls.size = M.2.2.1 → (rest.map fun v => v.category).sum ≤ 8 → nc + 1 ≤ M.2.2.2.2.2.cells →
    (∀ t : State, s.vm.Alike t.vm → H.size ≤ t.heap.size → (∀ q : Nat, q < H.size → t.heap[q]? = H[q]?) → XC E s t) →
    W p l e M.2.2.2.2.2 s m args below meth cd H locs nc (6 * nc) (vx_MQ below Qc XC args s M.2.2.2.2.2.cells M.2.2.2.2.2.slots A) (F0 m pc ls rest)
theorem am_ml_of {G : am_G} {μ : Nat} {M : am_M} (h : am_m G μ = some M) : am_ml G μ = M.2.2.1 := by simp [am_ml, h]
theorem am_oc_of {G : am_G} {μ : Nat} {M : am_M} (h : am_m G μ = some M) : am_oc G μ = M.2.2.2.2.1 := by simp [am_oc, h]
theorem am_nc_of {G : am_G} {μ : Nat} {M : am_M} (h : am_m G μ = some M) : am_nc G μ = M.2.2.2.2.2.cells := by simp [am_nc, h]
theorem am_rt_of {G : am_G} {μ : Nat} {M : am_M} (h : am_m G μ = some M) : am_rt G μ = am_rk M.2.2.2.1 := by simp [am_rt, h]
theorem am_rk_0 {t : Option FieldType} (h : am_rk t = 0) : t = none := by
  cases t with
  | none => rfl
  | some t => cases t <;> simp [am_rk] at h
theorem am_rk_1 {t : Option FieldType} (h : am_rk t = 1) : t = some .int := by
  cases t with
  | none => simp [am_rk] at h
  | some t => cases t <;> first | rfl | simp [am_rk] at h
theorem am_rk_2 {t : Option FieldType} (h : am_rk t = 2) : t = some .boolean := by
  cases t with
  | none => simp [am_rk] at h
  | some t => cases t <;> first | rfl | simp [am_rk] at h

set_option maxHeartbeats 1000000 in
theorem am_r_iconst {G : am_G} {sh : List am_D} {TS NS : List Cond} {cl : List vw_C} {EX : (Nat → Prop) → State → Heap → Prop} {l : Launch} (hok : am_Ok G TS NS cl) (hsh : am_Sh cl sh) {μ pc len tg nc : Nat} {lo : List (Option Value)} {st : List Value} {h : am_S} {Q : am_Q} {v : Int} (hc : am_code G μ pc = some (.iconst v, len, tg))
    (hF : am_go (am_PW G sh TS NS cl EX l) (am_PW G sh TS NS cl EX l) (am_op G sh μ pc len tg nc lo st h (.iconst v)) Q) : am_PW G sh TS NS cl EX l (μ, pc, nc, lo, st, h) Q := by
  intro M hM p e s m args below meth cd H locs A ls ad ca D hB hE hK hP hD hS hA hl Qc XC hQ hX
  obtain ⟨hdec, hln, htg⟩ := am_code_spec hM hc
  obtain ⟨hx, hb, hr, hml, hown, hts, hns, hlocks, hnoex⟩ := id hB
  have go : ∀ (pc' nc' : Nat) (st' : List Value), am_PW G sh TS NS cl EX l (μ, pc', nc', lo, st', h) Q → W p l e M.2.2.2.2.2 s m args below meth cd H locs nc' (6 * nc') (vx_MQ below Qc XC args s M.2.2.2.2.2.cells M.2.2.2.2.2.slots A) (F0 m pc' ls (st'.map (am_cv ad))) :=
    fun pc' nc' st' k => k M hM p e s m args below meth cd H locs A ls ad ca D hB hE hK hP hD hS hA hl Qc XC hQ hX
  obtain rfl : len = 1 := by simpa [am_ln] using hln
  exact lv_iconst hx hb hdec rfl (go _ _ _ (hF.2.1 trivial))

set_option maxHeartbeats 1000000 in
theorem am_r_bipush {G : am_G} {sh : List am_D} {TS NS : List Cond} {cl : List vw_C} {EX : (Nat → Prop) → State → Heap → Prop} {l : Launch} (hok : am_Ok G TS NS cl) (hsh : am_Sh cl sh) {μ pc len tg nc : Nat} {lo : List (Option Value)} {st : List Value} {h : am_S} {Q : am_Q} {v : Int} (hc : am_code G μ pc = some (.bipush v, len, tg))
    (hF : am_go (am_PW G sh TS NS cl EX l) (am_PW G sh TS NS cl EX l) (am_op G sh μ pc len tg nc lo st h (.bipush v)) Q) : am_PW G sh TS NS cl EX l (μ, pc, nc, lo, st, h) Q := by
  intro M hM p e s m args below meth cd H locs A ls ad ca D hB hE hK hP hD hS hA hl Qc XC hQ hX
  obtain ⟨hdec, hln, htg⟩ := am_code_spec hM hc
  obtain ⟨hx, hb, hr, hml, hown, hts, hns, hlocks, hnoex⟩ := id hB
  have go : ∀ (pc' nc' : Nat) (st' : List Value), am_PW G sh TS NS cl EX l (μ, pc', nc', lo, st', h) Q → W p l e M.2.2.2.2.2 s m args below meth cd H locs nc' (6 * nc') (vx_MQ below Qc XC args s M.2.2.2.2.2.cells M.2.2.2.2.2.slots A) (F0 m pc' ls (st'.map (am_cv ad))) :=
    fun pc' nc' st' k => k M hM p e s m args below meth cd H locs A ls ad ca D hB hE hK hP hD hS hA hl Qc XC hQ hX
  obtain rfl : len = 2 := by simpa [am_ln] using hln
  exact lv_bipush hx hb hdec rfl (go _ _ _ (hF.2.1 trivial))

set_option maxHeartbeats 1000000 in
theorem am_r_sipush {G : am_G} {sh : List am_D} {TS NS : List Cond} {cl : List vw_C} {EX : (Nat → Prop) → State → Heap → Prop} {l : Launch} (hok : am_Ok G TS NS cl) (hsh : am_Sh cl sh) {μ pc len tg nc : Nat} {lo : List (Option Value)} {st : List Value} {h : am_S} {Q : am_Q} {v : Int} (hc : am_code G μ pc = some (.sipush v, len, tg))
    (hF : am_go (am_PW G sh TS NS cl EX l) (am_PW G sh TS NS cl EX l) (am_op G sh μ pc len tg nc lo st h (.sipush v)) Q) : am_PW G sh TS NS cl EX l (μ, pc, nc, lo, st, h) Q := by
  intro M hM p e s m args below meth cd H locs A ls ad ca D hB hE hK hP hD hS hA hl Qc XC hQ hX
  obtain ⟨hdec, hln, htg⟩ := am_code_spec hM hc
  obtain ⟨hx, hb, hr, hml, hown, hts, hns, hlocks, hnoex⟩ := id hB
  have go : ∀ (pc' nc' : Nat) (st' : List Value), am_PW G sh TS NS cl EX l (μ, pc', nc', lo, st', h) Q → W p l e M.2.2.2.2.2 s m args below meth cd H locs nc' (6 * nc') (vx_MQ below Qc XC args s M.2.2.2.2.2.cells M.2.2.2.2.2.slots A) (F0 m pc' ls (st'.map (am_cv ad))) :=
    fun pc' nc' st' k => k M hM p e s m args below meth cd H locs A ls ad ca D hB hE hK hP hD hS hA hl Qc XC hQ hX
  obtain rfl : len = 3 := by simpa [am_ln] using hln
  exact lv_sipush hx hb hdec rfl (go _ _ _ (hF.2.1 trivial))

set_option maxHeartbeats 1000000 in
theorem am_r_lconst {G : am_G} {sh : List am_D} {TS NS : List Cond} {cl : List vw_C} {EX : (Nat → Prop) → State → Heap → Prop} {l : Launch} (hok : am_Ok G TS NS cl) (hsh : am_Sh cl sh) {μ pc len tg nc : Nat} {lo : List (Option Value)} {st : List Value} {h : am_S} {Q : am_Q} {v : Fin 2} (hc : am_code G μ pc = some (.lconst v, len, tg))
    (hF : am_go (am_PW G sh TS NS cl EX l) (am_PW G sh TS NS cl EX l) (am_op G sh μ pc len tg nc lo st h (.lconst v)) Q) : am_PW G sh TS NS cl EX l (μ, pc, nc, lo, st, h) Q := by
  intro M hM p e s m args below meth cd H locs A ls ad ca D hB hE hK hP hD hS hA hl Qc XC hQ hX
  obtain ⟨hdec, hln, htg⟩ := am_code_spec hM hc
  obtain ⟨hx, hb, hr, hml, hown, hts, hns, hlocks, hnoex⟩ := id hB
  have go : ∀ (pc' nc' : Nat) (st' : List Value), am_PW G sh TS NS cl EX l (μ, pc', nc', lo, st', h) Q → W p l e M.2.2.2.2.2 s m args below meth cd H locs nc' (6 * nc') (vx_MQ below Qc XC args s M.2.2.2.2.2.cells M.2.2.2.2.2.slots A) (F0 m pc' ls (st'.map (am_cv ad))) :=
    fun pc' nc' st' k => k M hM p e s m args below meth cd H locs A ls ad ca D hB hE hK hP hD hS hA hl Qc XC hQ hX
  obtain rfl : len = 1 := by simpa [am_ln] using hln
  exact lv_lconst hx hb hdec rfl (go _ _ _ (hF.2.1 trivial))

set_option maxHeartbeats 1000000 in
theorem am_r_ldc {G : am_G} {sh : List am_D} {TS NS : List Cond} {cl : List vw_C} {EX : (Nat → Prop) → State → Heap → Prop} {l : Launch} (hok : am_Ok G TS NS cl) (hsh : am_Sh cl sh) {μ pc len tg nc : Nat} {lo : List (Option Value)} {st : List Value} {h : am_S} {Q : am_Q} {ix : Nat} (hc : am_code G μ pc = some (.ldc ix, len, tg))
    (hF : am_go (am_PW G sh TS NS cl EX l) (am_PW G sh TS NS cl EX l) (am_op G sh μ pc len tg nc lo st h (.ldc ix)) Q) : am_PW G sh TS NS cl EX l (μ, pc, nc, lo, st, h) Q := by
  intro M hM p e s m args below meth cd H locs A ls ad ca D hB hE hK hP hD hS hA hl Qc XC hQ hX
  obtain ⟨hdec, hln, htg⟩ := am_code_spec hM hc
  obtain ⟨hx, hb, hr, hml, hown, hts, hns, hlocks, hnoex⟩ := id hB
  have go : ∀ (pc' nc' : Nat) (st' : List Value), am_PW G sh TS NS cl EX l (μ, pc', nc', lo, st', h) Q → W p l e M.2.2.2.2.2 s m args below meth cd H locs nc' (6 * nc') (vx_MQ below Qc XC args s M.2.2.2.2.2.cells M.2.2.2.2.2.slots A) (F0 m pc' ls (st'.map (am_cv ad))) :=
    fun pc' nc' st' k => k M hM p e s m args below meth cd H locs A ls ad ca D hB hE hK hP hD hS hA hl Qc XC hQ hX
  obtain rfl : len = 2 := by simpa [am_ln] using hln
  dsimp only [am_op] at hF
  split at hF
  · rename_i v hv
    exact lv_ldc hx hb hown (hts _ (hok.2.2.2.2.2.2.2.2.1 μ M ix v hM hv)) hdec (go _ _ _ (hF.2.1 trivial))
  · exact hF.elim

set_option maxHeartbeats 1000000 in
theorem am_r_ldc2 {G : am_G} {sh : List am_D} {TS NS : List Cond} {cl : List vw_C} {EX : (Nat → Prop) → State → Heap → Prop} {l : Launch} (hok : am_Ok G TS NS cl) (hsh : am_Sh cl sh) {μ pc len tg nc : Nat} {lo : List (Option Value)} {st : List Value} {h : am_S} {Q : am_Q} {ix : Nat} (hc : am_code G μ pc = some (.ldc2_w ix, len, tg))
    (hF : am_go (am_PW G sh TS NS cl EX l) (am_PW G sh TS NS cl EX l) (am_op G sh μ pc len tg nc lo st h (.ldc2_w ix)) Q) : am_PW G sh TS NS cl EX l (μ, pc, nc, lo, st, h) Q := by
  intro M hM p e s m args below meth cd H locs A ls ad ca D hB hE hK hP hD hS hA hl Qc XC hQ hX
  obtain ⟨hdec, hln, htg⟩ := am_code_spec hM hc
  obtain ⟨hx, hb, hr, hml, hown, hts, hns, hlocks, hnoex⟩ := id hB
  have go : ∀ (pc' nc' : Nat) (st' : List Value), am_PW G sh TS NS cl EX l (μ, pc', nc', lo, st', h) Q → W p l e M.2.2.2.2.2 s m args below meth cd H locs nc' (6 * nc') (vx_MQ below Qc XC args s M.2.2.2.2.2.cells M.2.2.2.2.2.slots A) (F0 m pc' ls (st'.map (am_cv ad))) :=
    fun pc' nc' st' k => k M hM p e s m args below meth cd H locs A ls ad ca D hB hE hK hP hD hS hA hl Qc XC hQ hX
  obtain rfl : len = 3 := by simpa [am_ln] using hln
  dsimp only [am_op] at hF
  split at hF
  · rename_i v hv
    exact lv_ldc2 hx hb hown (hts _ (hok.2.2.2.2.2.2.2.2.2 μ M ix v hM hv)) hdec (go _ _ _ (hF.2.1 trivial))
  · exact hF.elim

set_option maxHeartbeats 1000000 in
theorem am_r_iload_n {G : am_G} {sh : List am_D} {TS NS : List Cond} {cl : List vw_C} {EX : (Nat → Prop) → State → Heap → Prop} {l : Launch} (hok : am_Ok G TS NS cl) (hsh : am_Sh cl sh) {μ pc len tg nc : Nat} {lo : List (Option Value)} {st : List Value} {h : am_S} {Q : am_Q} {k : Fin 4} (hc : am_code G μ pc = some (.iload_n k, len, tg))
    (hF : am_go (am_PW G sh TS NS cl EX l) (am_PW G sh TS NS cl EX l) (am_op G sh μ pc len tg nc lo st h (.iload_n k)) Q) : am_PW G sh TS NS cl EX l (μ, pc, nc, lo, st, h) Q := by
  intro M hM p e s m args below meth cd H locs A ls ad ca D hB hE hK hP hD hS hA hl Qc XC hQ hX
  obtain ⟨hdec, hln, htg⟩ := am_code_spec hM hc
  obtain ⟨hx, hb, hr, hml, hown, hts, hns, hlocks, hnoex⟩ := id hB
  have go : ∀ (pc' nc' : Nat) (st' : List Value), am_PW G sh TS NS cl EX l (μ, pc', nc', lo, st', h) Q → W p l e M.2.2.2.2.2 s m args below meth cd H locs nc' (6 * nc') (vx_MQ below Qc XC args s M.2.2.2.2.2.cells M.2.2.2.2.2.slots A) (F0 m pc' ls (st'.map (am_cv ad))) :=
    fun pc' nc' st' k => k M hM p e s m args below meth cd H locs A ls ad ca D hB hE hK hP hD hS hA hl Qc XC hQ hX
  obtain rfl : len = 1 := by simpa [am_ln] using hln
  dsimp only [am_op] at hF
  split at hF
  · rename_i x hv
    exact lv_iload_n hx hb hdec rfl (hl.2.2 _ _ hv) (go _ _ _ (hF.2.1 trivial))
  · exact hF.elim

set_option maxHeartbeats 1000000 in
theorem am_r_iload {G : am_G} {sh : List am_D} {TS NS : List Cond} {cl : List vw_C} {EX : (Nat → Prop) → State → Heap → Prop} {l : Launch} (hok : am_Ok G TS NS cl) (hsh : am_Sh cl sh) {μ pc len tg nc : Nat} {lo : List (Option Value)} {st : List Value} {h : am_S} {Q : am_Q} {k : Nat} (hc : am_code G μ pc = some (.iload k, len, tg))
    (hF : am_go (am_PW G sh TS NS cl EX l) (am_PW G sh TS NS cl EX l) (am_op G sh μ pc len tg nc lo st h (.iload k)) Q) : am_PW G sh TS NS cl EX l (μ, pc, nc, lo, st, h) Q := by
  intro M hM p e s m args below meth cd H locs A ls ad ca D hB hE hK hP hD hS hA hl Qc XC hQ hX
  obtain ⟨hdec, hln, htg⟩ := am_code_spec hM hc
  obtain ⟨hx, hb, hr, hml, hown, hts, hns, hlocks, hnoex⟩ := id hB
  have go : ∀ (pc' nc' : Nat) (st' : List Value), am_PW G sh TS NS cl EX l (μ, pc', nc', lo, st', h) Q → W p l e M.2.2.2.2.2 s m args below meth cd H locs nc' (6 * nc') (vx_MQ below Qc XC args s M.2.2.2.2.2.cells M.2.2.2.2.2.slots A) (F0 m pc' ls (st'.map (am_cv ad))) :=
    fun pc' nc' st' k => k M hM p e s m args below meth cd H locs A ls ad ca D hB hE hK hP hD hS hA hl Qc XC hQ hX
  obtain rfl : len = 2 := by simpa [am_ln] using hln
  dsimp only [am_op] at hF
  split at hF
  · rename_i x hv
    exact lv_iload hx hb hdec (hl.2.2 _ _ hv) (go _ _ _ (hF.2.1 trivial))
  · exact hF.elim

set_option maxHeartbeats 1000000 in
theorem am_r_lload_n {G : am_G} {sh : List am_D} {TS NS : List Cond} {cl : List vw_C} {EX : (Nat → Prop) → State → Heap → Prop} {l : Launch} (hok : am_Ok G TS NS cl) (hsh : am_Sh cl sh) {μ pc len tg nc : Nat} {lo : List (Option Value)} {st : List Value} {h : am_S} {Q : am_Q} {k : Fin 4} (hc : am_code G μ pc = some (.lload_n k, len, tg))
    (hF : am_go (am_PW G sh TS NS cl EX l) (am_PW G sh TS NS cl EX l) (am_op G sh μ pc len tg nc lo st h (.lload_n k)) Q) : am_PW G sh TS NS cl EX l (μ, pc, nc, lo, st, h) Q := by
  intro M hM p e s m args below meth cd H locs A ls ad ca D hB hE hK hP hD hS hA hl Qc XC hQ hX
  obtain ⟨hdec, hln, htg⟩ := am_code_spec hM hc
  obtain ⟨hx, hb, hr, hml, hown, hts, hns, hlocks, hnoex⟩ := id hB
  have go : ∀ (pc' nc' : Nat) (st' : List Value), am_PW G sh TS NS cl EX l (μ, pc', nc', lo, st', h) Q → W p l e M.2.2.2.2.2 s m args below meth cd H locs nc' (6 * nc') (vx_MQ below Qc XC args s M.2.2.2.2.2.cells M.2.2.2.2.2.slots A) (F0 m pc' ls (st'.map (am_cv ad))) :=
    fun pc' nc' st' k => k M hM p e s m args below meth cd H locs A ls ad ca D hB hE hK hP hD hS hA hl Qc XC hQ hX
  obtain rfl : len = 1 := by simpa [am_ln] using hln
  dsimp only [am_op] at hF
  split at hF
  · rename_i x hv
    exact lv_lload_n hx hb hdec rfl (hl.2.2 _ _ hv) (go _ _ _ (hF.2.1 trivial))
  · exact hF.elim

set_option maxHeartbeats 1000000 in
theorem am_r_lload {G : am_G} {sh : List am_D} {TS NS : List Cond} {cl : List vw_C} {EX : (Nat → Prop) → State → Heap → Prop} {l : Launch} (hok : am_Ok G TS NS cl) (hsh : am_Sh cl sh) {μ pc len tg nc : Nat} {lo : List (Option Value)} {st : List Value} {h : am_S} {Q : am_Q} {k : Nat} (hc : am_code G μ pc = some (.lload k, len, tg))
    (hF : am_go (am_PW G sh TS NS cl EX l) (am_PW G sh TS NS cl EX l) (am_op G sh μ pc len tg nc lo st h (.lload k)) Q) : am_PW G sh TS NS cl EX l (μ, pc, nc, lo, st, h) Q := by
  intro M hM p e s m args below meth cd H locs A ls ad ca D hB hE hK hP hD hS hA hl Qc XC hQ hX
  obtain ⟨hdec, hln, htg⟩ := am_code_spec hM hc
  obtain ⟨hx, hb, hr, hml, hown, hts, hns, hlocks, hnoex⟩ := id hB
  have go : ∀ (pc' nc' : Nat) (st' : List Value), am_PW G sh TS NS cl EX l (μ, pc', nc', lo, st', h) Q → W p l e M.2.2.2.2.2 s m args below meth cd H locs nc' (6 * nc') (vx_MQ below Qc XC args s M.2.2.2.2.2.cells M.2.2.2.2.2.slots A) (F0 m pc' ls (st'.map (am_cv ad))) :=
    fun pc' nc' st' k => k M hM p e s m args below meth cd H locs A ls ad ca D hB hE hK hP hD hS hA hl Qc XC hQ hX
  obtain rfl : len = 2 := by simpa [am_ln] using hln
  dsimp only [am_op] at hF
  split at hF
  · rename_i x hv
    exact lv_lload hx hb hdec (hl.2.2 _ _ hv) (go _ _ _ (hF.2.1 trivial))
  · exact hF.elim

set_option maxHeartbeats 1000000 in
theorem am_r_aload_n {G : am_G} {sh : List am_D} {TS NS : List Cond} {cl : List vw_C} {EX : (Nat → Prop) → State → Heap → Prop} {l : Launch} (hok : am_Ok G TS NS cl) (hsh : am_Sh cl sh) {μ pc len tg nc : Nat} {lo : List (Option Value)} {st : List Value} {h : am_S} {Q : am_Q} {k : Fin 4} (hc : am_code G μ pc = some (.aload_n k, len, tg))
    (hF : am_go (am_PW G sh TS NS cl EX l) (am_PW G sh TS NS cl EX l) (am_op G sh μ pc len tg nc lo st h (.aload_n k)) Q) : am_PW G sh TS NS cl EX l (μ, pc, nc, lo, st, h) Q := by
  intro M hM p e s m args below meth cd H locs A ls ad ca D hB hE hK hP hD hS hA hl Qc XC hQ hX
  obtain ⟨hdec, hln, htg⟩ := am_code_spec hM hc
  obtain ⟨hx, hb, hr, hml, hown, hts, hns, hlocks, hnoex⟩ := id hB
  have go : ∀ (pc' nc' : Nat) (st' : List Value), am_PW G sh TS NS cl EX l (μ, pc', nc', lo, st', h) Q → W p l e M.2.2.2.2.2 s m args below meth cd H locs nc' (6 * nc') (vx_MQ below Qc XC args s M.2.2.2.2.2.cells M.2.2.2.2.2.slots A) (F0 m pc' ls (st'.map (am_cv ad))) :=
    fun pc' nc' st' k => k M hM p e s m args below meth cd H locs A ls ad ca D hB hE hK hP hD hS hA hl Qc XC hQ hX
  obtain rfl : len = 1 := by simpa [am_ln] using hln
  dsimp only [am_op] at hF
  split at hF
  · rename_i x hv
    exact lv_aload_n hx hb hdec rfl (hl.2.2 _ _ hv) (go _ _ _ (hF.2.1 trivial))
  · exact hF.elim

set_option maxHeartbeats 1000000 in
theorem am_r_aload {G : am_G} {sh : List am_D} {TS NS : List Cond} {cl : List vw_C} {EX : (Nat → Prop) → State → Heap → Prop} {l : Launch} (hok : am_Ok G TS NS cl) (hsh : am_Sh cl sh) {μ pc len tg nc : Nat} {lo : List (Option Value)} {st : List Value} {h : am_S} {Q : am_Q} {k : Nat} (hc : am_code G μ pc = some (.aload k, len, tg))
    (hF : am_go (am_PW G sh TS NS cl EX l) (am_PW G sh TS NS cl EX l) (am_op G sh μ pc len tg nc lo st h (.aload k)) Q) : am_PW G sh TS NS cl EX l (μ, pc, nc, lo, st, h) Q := by
  intro M hM p e s m args below meth cd H locs A ls ad ca D hB hE hK hP hD hS hA hl Qc XC hQ hX
  obtain ⟨hdec, hln, htg⟩ := am_code_spec hM hc
  obtain ⟨hx, hb, hr, hml, hown, hts, hns, hlocks, hnoex⟩ := id hB
  have go : ∀ (pc' nc' : Nat) (st' : List Value), am_PW G sh TS NS cl EX l (μ, pc', nc', lo, st', h) Q → W p l e M.2.2.2.2.2 s m args below meth cd H locs nc' (6 * nc') (vx_MQ below Qc XC args s M.2.2.2.2.2.cells M.2.2.2.2.2.slots A) (F0 m pc' ls (st'.map (am_cv ad))) :=
    fun pc' nc' st' k => k M hM p e s m args below meth cd H locs A ls ad ca D hB hE hK hP hD hS hA hl Qc XC hQ hX
  obtain rfl : len = 2 := by simpa [am_ln] using hln
  dsimp only [am_op] at hF
  split at hF
  · rename_i x hv
    exact lv_aload hx hb hdec (hl.2.2 _ _ hv) (go _ _ _ (hF.2.1 trivial))
  · exact hF.elim

set_option maxHeartbeats 1000000 in
theorem am_r_istore_n {G : am_G} {sh : List am_D} {TS NS : List Cond} {cl : List vw_C} {EX : (Nat → Prop) → State → Heap → Prop} {l : Launch} (hok : am_Ok G TS NS cl) (hsh : am_Sh cl sh) {μ pc len tg nc : Nat} {lo : List (Option Value)} {st : List Value} {h : am_S} {Q : am_Q} {k : Fin 4} (hc : am_code G μ pc = some (.istore_n k, len, tg))
    (hF : am_go (am_PW G sh TS NS cl EX l) (am_PW G sh TS NS cl EX l) (am_op G sh μ pc len tg nc lo st h (.istore_n k)) Q) : am_PW G sh TS NS cl EX l (μ, pc, nc, lo, st, h) Q := by
  intro M hM p e s m args below meth cd H locs A ls ad ca D hB hE hK hP hD hS hA hl Qc XC hQ hX
  obtain ⟨hdec, hln, htg⟩ := am_code_spec hM hc
  obtain ⟨hx, hb, hr, hml, hown, hts, hns, hlocks, hnoex⟩ := id hB
  have go : ∀ (pc' nc' : Nat) (st' : List Value), am_PW G sh TS NS cl EX l (μ, pc', nc', lo, st', h) Q → W p l e M.2.2.2.2.2 s m args below meth cd H locs nc' (6 * nc') (vx_MQ below Qc XC args s M.2.2.2.2.2.cells M.2.2.2.2.2.slots A) (F0 m pc' ls (st'.map (am_cv ad))) :=
    fun pc' nc' st' k => k M hM p e s m args below meth cd H locs A ls ad ca D hB hE hK hP hD hS hA hl Qc XC hQ hX
  obtain rfl : len = 1 := by simpa [am_ln] using hln
  dsimp only [am_op] at hF
  split at hF
  · rename_i x r
    have hi := hF.1
    rw [am_ml_of hM] at hi
    exact lv_istore_n hx hb hdec rfl hl.has hi rfl (fun ls' hl' => hF.2.1 trivial M hM p e s m args below meth cd H locs A ls' ad ca D hB hE hK hP hD hS hA (am_lo_s1 (v := .int x) hl hl') Qc XC hQ hX)
  · exact hF.elim

set_option maxHeartbeats 1000000 in
theorem am_r_istore {G : am_G} {sh : List am_D} {TS NS : List Cond} {cl : List vw_C} {EX : (Nat → Prop) → State → Heap → Prop} {l : Launch} (hok : am_Ok G TS NS cl) (hsh : am_Sh cl sh) {μ pc len tg nc : Nat} {lo : List (Option Value)} {st : List Value} {h : am_S} {Q : am_Q} {k : Nat} (hc : am_code G μ pc = some (.istore k, len, tg))
    (hF : am_go (am_PW G sh TS NS cl EX l) (am_PW G sh TS NS cl EX l) (am_op G sh μ pc len tg nc lo st h (.istore k)) Q) : am_PW G sh TS NS cl EX l (μ, pc, nc, lo, st, h) Q := by
  intro M hM p e s m args below meth cd H locs A ls ad ca D hB hE hK hP hD hS hA hl Qc XC hQ hX
  obtain ⟨hdec, hln, htg⟩ := am_code_spec hM hc
  obtain ⟨hx, hb, hr, hml, hown, hts, hns, hlocks, hnoex⟩ := id hB
  have go : ∀ (pc' nc' : Nat) (st' : List Value), am_PW G sh TS NS cl EX l (μ, pc', nc', lo, st', h) Q → W p l e M.2.2.2.2.2 s m args below meth cd H locs nc' (6 * nc') (vx_MQ below Qc XC args s M.2.2.2.2.2.cells M.2.2.2.2.2.slots A) (F0 m pc' ls (st'.map (am_cv ad))) :=
    fun pc' nc' st' k => k M hM p e s m args below meth cd H locs A ls ad ca D hB hE hK hP hD hS hA hl Qc XC hQ hX
  obtain rfl : len = 2 := by simpa [am_ln] using hln
  dsimp only [am_op] at hF
  split at hF
  · rename_i x r
    have hi := hF.1
    rw [am_ml_of hM] at hi
    exact lv_istore hx hb hdec hl.has hi rfl (fun ls' hl' => hF.2.1 trivial M hM p e s m args below meth cd H locs A ls' ad ca D hB hE hK hP hD hS hA (am_lo_s1 (v := .int x) hl hl') Qc XC hQ hX)
  · exact hF.elim

set_option maxHeartbeats 1000000 in
theorem am_r_lstore_n {G : am_G} {sh : List am_D} {TS NS : List Cond} {cl : List vw_C} {EX : (Nat → Prop) → State → Heap → Prop} {l : Launch} (hok : am_Ok G TS NS cl) (hsh : am_Sh cl sh) {μ pc len tg nc : Nat} {lo : List (Option Value)} {st : List Value} {h : am_S} {Q : am_Q} {k : Fin 4} (hc : am_code G μ pc = some (.lstore_n k, len, tg))
    (hF : am_go (am_PW G sh TS NS cl EX l) (am_PW G sh TS NS cl EX l) (am_op G sh μ pc len tg nc lo st h (.lstore_n k)) Q) : am_PW G sh TS NS cl EX l (μ, pc, nc, lo, st, h) Q := by
  intro M hM p e s m args below meth cd H locs A ls ad ca D hB hE hK hP hD hS hA hl Qc XC hQ hX
  obtain ⟨hdec, hln, htg⟩ := am_code_spec hM hc
  obtain ⟨hx, hb, hr, hml, hown, hts, hns, hlocks, hnoex⟩ := id hB
  have go : ∀ (pc' nc' : Nat) (st' : List Value), am_PW G sh TS NS cl EX l (μ, pc', nc', lo, st', h) Q → W p l e M.2.2.2.2.2 s m args below meth cd H locs nc' (6 * nc') (vx_MQ below Qc XC args s M.2.2.2.2.2.cells M.2.2.2.2.2.slots A) (F0 m pc' ls (st'.map (am_cv ad))) :=
    fun pc' nc' st' k => k M hM p e s m args below meth cd H locs A ls ad ca D hB hE hK hP hD hS hA hl Qc XC hQ hX
  obtain rfl : len = 1 := by simpa [am_ln] using hln
  dsimp only [am_op] at hF
  split at hF
  · rename_i x r
    have hi := hF.1
    rw [am_ml_of hM] at hi
    exact lv_lstore_n hx hb hdec rfl hl.has hi rfl (fun ls' hl' => hF.2.1 trivial M hM p e s m args below meth cd H locs A ls' ad ca D hB hE hK hP hD hS hA (am_lo_s2 (v := .long x) hl hl') Qc XC hQ hX)
  · exact hF.elim

set_option maxHeartbeats 1000000 in
theorem am_r_lstore {G : am_G} {sh : List am_D} {TS NS : List Cond} {cl : List vw_C} {EX : (Nat → Prop) → State → Heap → Prop} {l : Launch} (hok : am_Ok G TS NS cl) (hsh : am_Sh cl sh) {μ pc len tg nc : Nat} {lo : List (Option Value)} {st : List Value} {h : am_S} {Q : am_Q} {k : Nat} (hc : am_code G μ pc = some (.lstore k, len, tg))
    (hF : am_go (am_PW G sh TS NS cl EX l) (am_PW G sh TS NS cl EX l) (am_op G sh μ pc len tg nc lo st h (.lstore k)) Q) : am_PW G sh TS NS cl EX l (μ, pc, nc, lo, st, h) Q := by
  intro M hM p e s m args below meth cd H locs A ls ad ca D hB hE hK hP hD hS hA hl Qc XC hQ hX
  obtain ⟨hdec, hln, htg⟩ := am_code_spec hM hc
  obtain ⟨hx, hb, hr, hml, hown, hts, hns, hlocks, hnoex⟩ := id hB
  have go : ∀ (pc' nc' : Nat) (st' : List Value), am_PW G sh TS NS cl EX l (μ, pc', nc', lo, st', h) Q → W p l e M.2.2.2.2.2 s m args below meth cd H locs nc' (6 * nc') (vx_MQ below Qc XC args s M.2.2.2.2.2.cells M.2.2.2.2.2.slots A) (F0 m pc' ls (st'.map (am_cv ad))) :=
    fun pc' nc' st' k => k M hM p e s m args below meth cd H locs A ls ad ca D hB hE hK hP hD hS hA hl Qc XC hQ hX
  obtain rfl : len = 2 := by simpa [am_ln] using hln
  dsimp only [am_op] at hF
  split at hF
  · rename_i x r
    have hi := hF.1
    rw [am_ml_of hM] at hi
    exact lv_lstore hx hb hdec hl.has hi rfl (fun ls' hl' => hF.2.1 trivial M hM p e s m args below meth cd H locs A ls' ad ca D hB hE hK hP hD hS hA (am_lo_s2 (v := .long x) hl hl') Qc XC hQ hX)
  · exact hF.elim

set_option maxHeartbeats 1000000 in
theorem am_r_astore_n {G : am_G} {sh : List am_D} {TS NS : List Cond} {cl : List vw_C} {EX : (Nat → Prop) → State → Heap → Prop} {l : Launch} (hok : am_Ok G TS NS cl) (hsh : am_Sh cl sh) {μ pc len tg nc : Nat} {lo : List (Option Value)} {st : List Value} {h : am_S} {Q : am_Q} {k : Fin 4} (hc : am_code G μ pc = some (.astore_n k, len, tg))
    (hF : am_go (am_PW G sh TS NS cl EX l) (am_PW G sh TS NS cl EX l) (am_op G sh μ pc len tg nc lo st h (.astore_n k)) Q) : am_PW G sh TS NS cl EX l (μ, pc, nc, lo, st, h) Q := by
  intro M hM p e s m args below meth cd H locs A ls ad ca D hB hE hK hP hD hS hA hl Qc XC hQ hX
  obtain ⟨hdec, hln, htg⟩ := am_code_spec hM hc
  obtain ⟨hx, hb, hr, hml, hown, hts, hns, hlocks, hnoex⟩ := id hB
  have go : ∀ (pc' nc' : Nat) (st' : List Value), am_PW G sh TS NS cl EX l (μ, pc', nc', lo, st', h) Q → W p l e M.2.2.2.2.2 s m args below meth cd H locs nc' (6 * nc') (vx_MQ below Qc XC args s M.2.2.2.2.2.cells M.2.2.2.2.2.slots A) (F0 m pc' ls (st'.map (am_cv ad))) :=
    fun pc' nc' st' k => k M hM p e s m args below meth cd H locs A ls ad ca D hB hE hK hP hD hS hA hl Qc XC hQ hX
  obtain rfl : len = 1 := by simpa [am_ln] using hln
  dsimp only [am_op] at hF
  split at hF
  · rename_i x r
    have hi := hF.1
    rw [am_ml_of hM] at hi
    exact lv_astore_n hx hb hdec rfl hl.has hi rfl (fun ls' hl' => hF.2.1 trivial M hM p e s m args below meth cd H locs A ls' ad ca D hB hE hK hP hD hS hA (am_lo_s1 (v := .ref x) hl hl') Qc XC hQ hX)
  · exact hF.elim

set_option maxHeartbeats 1000000 in
theorem am_r_astore {G : am_G} {sh : List am_D} {TS NS : List Cond} {cl : List vw_C} {EX : (Nat → Prop) → State → Heap → Prop} {l : Launch} (hok : am_Ok G TS NS cl) (hsh : am_Sh cl sh) {μ pc len tg nc : Nat} {lo : List (Option Value)} {st : List Value} {h : am_S} {Q : am_Q} {k : Nat} (hc : am_code G μ pc = some (.astore k, len, tg))
    (hF : am_go (am_PW G sh TS NS cl EX l) (am_PW G sh TS NS cl EX l) (am_op G sh μ pc len tg nc lo st h (.astore k)) Q) : am_PW G sh TS NS cl EX l (μ, pc, nc, lo, st, h) Q := by
  intro M hM p e s m args below meth cd H locs A ls ad ca D hB hE hK hP hD hS hA hl Qc XC hQ hX
  obtain ⟨hdec, hln, htg⟩ := am_code_spec hM hc
  obtain ⟨hx, hb, hr, hml, hown, hts, hns, hlocks, hnoex⟩ := id hB
  have go : ∀ (pc' nc' : Nat) (st' : List Value), am_PW G sh TS NS cl EX l (μ, pc', nc', lo, st', h) Q → W p l e M.2.2.2.2.2 s m args below meth cd H locs nc' (6 * nc') (vx_MQ below Qc XC args s M.2.2.2.2.2.cells M.2.2.2.2.2.slots A) (F0 m pc' ls (st'.map (am_cv ad))) :=
    fun pc' nc' st' k => k M hM p e s m args below meth cd H locs A ls ad ca D hB hE hK hP hD hS hA hl Qc XC hQ hX
  obtain rfl : len = 2 := by simpa [am_ln] using hln
  dsimp only [am_op] at hF
  split at hF
  · rename_i x r
    have hi := hF.1
    rw [am_ml_of hM] at hi
    exact lv_astore hx hb hdec hl.has hi rfl (fun ls' hl' => hF.2.1 trivial M hM p e s m args below meth cd H locs A ls' ad ca D hB hE hK hP hD hS hA (am_lo_s1 (v := .ref x) hl hl') Qc XC hQ hX)
  · exact hF.elim

set_option maxHeartbeats 1000000 in
theorem am_r_iinc {G : am_G} {sh : List am_D} {TS NS : List Cond} {cl : List vw_C} {EX : (Nat → Prop) → State → Heap → Prop} {l : Launch} (hok : am_Ok G TS NS cl) (hsh : am_Sh cl sh) {μ pc len tg nc : Nat} {lo : List (Option Value)} {st : List Value} {h : am_S} {Q : am_Q} {k : Nat} {v : Int} (hc : am_code G μ pc = some (.iinc k v, len, tg))
    (hF : am_go (am_PW G sh TS NS cl EX l) (am_PW G sh TS NS cl EX l) (am_op G sh μ pc len tg nc lo st h (.iinc k v)) Q) : am_PW G sh TS NS cl EX l (μ, pc, nc, lo, st, h) Q := by
  intro M hM p e s m args below meth cd H locs A ls ad ca D hB hE hK hP hD hS hA hl Qc XC hQ hX
  obtain ⟨hdec, hln, htg⟩ := am_code_spec hM hc
  obtain ⟨hx, hb, hr, hml, hown, hts, hns, hlocks, hnoex⟩ := id hB
  have go : ∀ (pc' nc' : Nat) (st' : List Value), am_PW G sh TS NS cl EX l (μ, pc', nc', lo, st', h) Q → W p l e M.2.2.2.2.2 s m args below meth cd H locs nc' (6 * nc') (vx_MQ below Qc XC args s M.2.2.2.2.2.cells M.2.2.2.2.2.slots A) (F0 m pc' ls (st'.map (am_cv ad))) :=
    fun pc' nc' st' k => k M hM p e s m args below meth cd H locs A ls ad ca D hB hE hK hP hD hS hA hl Qc XC hQ hX
  obtain rfl : len = 3 := by simpa [am_ln] using hln
  dsimp only [am_op] at hF
  split at hF
  · rename_i x hv
    have hi := hF.1
    rw [am_ml_of hM] at hi
    obtain ⟨j, hj⟩ := List.getElem?_of_mem (am_pl_mem (ad := ad) hi hv)
    exact lv_iinc hx hb hdec hl.has hj rfl hi rfl (fun ls' hl' => hF.2.1 trivial M hM p e s m args below meth cd H locs A ls' ad ca D hB hE hK hP hD hS hA (am_lo_s1 (v := .int (x + Int32.ofInt v)) hl hl') Qc XC hQ hX)
  · exact hF.elim

set_option maxHeartbeats 1000000 in
theorem am_r_iadd {G : am_G} {sh : List am_D} {TS NS : List Cond} {cl : List vw_C} {EX : (Nat → Prop) → State → Heap → Prop} {l : Launch} (hok : am_Ok G TS NS cl) (hsh : am_Sh cl sh) {μ pc len tg nc : Nat} {lo : List (Option Value)} {st : List Value} {h : am_S} {Q : am_Q} (hc : am_code G μ pc = some (.iadd, len, tg))
    (hF : am_go (am_PW G sh TS NS cl EX l) (am_PW G sh TS NS cl EX l) (am_op G sh μ pc len tg nc lo st h (.iadd)) Q) : am_PW G sh TS NS cl EX l (μ, pc, nc, lo, st, h) Q := by
  intro M hM p e s m args below meth cd H locs A ls ad ca D hB hE hK hP hD hS hA hl Qc XC hQ hX
  obtain ⟨hdec, hln, htg⟩ := am_code_spec hM hc
  obtain ⟨hx, hb, hr, hml, hown, hts, hns, hlocks, hnoex⟩ := id hB
  have go : ∀ (pc' nc' : Nat) (st' : List Value), am_PW G sh TS NS cl EX l (μ, pc', nc', lo, st', h) Q → W p l e M.2.2.2.2.2 s m args below meth cd H locs nc' (6 * nc') (vx_MQ below Qc XC args s M.2.2.2.2.2.cells M.2.2.2.2.2.slots A) (F0 m pc' ls (st'.map (am_cv ad))) :=
    fun pc' nc' st' k => k M hM p e s m args below meth cd H locs A ls ad ca D hB hE hK hP hD hS hA hl Qc XC hQ hX
  obtain rfl : len = 1 := by simpa [am_ln] using hln
  dsimp only [am_op] at hF
  split at hF
  · exact lv_iadd hx hb hdec (go _ _ _ (hF.2.1 trivial))
  · exact hF.elim

set_option maxHeartbeats 1000000 in
theorem am_r_isub {G : am_G} {sh : List am_D} {TS NS : List Cond} {cl : List vw_C} {EX : (Nat → Prop) → State → Heap → Prop} {l : Launch} (hok : am_Ok G TS NS cl) (hsh : am_Sh cl sh) {μ pc len tg nc : Nat} {lo : List (Option Value)} {st : List Value} {h : am_S} {Q : am_Q} (hc : am_code G μ pc = some (.isub, len, tg))
    (hF : am_go (am_PW G sh TS NS cl EX l) (am_PW G sh TS NS cl EX l) (am_op G sh μ pc len tg nc lo st h (.isub)) Q) : am_PW G sh TS NS cl EX l (μ, pc, nc, lo, st, h) Q := by
  intro M hM p e s m args below meth cd H locs A ls ad ca D hB hE hK hP hD hS hA hl Qc XC hQ hX
  obtain ⟨hdec, hln, htg⟩ := am_code_spec hM hc
  obtain ⟨hx, hb, hr, hml, hown, hts, hns, hlocks, hnoex⟩ := id hB
  have go : ∀ (pc' nc' : Nat) (st' : List Value), am_PW G sh TS NS cl EX l (μ, pc', nc', lo, st', h) Q → W p l e M.2.2.2.2.2 s m args below meth cd H locs nc' (6 * nc') (vx_MQ below Qc XC args s M.2.2.2.2.2.cells M.2.2.2.2.2.slots A) (F0 m pc' ls (st'.map (am_cv ad))) :=
    fun pc' nc' st' k => k M hM p e s m args below meth cd H locs A ls ad ca D hB hE hK hP hD hS hA hl Qc XC hQ hX
  obtain rfl : len = 1 := by simpa [am_ln] using hln
  dsimp only [am_op] at hF
  split at hF
  · exact lv_isub hx hb hdec (go _ _ _ (hF.2.1 trivial))
  · exact hF.elim

set_option maxHeartbeats 1000000 in
theorem am_r_imul {G : am_G} {sh : List am_D} {TS NS : List Cond} {cl : List vw_C} {EX : (Nat → Prop) → State → Heap → Prop} {l : Launch} (hok : am_Ok G TS NS cl) (hsh : am_Sh cl sh) {μ pc len tg nc : Nat} {lo : List (Option Value)} {st : List Value} {h : am_S} {Q : am_Q} (hc : am_code G μ pc = some (.imul, len, tg))
    (hF : am_go (am_PW G sh TS NS cl EX l) (am_PW G sh TS NS cl EX l) (am_op G sh μ pc len tg nc lo st h (.imul)) Q) : am_PW G sh TS NS cl EX l (μ, pc, nc, lo, st, h) Q := by
  intro M hM p e s m args below meth cd H locs A ls ad ca D hB hE hK hP hD hS hA hl Qc XC hQ hX
  obtain ⟨hdec, hln, htg⟩ := am_code_spec hM hc
  obtain ⟨hx, hb, hr, hml, hown, hts, hns, hlocks, hnoex⟩ := id hB
  have go : ∀ (pc' nc' : Nat) (st' : List Value), am_PW G sh TS NS cl EX l (μ, pc', nc', lo, st', h) Q → W p l e M.2.2.2.2.2 s m args below meth cd H locs nc' (6 * nc') (vx_MQ below Qc XC args s M.2.2.2.2.2.cells M.2.2.2.2.2.slots A) (F0 m pc' ls (st'.map (am_cv ad))) :=
    fun pc' nc' st' k => k M hM p e s m args below meth cd H locs A ls ad ca D hB hE hK hP hD hS hA hl Qc XC hQ hX
  obtain rfl : len = 1 := by simpa [am_ln] using hln
  dsimp only [am_op] at hF
  split at hF
  · exact lv_imul hx hb hdec (go _ _ _ (hF.2.1 trivial))
  · exact hF.elim

set_option maxHeartbeats 1000000 in
theorem am_r_iand {G : am_G} {sh : List am_D} {TS NS : List Cond} {cl : List vw_C} {EX : (Nat → Prop) → State → Heap → Prop} {l : Launch} (hok : am_Ok G TS NS cl) (hsh : am_Sh cl sh) {μ pc len tg nc : Nat} {lo : List (Option Value)} {st : List Value} {h : am_S} {Q : am_Q} (hc : am_code G μ pc = some (.iand, len, tg))
    (hF : am_go (am_PW G sh TS NS cl EX l) (am_PW G sh TS NS cl EX l) (am_op G sh μ pc len tg nc lo st h (.iand)) Q) : am_PW G sh TS NS cl EX l (μ, pc, nc, lo, st, h) Q := by
  intro M hM p e s m args below meth cd H locs A ls ad ca D hB hE hK hP hD hS hA hl Qc XC hQ hX
  obtain ⟨hdec, hln, htg⟩ := am_code_spec hM hc
  obtain ⟨hx, hb, hr, hml, hown, hts, hns, hlocks, hnoex⟩ := id hB
  have go : ∀ (pc' nc' : Nat) (st' : List Value), am_PW G sh TS NS cl EX l (μ, pc', nc', lo, st', h) Q → W p l e M.2.2.2.2.2 s m args below meth cd H locs nc' (6 * nc') (vx_MQ below Qc XC args s M.2.2.2.2.2.cells M.2.2.2.2.2.slots A) (F0 m pc' ls (st'.map (am_cv ad))) :=
    fun pc' nc' st' k => k M hM p e s m args below meth cd H locs A ls ad ca D hB hE hK hP hD hS hA hl Qc XC hQ hX
  obtain rfl : len = 1 := by simpa [am_ln] using hln
  dsimp only [am_op] at hF
  split at hF
  · exact lv_iand hx hb hdec (go _ _ _ (hF.2.1 trivial))
  · exact hF.elim

set_option maxHeartbeats 1000000 in
theorem am_r_ixor {G : am_G} {sh : List am_D} {TS NS : List Cond} {cl : List vw_C} {EX : (Nat → Prop) → State → Heap → Prop} {l : Launch} (hok : am_Ok G TS NS cl) (hsh : am_Sh cl sh) {μ pc len tg nc : Nat} {lo : List (Option Value)} {st : List Value} {h : am_S} {Q : am_Q} (hc : am_code G μ pc = some (.ixor, len, tg))
    (hF : am_go (am_PW G sh TS NS cl EX l) (am_PW G sh TS NS cl EX l) (am_op G sh μ pc len tg nc lo st h (.ixor)) Q) : am_PW G sh TS NS cl EX l (μ, pc, nc, lo, st, h) Q := by
  intro M hM p e s m args below meth cd H locs A ls ad ca D hB hE hK hP hD hS hA hl Qc XC hQ hX
  obtain ⟨hdec, hln, htg⟩ := am_code_spec hM hc
  obtain ⟨hx, hb, hr, hml, hown, hts, hns, hlocks, hnoex⟩ := id hB
  have go : ∀ (pc' nc' : Nat) (st' : List Value), am_PW G sh TS NS cl EX l (μ, pc', nc', lo, st', h) Q → W p l e M.2.2.2.2.2 s m args below meth cd H locs nc' (6 * nc') (vx_MQ below Qc XC args s M.2.2.2.2.2.cells M.2.2.2.2.2.slots A) (F0 m pc' ls (st'.map (am_cv ad))) :=
    fun pc' nc' st' k => k M hM p e s m args below meth cd H locs A ls ad ca D hB hE hK hP hD hS hA hl Qc XC hQ hX
  obtain rfl : len = 1 := by simpa [am_ln] using hln
  dsimp only [am_op] at hF
  split at hF
  · exact lv_ixor hx hb hdec (go _ _ _ (hF.2.1 trivial))
  · exact hF.elim

set_option maxHeartbeats 1000000 in
theorem am_r_ladd {G : am_G} {sh : List am_D} {TS NS : List Cond} {cl : List vw_C} {EX : (Nat → Prop) → State → Heap → Prop} {l : Launch} (hok : am_Ok G TS NS cl) (hsh : am_Sh cl sh) {μ pc len tg nc : Nat} {lo : List (Option Value)} {st : List Value} {h : am_S} {Q : am_Q} (hc : am_code G μ pc = some (.ladd, len, tg))
    (hF : am_go (am_PW G sh TS NS cl EX l) (am_PW G sh TS NS cl EX l) (am_op G sh μ pc len tg nc lo st h (.ladd)) Q) : am_PW G sh TS NS cl EX l (μ, pc, nc, lo, st, h) Q := by
  intro M hM p e s m args below meth cd H locs A ls ad ca D hB hE hK hP hD hS hA hl Qc XC hQ hX
  obtain ⟨hdec, hln, htg⟩ := am_code_spec hM hc
  obtain ⟨hx, hb, hr, hml, hown, hts, hns, hlocks, hnoex⟩ := id hB
  have go : ∀ (pc' nc' : Nat) (st' : List Value), am_PW G sh TS NS cl EX l (μ, pc', nc', lo, st', h) Q → W p l e M.2.2.2.2.2 s m args below meth cd H locs nc' (6 * nc') (vx_MQ below Qc XC args s M.2.2.2.2.2.cells M.2.2.2.2.2.slots A) (F0 m pc' ls (st'.map (am_cv ad))) :=
    fun pc' nc' st' k => k M hM p e s m args below meth cd H locs A ls ad ca D hB hE hK hP hD hS hA hl Qc XC hQ hX
  obtain rfl : len = 1 := by simpa [am_ln] using hln
  dsimp only [am_op] at hF
  split at hF
  · exact lv_ladd hx hb hdec (go _ _ _ (hF.2.1 trivial))
  · exact hF.elim

set_option maxHeartbeats 1000000 in
theorem am_r_irem {G : am_G} {sh : List am_D} {TS NS : List Cond} {cl : List vw_C} {EX : (Nat → Prop) → State → Heap → Prop} {l : Launch} (hok : am_Ok G TS NS cl) (hsh : am_Sh cl sh) {μ pc len tg nc : Nat} {lo : List (Option Value)} {st : List Value} {h : am_S} {Q : am_Q} (hc : am_code G μ pc = some (.irem, len, tg))
    (hF : am_go (am_PW G sh TS NS cl EX l) (am_PW G sh TS NS cl EX l) (am_op G sh μ pc len tg nc lo st h (.irem)) Q) : am_PW G sh TS NS cl EX l (μ, pc, nc, lo, st, h) Q := by
  intro M hM p e s m args below meth cd H locs A ls ad ca D hB hE hK hP hD hS hA hl Qc XC hQ hX
  obtain ⟨hdec, hln, htg⟩ := am_code_spec hM hc
  obtain ⟨hx, hb, hr, hml, hown, hts, hns, hlocks, hnoex⟩ := id hB
  have go : ∀ (pc' nc' : Nat) (st' : List Value), am_PW G sh TS NS cl EX l (μ, pc', nc', lo, st', h) Q → W p l e M.2.2.2.2.2 s m args below meth cd H locs nc' (6 * nc') (vx_MQ below Qc XC args s M.2.2.2.2.2.cells M.2.2.2.2.2.slots A) (F0 m pc' ls (st'.map (am_cv ad))) :=
    fun pc' nc' st' k => k M hM p e s m args below meth cd H locs A ls ad ca D hB hE hK hP hD hS hA hl Qc XC hQ hX
  obtain rfl : len = 1 := by simpa [am_ln] using hln
  dsimp only [am_op] at hF
  split at hF
  · exact lv_irem hx hb hdec hF.1 (go _ _ _ (hF.2.1 trivial))
  · exact hF.elim

set_option maxHeartbeats 1000000 in
theorem am_r_i2l {G : am_G} {sh : List am_D} {TS NS : List Cond} {cl : List vw_C} {EX : (Nat → Prop) → State → Heap → Prop} {l : Launch} (hok : am_Ok G TS NS cl) (hsh : am_Sh cl sh) {μ pc len tg nc : Nat} {lo : List (Option Value)} {st : List Value} {h : am_S} {Q : am_Q} (hc : am_code G μ pc = some (.i2l, len, tg))
    (hF : am_go (am_PW G sh TS NS cl EX l) (am_PW G sh TS NS cl EX l) (am_op G sh μ pc len tg nc lo st h (.i2l)) Q) : am_PW G sh TS NS cl EX l (μ, pc, nc, lo, st, h) Q := by
  intro M hM p e s m args below meth cd H locs A ls ad ca D hB hE hK hP hD hS hA hl Qc XC hQ hX
  obtain ⟨hdec, hln, htg⟩ := am_code_spec hM hc
  obtain ⟨hx, hb, hr, hml, hown, hts, hns, hlocks, hnoex⟩ := id hB
  have go : ∀ (pc' nc' : Nat) (st' : List Value), am_PW G sh TS NS cl EX l (μ, pc', nc', lo, st', h) Q → W p l e M.2.2.2.2.2 s m args below meth cd H locs nc' (6 * nc') (vx_MQ below Qc XC args s M.2.2.2.2.2.cells M.2.2.2.2.2.slots A) (F0 m pc' ls (st'.map (am_cv ad))) :=
    fun pc' nc' st' k => k M hM p e s m args below meth cd H locs A ls ad ca D hB hE hK hP hD hS hA hl Qc XC hQ hX
  obtain rfl : len = 1 := by simpa [am_ln] using hln
  dsimp only [am_op] at hF
  split at hF
  · exact lv_i2l hx hb hdec rfl (go _ _ _ (hF.2.1 trivial))
  · exact hF.elim

set_option maxHeartbeats 1000000 in
theorem am_r_l2i {G : am_G} {sh : List am_D} {TS NS : List Cond} {cl : List vw_C} {EX : (Nat → Prop) → State → Heap → Prop} {l : Launch} (hok : am_Ok G TS NS cl) (hsh : am_Sh cl sh) {μ pc len tg nc : Nat} {lo : List (Option Value)} {st : List Value} {h : am_S} {Q : am_Q} (hc : am_code G μ pc = some (.l2i, len, tg))
    (hF : am_go (am_PW G sh TS NS cl EX l) (am_PW G sh TS NS cl EX l) (am_op G sh μ pc len tg nc lo st h (.l2i)) Q) : am_PW G sh TS NS cl EX l (μ, pc, nc, lo, st, h) Q := by
  intro M hM p e s m args below meth cd H locs A ls ad ca D hB hE hK hP hD hS hA hl Qc XC hQ hX
  obtain ⟨hdec, hln, htg⟩ := am_code_spec hM hc
  obtain ⟨hx, hb, hr, hml, hown, hts, hns, hlocks, hnoex⟩ := id hB
  have go : ∀ (pc' nc' : Nat) (st' : List Value), am_PW G sh TS NS cl EX l (μ, pc', nc', lo, st', h) Q → W p l e M.2.2.2.2.2 s m args below meth cd H locs nc' (6 * nc') (vx_MQ below Qc XC args s M.2.2.2.2.2.cells M.2.2.2.2.2.slots A) (F0 m pc' ls (st'.map (am_cv ad))) :=
    fun pc' nc' st' k => k M hM p e s m args below meth cd H locs A ls ad ca D hB hE hK hP hD hS hA hl Qc XC hQ hX
  obtain rfl : len = 1 := by simpa [am_ln] using hln
  dsimp only [am_op] at hF
  split at hF
  · exact lv_l2i hx hb hdec rfl (go _ _ _ (hF.2.1 trivial))
  · exact hF.elim

set_option maxHeartbeats 1000000 in
theorem am_r_dup {G : am_G} {sh : List am_D} {TS NS : List Cond} {cl : List vw_C} {EX : (Nat → Prop) → State → Heap → Prop} {l : Launch} (hok : am_Ok G TS NS cl) (hsh : am_Sh cl sh) {μ pc len tg nc : Nat} {lo : List (Option Value)} {st : List Value} {h : am_S} {Q : am_Q} (hc : am_code G μ pc = some (.dup, len, tg))
    (hF : am_go (am_PW G sh TS NS cl EX l) (am_PW G sh TS NS cl EX l) (am_op G sh μ pc len tg nc lo st h (.dup)) Q) : am_PW G sh TS NS cl EX l (μ, pc, nc, lo, st, h) Q := by
  intro M hM p e s m args below meth cd H locs A ls ad ca D hB hE hK hP hD hS hA hl Qc XC hQ hX
  obtain ⟨hdec, hln, htg⟩ := am_code_spec hM hc
  obtain ⟨hx, hb, hr, hml, hown, hts, hns, hlocks, hnoex⟩ := id hB
  have go : ∀ (pc' nc' : Nat) (st' : List Value), am_PW G sh TS NS cl EX l (μ, pc', nc', lo, st', h) Q → W p l e M.2.2.2.2.2 s m args below meth cd H locs nc' (6 * nc') (vx_MQ below Qc XC args s M.2.2.2.2.2.cells M.2.2.2.2.2.slots A) (F0 m pc' ls (st'.map (am_cv ad))) :=
    fun pc' nc' st' k => k M hM p e s m args below meth cd H locs A ls ad ca D hB hE hK hP hD hS hA hl Qc XC hQ hX
  obtain rfl : len = 1 := by simpa [am_ln] using hln
  dsimp only [am_op] at hF
  split at hF
  · exact lv_dup hx hb hdec (by rw [am_cv_cat]; exact hF.1) (go _ _ _ (hF.2.1 trivial))
  · exact hF.elim

set_option maxHeartbeats 1000000 in
theorem am_r_pop {G : am_G} {sh : List am_D} {TS NS : List Cond} {cl : List vw_C} {EX : (Nat → Prop) → State → Heap → Prop} {l : Launch} (hok : am_Ok G TS NS cl) (hsh : am_Sh cl sh) {μ pc len tg nc : Nat} {lo : List (Option Value)} {st : List Value} {h : am_S} {Q : am_Q} (hc : am_code G μ pc = some (.pop, len, tg))
    (hF : am_go (am_PW G sh TS NS cl EX l) (am_PW G sh TS NS cl EX l) (am_op G sh μ pc len tg nc lo st h (.pop)) Q) : am_PW G sh TS NS cl EX l (μ, pc, nc, lo, st, h) Q := by
  intro M hM p e s m args below meth cd H locs A ls ad ca D hB hE hK hP hD hS hA hl Qc XC hQ hX
  obtain ⟨hdec, hln, htg⟩ := am_code_spec hM hc
  obtain ⟨hx, hb, hr, hml, hown, hts, hns, hlocks, hnoex⟩ := id hB
  have go : ∀ (pc' nc' : Nat) (st' : List Value), am_PW G sh TS NS cl EX l (μ, pc', nc', lo, st', h) Q → W p l e M.2.2.2.2.2 s m args below meth cd H locs nc' (6 * nc') (vx_MQ below Qc XC args s M.2.2.2.2.2.cells M.2.2.2.2.2.slots A) (F0 m pc' ls (st'.map (am_cv ad))) :=
    fun pc' nc' st' k => k M hM p e s m args below meth cd H locs A ls ad ca D hB hE hK hP hD hS hA hl Qc XC hQ hX
  obtain rfl : len = 1 := by simpa [am_ln] using hln
  dsimp only [am_op] at hF
  split at hF
  · exact lv_pop hx hb hdec (by rw [am_cv_cat]; exact hF.1) (go _ _ _ (hF.2.1 trivial))
  · exact hF.elim

set_option maxHeartbeats 1000000 in
theorem am_r_dup2 {G : am_G} {sh : List am_D} {TS NS : List Cond} {cl : List vw_C} {EX : (Nat → Prop) → State → Heap → Prop} {l : Launch} (hok : am_Ok G TS NS cl) (hsh : am_Sh cl sh) {μ pc len tg nc : Nat} {lo : List (Option Value)} {st : List Value} {h : am_S} {Q : am_Q} (hc : am_code G μ pc = some (.dup2, len, tg))
    (hF : am_go (am_PW G sh TS NS cl EX l) (am_PW G sh TS NS cl EX l) (am_op G sh μ pc len tg nc lo st h (.dup2)) Q) : am_PW G sh TS NS cl EX l (μ, pc, nc, lo, st, h) Q := by
  intro M hM p e s m args below meth cd H locs A ls ad ca D hB hE hK hP hD hS hA hl Qc XC hQ hX
  obtain ⟨hdec, hln, htg⟩ := am_code_spec hM hc
  obtain ⟨hx, hb, hr, hml, hown, hts, hns, hlocks, hnoex⟩ := id hB
  have go : ∀ (pc' nc' : Nat) (st' : List Value), am_PW G sh TS NS cl EX l (μ, pc', nc', lo, st', h) Q → W p l e M.2.2.2.2.2 s m args below meth cd H locs nc' (6 * nc') (vx_MQ below Qc XC args s M.2.2.2.2.2.cells M.2.2.2.2.2.slots A) (F0 m pc' ls (st'.map (am_cv ad))) :=
    fun pc' nc' st' k => k M hM p e s m args below meth cd H locs A ls ad ca D hB hE hK hP hD hS hA hl Qc XC hQ hX
  obtain rfl : len = 1 := by simpa [am_ln] using hln
  dsimp only [am_op] at hF
  split at hF
  · exact lv_dup2_11 hx hb hdec (by rw [am_cv_cat]; exact hF.1.1) (by rw [am_cv_cat]; exact hF.1.2) (go _ _ _ (hF.2.1 trivial))
  · exact hF.elim

set_option maxHeartbeats 1000000 in
theorem am_r_dup_x1 {G : am_G} {sh : List am_D} {TS NS : List Cond} {cl : List vw_C} {EX : (Nat → Prop) → State → Heap → Prop} {l : Launch} (hok : am_Ok G TS NS cl) (hsh : am_Sh cl sh) {μ pc len tg nc : Nat} {lo : List (Option Value)} {st : List Value} {h : am_S} {Q : am_Q} (hc : am_code G μ pc = some (.dup_x1, len, tg))
    (hF : am_go (am_PW G sh TS NS cl EX l) (am_PW G sh TS NS cl EX l) (am_op G sh μ pc len tg nc lo st h (.dup_x1)) Q) : am_PW G sh TS NS cl EX l (μ, pc, nc, lo, st, h) Q := by
  intro M hM p e s m args below meth cd H locs A ls ad ca D hB hE hK hP hD hS hA hl Qc XC hQ hX
  obtain ⟨hdec, hln, htg⟩ := am_code_spec hM hc
  obtain ⟨hx, hb, hr, hml, hown, hts, hns, hlocks, hnoex⟩ := id hB
  have go : ∀ (pc' nc' : Nat) (st' : List Value), am_PW G sh TS NS cl EX l (μ, pc', nc', lo, st', h) Q → W p l e M.2.2.2.2.2 s m args below meth cd H locs nc' (6 * nc') (vx_MQ below Qc XC args s M.2.2.2.2.2.cells M.2.2.2.2.2.slots A) (F0 m pc' ls (st'.map (am_cv ad))) :=
    fun pc' nc' st' k => k M hM p e s m args below meth cd H locs A ls ad ca D hB hE hK hP hD hS hA hl Qc XC hQ hX
  obtain rfl : len = 1 := by simpa [am_ln] using hln
  dsimp only [am_op] at hF
  split at hF
  · exact lv_dup_x1 hx hb hdec (by rw [am_cv_cat]; exact hF.1.1) (by rw [am_cv_cat]; exact hF.1.2) (go _ _ _ (hF.2.1 trivial))
  · exact hF.elim

set_option maxHeartbeats 1000000 in
theorem am_r_goto {G : am_G} {sh : List am_D} {TS NS : List Cond} {cl : List vw_C} {EX : (Nat → Prop) → State → Heap → Prop} {l : Launch} (hok : am_Ok G TS NS cl) (hsh : am_Sh cl sh) {μ pc len tg nc : Nat} {lo : List (Option Value)} {st : List Value} {h : am_S} {Q : am_Q} {off : Int} (hc : am_code G μ pc = some (.goto off, len, tg))
    (hF : am_go (am_PW G sh TS NS cl EX l) (am_PW G sh TS NS cl EX l) (am_op G sh μ pc len tg nc lo st h (.goto off)) Q) : am_PW G sh TS NS cl EX l (μ, pc, nc, lo, st, h) Q := by
  intro M hM p e s m args below meth cd H locs A ls ad ca D hB hE hK hP hD hS hA hl Qc XC hQ hX
  obtain ⟨hdec, hln, htg⟩ := am_code_spec hM hc
  obtain ⟨hx, hb, hr, hml, hown, hts, hns, hlocks, hnoex⟩ := id hB
  have go : ∀ (pc' nc' : Nat) (st' : List Value), am_PW G sh TS NS cl EX l (μ, pc', nc', lo, st', h) Q → W p l e M.2.2.2.2.2 s m args below meth cd H locs nc' (6 * nc') (vx_MQ below Qc XC args s M.2.2.2.2.2.cells M.2.2.2.2.2.slots A) (F0 m pc' ls (st'.map (am_cv ad))) :=
    fun pc' nc' st' k => k M hM p e s m args below meth cd H locs A ls ad ca D hB hE hK hP hD hS hA hl Qc XC hQ hX
  obtain rfl : len = 3 := by simpa [am_ln] using hln
  exact lv_goto hx hb hdec (am_nn_spec htg) (go _ _ _ (hF.2.1 trivial))

set_option maxHeartbeats 1000000 in
theorem am_r_ifCond {G : am_G} {sh : List am_D} {TS NS : List Cond} {cl : List vw_C} {EX : (Nat → Prop) → State → Heap → Prop} {l : Launch} (hok : am_Ok G TS NS cl) (hsh : am_Sh cl sh) {μ pc len tg nc : Nat} {lo : List (Option Value)} {st : List Value} {h : am_S} {Q : am_Q} {cc : ClassFile.Cond} {off : Int} (hc : am_code G μ pc = some (.ifCond cc off, len, tg))
    (hF : am_go (am_PW G sh TS NS cl EX l) (am_PW G sh TS NS cl EX l) (am_op G sh μ pc len tg nc lo st h (.ifCond cc off)) Q) : am_PW G sh TS NS cl EX l (μ, pc, nc, lo, st, h) Q := by
  intro M hM p e s m args below meth cd H locs A ls ad ca D hB hE hK hP hD hS hA hl Qc XC hQ hX
  obtain ⟨hdec, hln, htg⟩ := am_code_spec hM hc
  obtain ⟨hx, hb, hr, hml, hown, hts, hns, hlocks, hnoex⟩ := id hB
  have go : ∀ (pc' nc' : Nat) (st' : List Value), am_PW G sh TS NS cl EX l (μ, pc', nc', lo, st', h) Q → W p l e M.2.2.2.2.2 s m args below meth cd H locs nc' (6 * nc') (vx_MQ below Qc XC args s M.2.2.2.2.2.cells M.2.2.2.2.2.slots A) (F0 m pc' ls (st'.map (am_cv ad))) :=
    fun pc' nc' st' k => k M hM p e s m args below meth cd H locs A ls ad ca D hB hE hK hP hD hS hA hl Qc XC hQ hX
  obtain rfl : len = 3 := by simpa [am_ln] using hln
  dsimp only [am_op] at hF
  split at hF
  · cases cc with
    | eq => exact lv_if_eq hx hb hdec (am_nn_spec htg) (fun q => go _ _ _ (hF.2.1 q)) (fun q => go _ _ _ (hF.2.2.1 q))
    | ne => exact lv_if_ne hx hb hdec (am_nn_spec htg) (fun q => go _ _ _ (hF.2.1 q)) (fun q => go _ _ _ (hF.2.2.1 q))
    | lt => exact lv_if_lt hx hb hdec (am_nn_spec htg) (fun q => go _ _ _ (hF.2.1 q)) (fun q => go _ _ _ (hF.2.2.1 q))
    | ge => exact lv_if_ge hx hb hdec (am_nn_spec htg) (fun q => go _ _ _ (hF.2.1 q)) (fun q => go _ _ _ (hF.2.2.1 q))
    | gt => exact lv_if_gt hx hb hdec (am_nn_spec htg) (fun q => go _ _ _ (hF.2.1 q)) (fun q => go _ _ _ (hF.2.2.1 q))
    | le => exact lv_if_le hx hb hdec (am_nn_spec htg) (fun q => go _ _ _ (hF.2.1 q)) (fun q => go _ _ _ (hF.2.2.1 q))
  · exact hF.elim

set_option maxHeartbeats 1000000 in
theorem am_r_if_icmp {G : am_G} {sh : List am_D} {TS NS : List Cond} {cl : List vw_C} {EX : (Nat → Prop) → State → Heap → Prop} {l : Launch} (hok : am_Ok G TS NS cl) (hsh : am_Sh cl sh) {μ pc len tg nc : Nat} {lo : List (Option Value)} {st : List Value} {h : am_S} {Q : am_Q} {cc : ClassFile.Cond} {off : Int} (hc : am_code G μ pc = some (.if_icmp cc off, len, tg))
    (hF : am_go (am_PW G sh TS NS cl EX l) (am_PW G sh TS NS cl EX l) (am_op G sh μ pc len tg nc lo st h (.if_icmp cc off)) Q) : am_PW G sh TS NS cl EX l (μ, pc, nc, lo, st, h) Q := by
  intro M hM p e s m args below meth cd H locs A ls ad ca D hB hE hK hP hD hS hA hl Qc XC hQ hX
  obtain ⟨hdec, hln, htg⟩ := am_code_spec hM hc
  obtain ⟨hx, hb, hr, hml, hown, hts, hns, hlocks, hnoex⟩ := id hB
  have go : ∀ (pc' nc' : Nat) (st' : List Value), am_PW G sh TS NS cl EX l (μ, pc', nc', lo, st', h) Q → W p l e M.2.2.2.2.2 s m args below meth cd H locs nc' (6 * nc') (vx_MQ below Qc XC args s M.2.2.2.2.2.cells M.2.2.2.2.2.slots A) (F0 m pc' ls (st'.map (am_cv ad))) :=
    fun pc' nc' st' k => k M hM p e s m args below meth cd H locs A ls ad ca D hB hE hK hP hD hS hA hl Qc XC hQ hX
  obtain rfl : len = 3 := by simpa [am_ln] using hln
  dsimp only [am_op] at hF
  split at hF
  · cases cc with
    | eq => exact lv_icmp_eq hx hb hdec (am_nn_spec htg) (fun q => go _ _ _ (hF.2.1 q)) (fun q => go _ _ _ (hF.2.2.1 q))
    | ne => exact lv_icmp_ne hx hb hdec (am_nn_spec htg) (fun q => go _ _ _ (hF.2.1 q)) (fun q => go _ _ _ (hF.2.2.1 q))
    | lt => exact lv_icmp_lt hx hb hdec (am_nn_spec htg) (fun q => go _ _ _ (hF.2.1 q)) (fun q => go _ _ _ (hF.2.2.1 q))
    | ge => exact lv_icmp_ge hx hb hdec (am_nn_spec htg) (fun q => go _ _ _ (hF.2.1 q)) (fun q => go _ _ _ (hF.2.2.1 q))
    | gt => exact lv_icmp_gt hx hb hdec (am_nn_spec htg) (fun q => go _ _ _ (hF.2.1 q)) (fun q => go _ _ _ (hF.2.2.1 q))
    | le => exact lv_icmp_le hx hb hdec (am_nn_spec htg) (fun q => go _ _ _ (hF.2.1 q)) (fun q => go _ _ _ (hF.2.2.1 q))
  · exact hF.elim

set_option maxHeartbeats 1000000 in
theorem am_r_getfield {G : am_G} {sh : List am_D} {TS NS : List Cond} {cl : List vw_C} {EX : (Nat → Prop) → State → Heap → Prop} {l : Launch} (hok : am_Ok G TS NS cl) (hsh : am_Sh cl sh) {μ pc len tg nc : Nat} {lo : List (Option Value)} {st : List Value} {h : am_S} {Q : am_Q} {ix : Nat} (hc : am_code G μ pc = some (.getfield ix, len, tg))
    (hF : am_go (am_PW G sh TS NS cl EX l) (am_PW G sh TS NS cl EX l) (am_op G sh μ pc len tg nc lo st h (.getfield ix)) Q) : am_PW G sh TS NS cl EX l (μ, pc, nc, lo, st, h) Q := by
  intro M hM p e s m args below meth cd H locs A ls ad ca D hB hE hK hP hD hS hA hl Qc XC hQ hX
  obtain ⟨hdec, hln, htg⟩ := am_code_spec hM hc
  obtain ⟨hx, hb, hr, hml, hown, hts, hns, hlocks, hnoex⟩ := id hB
  have go : ∀ (pc' nc' : Nat) (st' : List Value), am_PW G sh TS NS cl EX l (μ, pc', nc', lo, st', h) Q → W p l e M.2.2.2.2.2 s m args below meth cd H locs nc' (6 * nc') (vx_MQ below Qc XC args s M.2.2.2.2.2.cells M.2.2.2.2.2.slots A) (F0 m pc' ls (st'.map (am_cv ad))) :=
    fun pc' nc' st' k => k M hM p e s m args below meth cd H locs A ls ad ca D hB hE hK hP hD hS hA hl Qc XC hQ hX
  obtain rfl : len = 3 := by simpa [am_ln] using hln
  dsimp only [am_op] at hF
  split at hF
  · rename_i ci k hfl
    obtain ⟨C, T, N, ty, hcl, hkN, hTC, hin, hty, hnm, hlink⟩ := hok.2.2.1 μ M ix ci k hM hfl
    split at hF
    · rename_i o r
      split at hF
      · rename_i cj fs hso
        split at hF
        · rename_i q hq
          obtain rfl : ci = cj := hF.1
          have hq2 : (fs.map (am_fv ad h.1))[k]? = some (am_fv ad h.1 (.inl q)) := by rw [List.getElem?_map, hq]; rfl
          rcases hlink with hlk | ⟨host, hlk⟩
          · exact va_get (D := D) (ci := ci) (C := C) (T := T) (N := N) hx hb hts hin hown hK hP o (am_W_get hso) hcl k hkN (hts _ hlk) (fun x9 h9 => by rw [hTC] at h9; exact h9) hq2 hdec (go _ _ _ (hF.2.1 trivial))
          · exact va_getN (D := D) (ci := ci) (C := C) (T := T) (N := N) (host := host) hx hb hts hin hown hK hP o (am_W_get hso) hcl k hkN (va_Nw.use rfl (hns _ hlk)) (fun x9 h9 => by rw [hTC] at h9; exact h9) hq2 hdec (go _ _ _ (hF.2.1 trivial))
        · rename_i q hq
          obtain rfl : ci = cj := hF.1
          have hq2 : (fs.map (am_fv ad h.1))[k]? = some (am_fv ad h.1 (.inr q)) := by rw [List.getElem?_map, hq]; rfl
          rcases hlink with hlk | ⟨host, hlk⟩
          · exact va_get (D := D) (ci := ci) (C := C) (T := T) (N := N) hx hb hts hin hown hK hP o (am_W_get hso) hcl k hkN (hts _ hlk) (fun x9 h9 => by rw [hTC] at h9; exact h9) hq2 hdec (go _ _ _ (hF.2.1 trivial))
          · exact va_getN (D := D) (ci := ci) (C := C) (T := T) (N := N) (host := host) hx hb hts hin hown hK hP o (am_W_get hso) hcl k hkN (va_Nw.use rfl (hns _ hlk)) (fun x9 h9 => by rw [hTC] at h9; exact h9) hq2 hdec (go _ _ _ (hF.2.1 trivial))
        · exact hF.elim
      · exact hF.elim
    · exact hF.elim
  · exact hF.elim

set_option maxHeartbeats 1000000 in
theorem am_r_putfield {G : am_G} {sh : List am_D} {TS NS : List Cond} {cl : List vw_C} {EX : (Nat → Prop) → State → Heap → Prop} {l : Launch} (hok : am_Ok G TS NS cl) (hsh : am_Sh cl sh) {μ pc len tg nc : Nat} {lo : List (Option Value)} {st : List Value} {h : am_S} {Q : am_Q} {ix : Nat} (hc : am_code G μ pc = some (.putfield ix, len, tg))
    (hF : am_go (am_PW G sh TS NS cl EX l) (am_PW G sh TS NS cl EX l) (am_op G sh μ pc len tg nc lo st h (.putfield ix)) Q) : am_PW G sh TS NS cl EX l (μ, pc, nc, lo, st, h) Q := by
  intro M hM p e s m args below meth cd H locs A ls ad ca D hB hE hK hP hD hS hA hl Qc XC hQ hX
  obtain ⟨hdec, hln, htg⟩ := am_code_spec hM hc
  obtain ⟨hx, hb, hr, hml, hown, hts, hns, hlocks, hnoex⟩ := id hB
  have go : ∀ (pc' nc' : Nat) (st' : List Value), am_PW G sh TS NS cl EX l (μ, pc', nc', lo, st', h) Q → W p l e M.2.2.2.2.2 s m args below meth cd H locs nc' (6 * nc') (vx_MQ below Qc XC args s M.2.2.2.2.2.cells M.2.2.2.2.2.slots A) (F0 m pc' ls (st'.map (am_cv ad))) :=
    fun pc' nc' st' k => k M hM p e s m args below meth cd H locs A ls ad ca D hB hE hK hP hD hS hA hl Qc XC hQ hX
  obtain rfl : len = 3 := by simpa [am_ln] using hln
  dsimp only [am_op] at hF
  split at hF
  · rename_i ci k hfl
    obtain ⟨C, T, N, ty, hcl, hkN, hTC, hin, hty, hnm, hlink⟩ := hok.2.2.1 μ M ix ci k hM hfl
    split at hF
    · rename_i x o r
      split at hF
      · rename_i cj fs hso
        split at hF
        · rename_i j hq
          obtain rfl : ci = cj := hF.1
          have hfs := (hsh.2 o ci fs hso C T N hcl).2 k j hq
          rcases hlink with hlk | ⟨host, hlk⟩
          · exact va_put (D := D) (ci := ci) (v := .int x) (ty := .int) (C := C) (T := T) (N := N) hx hb hts hin ty hty hnm hown hK hP hD hS o (am_W_get hso) hcl k hkN (hts _ hlk) (fun x9 h9 => by rw [hTC] at h9; exact h9) hfs.2 hfs.1 rfl rfl (by rw [List.length_map]; exact (List.getElem?_eq_some_iff.mp hq).1) hdec (fun H1 locs1 hP1 hD1 hS1 => hF.2.1 trivial M hM p e s m args below meth cd H1 locs1 A ls ad ca D hB hE hK (by rw [← am_W_num hsh hso hq]; exact hP1) (by rw [← am_W_num hsh hso hq]; exact hD1) hS1 hA hl Qc XC hQ hX)
          · exact va_putN (D := D) (ci := ci) (v := .int x) (ty := .int) (C := C) (T := T) (N := N) (host := host) hx hb hts hin ty hty hnm hown hK hP hD hS o (am_W_get hso) hcl k hkN (va_Nw.use rfl (hns _ hlk)) (fun x9 h9 => by rw [hTC] at h9; exact h9) hfs.2 hfs.1 rfl rfl (by rw [List.length_map]; exact (List.getElem?_eq_some_iff.mp hq).1) hdec (fun H1 locs1 hP1 hD1 hS1 => hF.2.1 trivial M hM p e s m args below meth cd H1 locs1 A ls ad ca D hB hE hK (by rw [← am_W_num hsh hso hq]; exact hP1) (by rw [← am_W_num hsh hso hq]; exact hD1) hS1 hA hl Qc XC hQ hX)
        · exact hF.elim
      · exact hF.elim
    · exact hF.elim
  · exact hF.elim

set_option maxHeartbeats 1000000 in
theorem am_r_iaload {G : am_G} {sh : List am_D} {TS NS : List Cond} {cl : List vw_C} {EX : (Nat → Prop) → State → Heap → Prop} {l : Launch} (hok : am_Ok G TS NS cl) (hsh : am_Sh cl sh) {μ pc len tg nc : Nat} {lo : List (Option Value)} {st : List Value} {h : am_S} {Q : am_Q} (hc : am_code G μ pc = some (.iaload, len, tg))
    (hF : am_go (am_PW G sh TS NS cl EX l) (am_PW G sh TS NS cl EX l) (am_op G sh μ pc len tg nc lo st h (.iaload)) Q) : am_PW G sh TS NS cl EX l (μ, pc, nc, lo, st, h) Q := by
  intro M hM p e s m args below meth cd H locs A ls ad ca D hB hE hK hP hD hS hA hl Qc XC hQ hX
  obtain ⟨hdec, hln, htg⟩ := am_code_spec hM hc
  obtain ⟨hx, hb, hr, hml, hown, hts, hns, hlocks, hnoex⟩ := id hB
  have go : ∀ (pc' nc' : Nat) (st' : List Value), am_PW G sh TS NS cl EX l (μ, pc', nc', lo, st', h) Q → W p l e M.2.2.2.2.2 s m args below meth cd H locs nc' (6 * nc') (vx_MQ below Qc XC args s M.2.2.2.2.2.cells M.2.2.2.2.2.slots A) (F0 m pc' ls (st'.map (am_cv ad))) :=
    fun pc' nc' st' k => k M hM p e s m args below meth cd H locs A ls ad ca D hB hE hK hP hD hS hA hl Qc XC hQ hX
  obtain rfl : len = 1 := by simpa [am_ln] using hln
  dsimp only [am_op] at hF
  split at hF
  · rename_i j o r
    split at hF
    · rename_i n hso
      exact va_iald hx hb hK hP o 0 (am_W_get hso) rfl hF.1 hdec (go _ _ _ (hF.2.1 trivial))
    · exact hF.elim
  · exact hF.elim

set_option maxHeartbeats 1000000 in
theorem am_r_baload {G : am_G} {sh : List am_D} {TS NS : List Cond} {cl : List vw_C} {EX : (Nat → Prop) → State → Heap → Prop} {l : Launch} (hok : am_Ok G TS NS cl) (hsh : am_Sh cl sh) {μ pc len tg nc : Nat} {lo : List (Option Value)} {st : List Value} {h : am_S} {Q : am_Q} (hc : am_code G μ pc = some (.baload, len, tg))
    (hF : am_go (am_PW G sh TS NS cl EX l) (am_PW G sh TS NS cl EX l) (am_op G sh μ pc len tg nc lo st h (.baload)) Q) : am_PW G sh TS NS cl EX l (μ, pc, nc, lo, st, h) Q := by
  intro M hM p e s m args below meth cd H locs A ls ad ca D hB hE hK hP hD hS hA hl Qc XC hQ hX
  obtain ⟨hdec, hln, htg⟩ := am_code_spec hM hc
  obtain ⟨hx, hb, hr, hml, hown, hts, hns, hlocks, hnoex⟩ := id hB
  have go : ∀ (pc' nc' : Nat) (st' : List Value), am_PW G sh TS NS cl EX l (μ, pc', nc', lo, st', h) Q → W p l e M.2.2.2.2.2 s m args below meth cd H locs nc' (6 * nc') (vx_MQ below Qc XC args s M.2.2.2.2.2.cells M.2.2.2.2.2.slots A) (F0 m pc' ls (st'.map (am_cv ad))) :=
    fun pc' nc' st' k => k M hM p e s m args below meth cd H locs A ls ad ca D hB hE hK hP hD hS hA hl Qc XC hQ hX
  obtain rfl : len = 1 := by simpa [am_ln] using hln
  dsimp only [am_op] at hF
  split at hF
  · rename_i j o r
    split at hF
    · rename_i n hso
      exact va_zald hx hb hK hP o 1 (am_W_get hso) rfl hF.1 hdec (go _ _ _ (hF.2.1 trivial))
    · exact hF.elim
  · exact hF.elim

set_option maxHeartbeats 1000000 in
theorem am_r_iastore {G : am_G} {sh : List am_D} {TS NS : List Cond} {cl : List vw_C} {EX : (Nat → Prop) → State → Heap → Prop} {l : Launch} (hok : am_Ok G TS NS cl) (hsh : am_Sh cl sh) {μ pc len tg nc : Nat} {lo : List (Option Value)} {st : List Value} {h : am_S} {Q : am_Q} (hc : am_code G μ pc = some (.iastore, len, tg))
    (hF : am_go (am_PW G sh TS NS cl EX l) (am_PW G sh TS NS cl EX l) (am_op G sh μ pc len tg nc lo st h (.iastore)) Q) : am_PW G sh TS NS cl EX l (μ, pc, nc, lo, st, h) Q := by
  intro M hM p e s m args below meth cd H locs A ls ad ca D hB hE hK hP hD hS hA hl Qc XC hQ hX
  obtain ⟨hdec, hln, htg⟩ := am_code_spec hM hc
  obtain ⟨hx, hb, hr, hml, hown, hts, hns, hlocks, hnoex⟩ := id hB
  have go : ∀ (pc' nc' : Nat) (st' : List Value), am_PW G sh TS NS cl EX l (μ, pc', nc', lo, st', h) Q → W p l e M.2.2.2.2.2 s m args below meth cd H locs nc' (6 * nc') (vx_MQ below Qc XC args s M.2.2.2.2.2.cells M.2.2.2.2.2.slots A) (F0 m pc' ls (st'.map (am_cv ad))) :=
    fun pc' nc' st' k => k M hM p e s m args below meth cd H locs A ls ad ca D hB hE hK hP hD hS hA hl Qc XC hQ hX
  obtain rfl : len = 1 := by simpa [am_ln] using hln
  dsimp only [am_op] at hF
  split at hF
  · rename_i x j o r
    split at hF
    · rename_i n hso
      exact va_iast hx hb hK hP hD hS o 0 (am_W_get hso) rfl hF.1 hdec (fun H1 locs1 hP1 hD1 hS1 => hF.2.1 trivial M hM p e s m args below meth cd H1 locs1 A ls ad ca D hB hE hK (by rw [← am_W_row (h := h) hso]; exact hP1) (by rw [← am_W_row (h := h) hso]; exact hD1) hS1 hA hl Qc XC hQ hX)
    · exact hF.elim
  · exact hF.elim

set_option maxHeartbeats 1000000 in
theorem am_r_bastore {G : am_G} {sh : List am_D} {TS NS : List Cond} {cl : List vw_C} {EX : (Nat → Prop) → State → Heap → Prop} {l : Launch} (hok : am_Ok G TS NS cl) (hsh : am_Sh cl sh) {μ pc len tg nc : Nat} {lo : List (Option Value)} {st : List Value} {h : am_S} {Q : am_Q} (hc : am_code G μ pc = some (.bastore, len, tg))
    (hF : am_go (am_PW G sh TS NS cl EX l) (am_PW G sh TS NS cl EX l) (am_op G sh μ pc len tg nc lo st h (.bastore)) Q) : am_PW G sh TS NS cl EX l (μ, pc, nc, lo, st, h) Q := by
  intro M hM p e s m args below meth cd H locs A ls ad ca D hB hE hK hP hD hS hA hl Qc XC hQ hX
  obtain ⟨hdec, hln, htg⟩ := am_code_spec hM hc
  obtain ⟨hx, hb, hr, hml, hown, hts, hns, hlocks, hnoex⟩ := id hB
  have go : ∀ (pc' nc' : Nat) (st' : List Value), am_PW G sh TS NS cl EX l (μ, pc', nc', lo, st', h) Q → W p l e M.2.2.2.2.2 s m args below meth cd H locs nc' (6 * nc') (vx_MQ below Qc XC args s M.2.2.2.2.2.cells M.2.2.2.2.2.slots A) (F0 m pc' ls (st'.map (am_cv ad))) :=
    fun pc' nc' st' k => k M hM p e s m args below meth cd H locs A ls ad ca D hB hE hK hP hD hS hA hl Qc XC hQ hX
  obtain rfl : len = 1 := by simpa [am_ln] using hln
  dsimp only [am_op] at hF
  split at hF
  · rename_i x j o r
    split at hF
    · rename_i n hso
      have hnar : vp_nar .boolean x = x := by rcases hF.1.2 with rfl | rfl <;> decide
      refine va_zast hx hb hK hP hD hS o 1 (am_W_get hso) rfl hF.1.1 hdec (fun H1 locs1 hP1 hD1 hS1 => ?_)
      rw [hnar] at hP1 hD1
      exact hF.2.1 trivial M hM p e s m args below meth cd H1 locs1 A ls ad ca D hB hE hK (by rw [← am_W_row (h := h) hso]; exact hP1) (by rw [← am_W_row (h := h) hso]; exact hD1) hS1 hA hl Qc XC hQ hX
    · exact hF.elim
  · exact hF.elim

set_option maxHeartbeats 1000000 in
theorem am_r_arraylength {G : am_G} {sh : List am_D} {TS NS : List Cond} {cl : List vw_C} {EX : (Nat → Prop) → State → Heap → Prop} {l : Launch} (hok : am_Ok G TS NS cl) (hsh : am_Sh cl sh) {μ pc len tg nc : Nat} {lo : List (Option Value)} {st : List Value} {h : am_S} {Q : am_Q} (hc : am_code G μ pc = some (.arraylength, len, tg))
    (hF : am_go (am_PW G sh TS NS cl EX l) (am_PW G sh TS NS cl EX l) (am_op G sh μ pc len tg nc lo st h (.arraylength)) Q) : am_PW G sh TS NS cl EX l (μ, pc, nc, lo, st, h) Q := by
  intro M hM p e s m args below meth cd H locs A ls ad ca D hB hE hK hP hD hS hA hl Qc XC hQ hX
  obtain ⟨hdec, hln, htg⟩ := am_code_spec hM hc
  obtain ⟨hx, hb, hr, hml, hown, hts, hns, hlocks, hnoex⟩ := id hB
  have go : ∀ (pc' nc' : Nat) (st' : List Value), am_PW G sh TS NS cl EX l (μ, pc', nc', lo, st', h) Q → W p l e M.2.2.2.2.2 s m args below meth cd H locs nc' (6 * nc') (vx_MQ below Qc XC args s M.2.2.2.2.2.cells M.2.2.2.2.2.slots A) (F0 m pc' ls (st'.map (am_cv ad))) :=
    fun pc' nc' st' k => k M hM p e s m args below meth cd H locs A ls ad ca D hB hE hK hP hD hS hA hl Qc XC hQ hX
  obtain rfl : len = 1 := by simpa [am_ln] using hln
  dsimp only [am_op] at hF
  split at hF
  · rename_i o r
    split at hF
    · rename_i n hso
      exact va_alen hx hb hK hP o 0 (am_W_get hso) rfl rfl hdec (go _ _ _ (hF.2.1 trivial))
    · exact hF.elim
  · exact hF.elim

set_option maxHeartbeats 1000000 in
theorem am_r_ireturn {G : am_G} {sh : List am_D} {TS NS : List Cond} {cl : List vw_C} {EX : (Nat → Prop) → State → Heap → Prop} {l : Launch} (hok : am_Ok G TS NS cl) (hsh : am_Sh cl sh) {μ pc len tg nc : Nat} {lo : List (Option Value)} {st : List Value} {h : am_S} {Q : am_Q} (hc : am_code G μ pc = some (.ireturn, len, tg))
    (hF : am_go (am_PW G sh TS NS cl EX l) (am_PW G sh TS NS cl EX l) (am_op G sh μ pc len tg nc lo st h (.ireturn)) Q) : am_PW G sh TS NS cl EX l (μ, pc, nc, lo, st, h) Q := by
  intro M hM p e s m args below meth cd H locs A ls ad ca D hB hE hK hP hD hS hA hl Qc XC hQ hX
  obtain ⟨hdec, hln, htg⟩ := am_code_spec hM hc
  obtain ⟨hx, hb, hr, hml, hown, hts, hns, hlocks, hnoex⟩ := id hB
  have go : ∀ (pc' nc' : Nat) (st' : List Value), am_PW G sh TS NS cl EX l (μ, pc', nc', lo, st', h) Q → W p l e M.2.2.2.2.2 s m args below meth cd H locs nc' (6 * nc') (vx_MQ below Qc XC args s M.2.2.2.2.2.cells M.2.2.2.2.2.slots A) (F0 m pc' ls (st'.map (am_cv ad))) :=
    fun pc' nc' st' k => k M hM p e s m args below meth cd H locs A ls ad ca D hB hE hK hP hD hS hA hl Qc XC hQ hX
  obtain rfl : len = 1 := by simpa [am_ln] using hln
  dsimp only [am_op] at hF
  split at hF
  · rename_i x
    obtain ⟨⟨hz, hn⟩, hq⟩ := hF
    rw [am_nc_of hM] at hn
    rw [am_rt_of hM] at hz
    have hsl := (hok.2.1 μ M hM).2.2.2.2
    refine vx_ret (W.widen (k := M.2.2.2.2.2.cells) (n := M.2.2.2.2.2.slots) hn (by rw [hsl]; exact Nat.mul_le_mul_left 6 hn) ?_)
    rcases hz with hz | ⟨hz, hx01⟩
    · exact W.iret hx hb (hr.trans (am_rk_1 hz)) (fun t ht hW => hQ h (some (.int x)) t hq hW.alike (by rw [ht]; exact hP) hD (hS.F ht)) hS.2.2 hdec hlocks
    · have hnar : narrow .boolean (.int x) = .int x := by rcases hx01 with rfl | rfl <;> decide
      exact W.zret (ty := .boolean) hx hb (hr.trans (am_rk_2 hz)) hnar (fun t ht hW => hQ h (some (.int x)) t hq hW.alike (by rw [ht]; exact hP) hD (hS.F ht)) hS.2.2 hdec hlocks
  · exact hF.elim

set_option maxHeartbeats 1000000 in
theorem am_r_return {G : am_G} {sh : List am_D} {TS NS : List Cond} {cl : List vw_C} {EX : (Nat → Prop) → State → Heap → Prop} {l : Launch} (hok : am_Ok G TS NS cl) (hsh : am_Sh cl sh) {μ pc len tg nc : Nat} {lo : List (Option Value)} {st : List Value} {h : am_S} {Q : am_Q} (hc : am_code G μ pc = some (.return_, len, tg))
    (hF : am_go (am_PW G sh TS NS cl EX l) (am_PW G sh TS NS cl EX l) (am_op G sh μ pc len tg nc lo st h (.return_)) Q) : am_PW G sh TS NS cl EX l (μ, pc, nc, lo, st, h) Q := by
  intro M hM p e s m args below meth cd H locs A ls ad ca D hB hE hK hP hD hS hA hl Qc XC hQ hX
  obtain ⟨hdec, hln, htg⟩ := am_code_spec hM hc
  obtain ⟨hx, hb, hr, hml, hown, hts, hns, hlocks, hnoex⟩ := id hB
  have go : ∀ (pc' nc' : Nat) (st' : List Value), am_PW G sh TS NS cl EX l (μ, pc', nc', lo, st', h) Q → W p l e M.2.2.2.2.2 s m args below meth cd H locs nc' (6 * nc') (vx_MQ below Qc XC args s M.2.2.2.2.2.cells M.2.2.2.2.2.slots A) (F0 m pc' ls (st'.map (am_cv ad))) :=
    fun pc' nc' st' k => k M hM p e s m args below meth cd H locs A ls ad ca D hB hE hK hP hD hS hA hl Qc XC hQ hX
  obtain rfl : len = 1 := by simpa [am_ln] using hln
  dsimp only [am_op] at hF
  split at hF
  · obtain ⟨⟨hz, hn⟩, hq⟩ := hF
    rw [am_nc_of hM] at hn
    rw [am_rt_of hM] at hz
    have hsl := (hok.2.1 μ M hM).2.2.2.2
    refine vx_ret (W.widen (k := M.2.2.2.2.2.cells) (n := M.2.2.2.2.2.slots) hn (by rw [hsl]; exact Nat.mul_le_mul_left 6 hn) ?_)
    exact W.vret hx hb (hr.trans (am_rk_0 hz)) (fun t ht hW => hQ h none t hq hW.alike (by rw [ht]; exact hP) hD (hS.F ht)) hS.2.2 hdec hlocks
  · exact hF.elim

set_option maxHeartbeats 1000000 in
theorem am_r_new {G : am_G} {sh : List am_D} {TS NS : List Cond} {cl : List vw_C} {EX : (Nat → Prop) → State → Heap → Prop} {l : Launch} (hok : am_Ok G TS NS cl) (hsh : am_Sh cl sh) {μ pc len tg nc : Nat} {lo : List (Option Value)} {st : List Value} {h : am_S} {Q : am_Q} (hth : am_TH G TS NS EX l) {ix : Nat} (hc : am_code G μ pc = some (.new ix, len, tg))
    (hF : am_go (am_PW G sh TS NS cl EX l) (am_PW G sh TS NS cl EX l) (am_op G sh μ pc len tg nc lo st h (.new ix)) Q) : am_PW G sh TS NS cl EX l (μ, pc, nc, lo, st, h) Q := by
  intro M hM p e s m args below meth cd H locs A ls ad ca D hB hE hK hP hD hS hA hl Qc XC hQ hX
  obtain ⟨hdec, hln, htg⟩ := am_code_spec hM hc
  obtain ⟨hx, hb, hr, hml, hown, hts, hns, hlocks, hnoex⟩ := id hB
  have go : ∀ (pc' nc' : Nat) (st' : List Value), am_PW G sh TS NS cl EX l (μ, pc', nc', lo, st', h) Q → W p l e M.2.2.2.2.2 s m args below meth cd H locs nc' (6 * nc') (vx_MQ below Qc XC args s M.2.2.2.2.2.cells M.2.2.2.2.2.slots A) (F0 m pc' ls (st'.map (am_cv ad))) :=
    fun pc' nc' st' k => k M hM p e s m args below meth cd H locs A ls ad ca D hB hE hK hP hD hS hA hl Qc XC hQ hX
  obtain rfl : len = 3 := by simpa [am_ln] using hln
  dsimp only [am_op] at hF
  split at hF
  · rename_i E hE9
    obtain ⟨⟨hn, hct⟩, hq⟩ := hF
    rw [am_nc_of hM] at hn
    refine hth μ M pc E hM hE9 p e s m args below meth cd H locs A ls _ nc Qc XC hB hE hS hl.1 (by rw [am_ct_map]; exact hct) hn (fun t ha hz hk => hX h E t hq ha (hP.kept (fun k q hkq => hk q.1 (hP k q hkq).lt)) hD ⟨Nat.le_trans hS.1 hz, fun q h1 h2 => by rw [hk q (Nat.lt_of_lt_of_le h1 hS.1)]; exact hS.2.1 q h1 h2⟩)
  · exact hF.elim

theorem am_sw_get {f : am_C → Prop} {mk : Nat → am_C} {pc : Nat} {x lo : Int} : ∀ {offs : List Int} {j : Nat}, am_all f (am_sw mk pc x lo j offs) → ∀ {i : Nat} {off : Int}, offs[i]? = some off → x = lo + ((j + i : Nat) : Int) → f (mk ((pc : Int) + off).toNat)
  | [], _, _, _, _, h, _ => by simp at h
  | o :: r, j, ha, 0, off, h, hx => by
    have : o = off := by simpa using h
    subst this
    exact ha.1 hx
  | o :: r, j, ha, i + 1, off, h, hx => am_sw_get (j := j + 1) ha.2 (i := i) (by simpa using h) (by rw [hx]; congr 2; omega)
theorem am_swo_get {pc : Nat} : ∀ {offs : List Int}, am_swo pc offs = true → ∀ {i : Nat} {off : Int}, offs[i]? = some off → 0 ≤ (pc : Int) + off
  | [], _, _, _, h => by simp at h
  | o :: r, ha, 0, off, h => by
    have : o = off := by simpa using h
    subst this
    simp only [am_swo, Bool.and_eq_true, decide_eq_true_eq] at ha
    exact ha.1
  | o :: r, ha, i + 1, off, h => by
    simp only [am_swo, Bool.and_eq_true, decide_eq_true_eq] at ha
    exact am_swo_get ha.2 (i := i) (by simpa using h)

set_option maxHeartbeats 1000000 in
theorem am_r_tableswitch {G : am_G} {sh : List am_D} {TS NS : List Cond} {cl : List vw_C} {EX : (Nat → Prop) → State → Heap → Prop} {l : Launch} (hok : am_Ok G TS NS cl) (hsh : am_Sh cl sh) {μ pc len tg nc : Nat} {lo : List (Option Value)} {st : List Value} {h : am_S} {Q : am_Q} {dflt lw up : Int} {offs : Array Int} (hc : am_code G μ pc = some (.tableswitch dflt lw up offs, len, tg))
    (hF : am_go (am_PW G sh TS NS cl EX l) (am_PW G sh TS NS cl EX l) (am_op G sh μ pc len tg nc lo st h (.tableswitch dflt lw up offs)) Q) : am_PW G sh TS NS cl EX l (μ, pc, nc, lo, st, h) Q := by
  intro M hM p e s m args below meth cd H locs A ls ad ca D hB hE hK hP hD hS hA hl Qc XC hQ hX
  obtain ⟨hdec, hln, htg⟩ := am_code_spec hM hc
  obtain ⟨hx, hb, hr, hml, hown, hts, hns, hlocks, hnoex⟩ := id hB
  have go : ∀ (pc' nc' : Nat) (st' : List Value), am_PW G sh TS NS cl EX l (μ, pc', nc', lo, st', h) Q → W p l e M.2.2.2.2.2 s m args below meth cd H locs nc' (6 * nc') (vx_MQ below Qc XC args s M.2.2.2.2.2.cells M.2.2.2.2.2.slots A) (F0 m pc' ls (st'.map (am_cv ad))) :=
    fun pc' nc' st' k => k M hM p e s m args below meth cd H locs A ls ad ca D hB hE hK hP hD hS hA hl Qc XC hQ hX
  dsimp only [am_op] at hF
  split at hF
  · rename_i x r
    obtain ⟨⟨hsz, hof⟩, hd, hrest⟩ := hF
    by_cases hout : x.toInt < lw ∨ up < x.toInt
    · exact lv_tableOut hx hb hdec hout (am_nn_spec htg) (go _ _ _ (hd hout))
    · have h1 : ¬ x.toInt < lw := fun q => hout (Or.inl q)
      have h2 : ¬ up < x.toInt := fun q => hout (Or.inr q)
      have hlt : (x.toInt - lw).toNat < offs.size := by omega
      have hget : offs[(x.toInt - lw).toNat]? = some offs[(x.toInt - lw).toNat] := Array.getElem?_eq_getElem hlt
      have hgl : offs.toList[(x.toInt - lw).toNat]? = some offs[(x.toInt - lw).toNat] := by rw [Array.getElem?_toList]; exact hget
      have hnn := am_swo_get hof hgl
      have hgo := am_sw_get (j := 0) hrest hgl (by omega)
      exact lv_tableIn hx hb hdec h1 h2 hget (Int.toNat_of_nonneg hnn).symm (go _ _ _ hgo)
  · exact hF.elim

theorem am_ctr {ad : Nat → Nat} {r : List Value} {k n : Nat} (h : am_ct r ≤ 8) (hk : 8 + k ≤ n) : ((r.map (am_cv ad)).map fun v => v.category).sum + k ≤ n := by
  rw [am_ct_map]
  omega
theorem am_ofW {l : Launch} {y : MethodName} {ws ws' : List Cond} {rm : Room} {Pc : Array Value → State → Prop} {Qc : Array Value → State → Outcome → State → Prop} {XC : String → State → State → Prop} {mc ms : Nat} {free : Addr → Prop} {cc : ByteArray} {maxL : Nat} {ret : Option FieldType}
    (hy : plainFor y = true) (hw : ws = Cond.code y cc maxL ret :: ws')
    (body : ∀ p e s m args below meth c s₁, BodyLoose p l y (headSpec ws rm) cc maxL ret e s m args below meth c s₁ → c.maxLocals = maxL → (∀ x ∈ c.exceptionTable.toList, False) → Pc args s →
      W p l e (headSpec ws rm).room s m args below meth c s.heap [] 0 0 (vx_MQ below Qc XC args s mc ms free) (entryFrame m args maxL)) : vx_Met l y ws rm Pc Qc XC mc ms free := by
  refine MetFree.of_bodySF (code := cc) (maxLocals := maxL) (ret := ret) hy ?_ ?_
  · intro args s m h hn
    obtain ⟨meth, c, h1, h2, h3, h4, h5, h6, -, -⟩ := Cond.code_spec hn (atoms_spec (ws := ws) h _ (by rw [hw]; exact List.mem_cons_self))
    exact ⟨meth, c, h1, h2, h3, h4, h5, h6⟩
  · intro p e s m args below meth c s₁ B hml hP _
    have hh0 : s₁.heap = s.heap := by rw [B.state]; rfl
    have ht : ∀ x ∈ c.exceptionTable.toList, False := by
      obtain ⟨meth9, c9, h1, h2, -, -, -, -, h7, -⟩ := Cond.code_spec B.named (atoms_spec (ws := ws) B.pre _ (by rw [hw]; exact List.mem_cons_self))
      cases Option.some.inj (h1.symm.trans B.method)
      cases Option.some.inj (h2.symm.trans (Stand.of_body B).code)
      intro x hx
      rw [Array.isEmpty_iff.mp h7] at hx
      cases hx
    obtain ⟨t, a1, o, b1, b2, b3⟩ := body p e s m args below meth c s₁ B hml ht hP s₁ hh0 (Stand.of_body B)
    exact ⟨t, o, a1, b1, b2, b3⟩
/-- a method's contract out of its entry -/
theorem am_met {G : am_G} {sh : List am_D} {TS NS : List Cond} {cl : List vw_C} {EX : (Nat → Prop) → State → Heap → Prop} {l : Launch} (hok : am_Ok G TS NS cl) (hEX : am_EX EX) {μ : Nat} {M : am_M} (hM : am_m G μ = some M) {av : List Value} {h : am_S} {Q : am_Q} (hlen : av.length ≤ M.2.2.1) (hcat : ∀ v ∈ av, v.category = 1) (hPW : am_PW G sh TS NS cl EX l (μ, 0, 0, am_in M.2.2.1 av, [], h) Q) (ad : Nat → Nat) (ca : Nat → ClassId) (D : va_G) (sz : Nat) :
    vx_Met l M.1 (Cond.code M.1 M.2.1 M.2.2.1 M.2.2.2.1 :: TS) M.2.2.2.2.2 (va_Pc (av.map (am_cv ad)) (fun U => U.heap.size = sz ∧ va_P D cl (am_W sh ad ca h) U.heap ∧ va_K D cl (am_ty ca) U ∧ va_D (fun _ => True) (am_W sh ad ca h) ∧ (∀ w ∈ NS, va_Nw w U) ∧ EX (va_A (am_W sh ad ca h) sz) U U.heap))
      (fun _ st oc t => (∃ (h' : am_S) (r : Option Value), oc = .returned (r.map (am_cv ad)) ∧ Q h' (.inl r) ∧ va_P D cl (am_W sh ad ca h') t.heap ∧ va_D (va_A (am_W sh ad ca h) sz) (am_W sh ad ca h')) ∧ va_F (va_A (am_W sh ad ca h) sz) st t)
      (fun E st t => ∃ h' : am_S, Q h' (.inr E) ∧ va_P D cl (am_W sh ad ca h') t.heap ∧ va_D (va_A (am_W sh ad ca h) sz) (am_W sh ad ca h') ∧ va_F (va_A (am_W sh ad ca h) sz) st t)
      M.2.2.2.2.2.cells M.2.2.2.2.2.slots (va_A (am_W sh ad ca h) sz) := by
  refine am_ofW (cc := M.2.1) (maxL := M.2.2.1) (ret := M.2.2.2.1) (hok.2.1 μ M hM).1 rfl ?_
  intro p e s m args below meth cd s₁ B hml hnoex hv
  obtain ⟨rfl, hsz, hP, hK, hD0, hns, hE⟩ := hv
  have hts := atoms_spec (ws := Cond.code M.1 M.2.1 M.2.2.1 M.2.2.2.1 :: TS) B.pre
  have hcat' : ∀ v ∈ av.map (am_cv ad), v.category = 1 := fun v hv => by
    obtain ⟨w, hw, rfl⟩ := List.mem_map.mp hv
    rw [am_cv_cat]
    exact hcat w hw
  have hlen' : (lg_sl (av.map (am_cv ad))).length ≤ M.2.2.1 := by rw [am_sl1 hcat', List.length_map]; exact hlen
  have hl0 := lv_entry (av.map (am_cv ad)) (n := M.2.2.1) hlen'
  rw [lg_entry_eq]
  generalize (lg_sl (av.map (am_cv ad)) ++ List.replicate (M.2.2.1 - (lg_sl (av.map (am_cv ad))).length) Slot.unset).toArray = ls at hl0 ⊢
  have hl : am_lo ad ls M.2.2.1 (am_in M.2.2.1 av) := ⟨hl0.1, hl0.2.1, fun i v hi => by
    have h1 := am_in_get hi
    have h2 := am_args1 (k := 0) (i := i) (v := am_cv ad v) hcat' (by rw [List.getElem?_map, h1]; rfl)
    rw [Nat.zero_add] at h2
    exact hl0.2.2 _ h2⟩
  refine hPW M hM p e s m _ below meth cd s.heap [] (va_A (am_W sh ad ca h) sz) ls ad ca D ⟨B.exec, B.bytes, B.returns, hml, findClass_of_methodNamed B.named, fun w hw => hts w (List.mem_cons_of_mem _ hw), hns, B.notSynchronized, hnoex⟩ hE hK hP hD0.self va_S.rf (fun q hq => Or.inr (by rw [← hsz]; exact hq)) hl _ _ ?_ ?_
  · intro h' r t hq ha hP' hD' hF
    exact ⟨⟨h', r, rfl, hq, hP', hD'⟩, hF⟩
  · intro h' E t hq ha hP' hD' hF
    exact ⟨h', hq, hP', hD', hF⟩
/-- behind a call -/
theorem am_back {G : am_G} {sh : List am_D} {TS NS : List Cond} {cl : List vw_C} {EX : (Nat → Prop) → State → Heap → Prop} {l : Launch} (hok : am_Ok G TS NS cl) {μ μ' : Nat} {M M' : am_M} (hM : am_m G μ = some M) (hM' : am_m G μ' = some M') {pc nc : Nat} {lo : List (Option Value)} {rest : List Value} {h : am_S} {Q : am_Q}
    {p : Program} {e : Env} {s : State} {m : MethodId} {args : Array Value} {below : List Frame} {meth : Method} {cd : Code} {H : Heap} {locs : List Loc} {A : Nat → Prop} {ls : Array Slot} {ad : Nat → Nat} {ca : Nat → ClassId} {D : va_G}
    (hB : am_B TS NS M p s m args meth cd) (hE : EX A s s.heap) (hK : va_K D cl (am_ty ca) s) (hD : va_D A (am_W sh ad ca h)) (hS : va_S A s.heap H locs) (hA : ∀ q, s.heap.size ≤ q → A q) (hl : am_lo ad ls M.2.2.1 lo) {Qc : Array Value → State → Outcome → State → Prop} {XC : String → State → State → Prop}
    (hQ : ∀ (h' : am_S) (r : Option Value) (t : State), Q h' (.inl r) → s.vm.Alike t.vm → va_P D cl (am_W sh ad ca h') t.heap → va_D A (am_W sh ad ca h') → va_F A s t → Qc args s (.returned (r.map (am_cv ad))) t)
    (hX : ∀ (h' : am_S) (E : String) (t : State), Q h' (.inr E) → s.vm.Alike t.vm → va_P D cl (am_W sh ad ca h') t.heap → va_D A (am_W sh ad ca h') → va_F A s t → XC E s t)
    (hn : nc + M'.2.2.2.2.2.cells ≤ M.2.2.2.2.2.cells) {st0 : List Value} {a : Array Value}
    (hr : vx_Run p l e M.2.2.2.2.2 s m args below meth cd H locs nc (6 * nc) M'.2.2.2.2.2.cells M'.2.2.2.2.2.slots (F0 m pc ls st0) (rest.map (am_cv ad))
      ((fun (_ : Array Value) st oc t => (∃ (h' : am_S) (r : Option Value), oc = .returned (r.map (am_cv ad)) ∧ am_k Q (fun h' r => am_PW G sh TS NS cl EX l (μ, pc + 3, nc + am_nc G μ', lo, r.toList ++ rest, h') Q) h' (.inl r) ∧ va_P D cl (am_W sh ad ca h') t.heap ∧ va_D (va_A (am_W sh ad ca h) H.size) (am_W sh ad ca h')) ∧ va_F (va_A (am_W sh ad ca h) H.size) st t) a)
      (fun E st t => ∃ h' : am_S, am_k Q (fun h' r => am_PW G sh TS NS cl EX l (μ, pc + 3, nc + am_nc G μ', lo, r.toList ++ rest, h') Q) h' (.inr E) ∧ va_P D cl (am_W sh ad ca h') t.heap ∧ va_D (va_A (am_W sh ad ca h) H.size) (am_W sh ad ca h') ∧ va_F (va_A (am_W sh ad ca h) H.size) st t)
      (va_A (am_W sh ad ca h) H.size)) :
    W p l e M.2.2.2.2.2 s m args below meth cd H locs nc (6 * nc) (vx_MQ below Qc XC args s M.2.2.2.2.2.cells M.2.2.2.2.2.slots A) (F0 m pc ls st0) := by
  have hAA : ∀ q, va_A (am_W sh ad ca h) H.size q → A q := fun q hq => by
    rcases hq with ⟨k, e9, hk⟩ | hq
    · exact hD.2 k (q, e9) hk
    · exact hA q (Nat.le_trans hS.1 hq)
  have hsl := (hok.2.1 μ M hM).2.2.2.2
  have hsl' := (hok.2.1 μ' M' hM').2.2.2.2
  intro T hT X
  rcases hr T hT X with ⟨v, st₀, t, T', L, h0, X', hL, e1, e2, ⟨⟨h', r, hv, hPW, hP', hD'⟩, hF⟩, st⟩ | ⟨q, st₀, t, T', L, E, ce, h0, X', hL, e1, e2, ⟨h', hq, hP', hD', hF⟩, hce, hcv, hcl, st⟩
  · cases hv
    obtain ⟨k1, k2, k3⟩ := vx_keep h0 e1 hS (fun q _ z => hAA q z) hAA hL hF
    have X2 : Stand p l e M.2.2.2.2.2 s m args below meth cd T' (locs ++ L) (nc + am_nc G μ') (6 * (nc + am_nc G μ')) := by
      rw [am_nc_of hM', Nat.mul_add, ← hsl']
      exact X'
    obtain ⟨t2, a1, b1⟩ := hPW M hM p e s m args below meth cd T'.heap (locs ++ L) A ls ad ca D hB hE hK (by rw [e1]; exact hP') (hD'.weaken (fun _ _ _ z => hAA _ z)) k3 hA hl Qc XC hQ hX T' rfl X2
    refine ⟨t2, st t2 ?_, b1⟩
    have hst : (r.map (am_cv ad)).toList ++ rest.map (am_cv ad) = (r.toList ++ rest).map (am_cv ad) := by cases r <;> rfl
    show Steps p.tables e below (T'.setTop { (F0 m pc ls st0) with pc := pc + 3, stack := (r.map (am_cv ad)).toList ++ rest.map (am_cv ad) }) t2
    rw [hst]
    exact a1
  · obtain ⟨k1, k2, k3⟩ := vx_keep h0 e1 hS (fun q _ z => hAA q z) hAA hL hF
    obtain ⟨t2, a1, b1⟩ := vx_out (Qc := Qc) (XC := XC) (free := A) (pc := pc) (ls := ls) (rest := rest.map (am_cv ad)) (mc := M.2.2.2.2.2.cells) (ms := M.2.2.2.2.2.slots) (fun x hx => (hB.2.2.2.2.2.2.2.2 x hx).elim) hB.2.2.2.2.2.2.2.1 (show T'.heap[q]? = some ce by rw [e1]; exact hce) hcv hcl
      (fun t9 ht9 ha9 => hX h' E t9 hq ha9 (by rw [ht9, e1]; exact hP') (hD'.weaken (fun _ _ _ z => hAA _ z)) (k3.F ht9)) k3.2.2 hn (by rw [hsl, hsl', ← Nat.mul_add]; exact Nat.mul_le_mul_left 6 hn) T' rfl X'
    exact ⟨t2, st.trans a1, b1⟩
theorem am_pre {G : am_G} {sh : List am_D} {TS NS : List Cond} {cl : List vw_C} {EX : (Nat → Prop) → State → Heap → Prop} {l : Launch} (hEX : am_EX EX) {M' : am_M} {av : List Value} {h : am_S} {s : State} {H : Heap} {locs : List Loc} {A : Nat → Prop} {ad : Nat → Nat} {ca : Nat → ClassId} {D : va_G} (hNS : ∀ w ∈ NS, ∀ {u U : State}, u.WarmedH U.vm → va_Nw w u → va_Nw w U)
    (hE : EX A s s.heap) (hns : ∀ w ∈ NS, va_Nw w s) (hK : va_K D cl (am_ty ca) s) (hP : va_P D cl (am_W sh ad ca h) H) (hD : va_D A (am_W sh ad ca h)) (hS : va_S A s.heap H locs) (hA : ∀ q, s.heap.size ≤ q → A q) :
    PreS s H (va_Pc (av.map (am_cv ad)) (fun U => U.heap.size = H.size ∧ va_P D cl (am_W sh ad ca h) U.heap ∧ va_K D cl (am_ty ca) U ∧ va_D (fun _ => True) (am_W sh ad ca h) ∧ (∀ w ∈ NS, va_Nw w U) ∧ EX (va_A (am_W sh ad ca h) H.size) U U.heap)) (av.map (am_cv ad)) := by
  have hAA : ∀ q, va_A (am_W sh ad ca h) H.size q → A q := fun q hq => by
    rcases hq with ⟨k, e9, hk⟩ | hq
    · exact hD.2 k (q, e9) hk
    · exact hA q (Nat.le_trans hS.1 hq)
  refine ⟨fun a U g mk q => ?_, fun U hU hW => ⟨rfl, by rw [hU], by rw [hU]; exact hP, va_K.moved hW.alike hK, hD.weaken (fun _ _ _ _ => trivial), fun w hw => hNS w hw hW (hns w hw), hEX A _ s U s.heap U.heap hE hW (fun a h1 h2 => by rw [hU]; exact hS.2.1 a h1 h2) hAA⟩⟩
  obtain ⟨q0, q1, q2, q3, q4, q5, q6⟩ := q
  exact ⟨q0, q1, q2, va_K.moved (u := U) (U := U.calling g mk a) (Vm.Alike.refl U.vm) q3, q4, fun w hw => hNS w hw (u := U) (U := U.calling g mk a) (State.WarmedH.refl U) (q5 w hw), hEX _ _ U (U.calling g mk a) U.heap U.heap q6 (State.WarmedH.refl U) (fun _ _ _ => rfl) (fun _ z => z)⟩

set_option maxHeartbeats 1000000 in
theorem am_r_invokevirtual {G : am_G} {sh : List am_D} {TS NS : List Cond} {cl : List vw_C} {EX : (Nat → Prop) → State → Heap → Prop} {l : Launch} (hok : am_Ok G TS NS cl) (hsh : am_Sh cl sh) {μ pc len tg nc : Nat} {lo : List (Option Value)} {st : List Value} {h : am_S} {Q : am_Q} (hEX : am_EX EX) (hNS : ∀ w ∈ NS, ∀ {u U : State}, u.WarmedH U.vm → va_Nw w u → va_Nw w U) {ix : Nat} (hc : am_code G μ pc = some (.invokevirtual ix, len, tg))
    (hF : am_go (am_PW G sh TS NS cl EX l) (am_PW G sh TS NS cl EX l) (am_op G sh μ pc len tg nc lo st h (.invokevirtual ix)) Q) : am_PW G sh TS NS cl EX l (μ, pc, nc, lo, st, h) Q := by
  intro M hM p e s m args below meth cd H locs A ls ad ca D hB hE hK hP hD hS hA hl Qc XC hQ hX
  obtain ⟨hdec, hln, htg⟩ := am_code_spec hM hc
  obtain ⟨hx, hb, hr, hml, hown, hts, hns, hlocks, hnoex⟩ := id hB
  have go : ∀ (pc' nc' : Nat) (st' : List Value), am_PW G sh TS NS cl EX l (μ, pc', nc', lo, st', h) Q → W p l e M.2.2.2.2.2 s m args below meth cd H locs nc' (6 * nc') (vx_MQ below Qc XC args s M.2.2.2.2.2.cells M.2.2.2.2.2.slots A) (F0 m pc' ls (st'.map (am_cv ad))) :=
    fun pc' nc' st' k => k M hM p e s m args below meth cd H locs A ls ad ca D hB hE hK hP hD hS hA hl Qc XC hQ hX
  obtain rfl : len = 3 := by simpa [am_ln] using hln
  dsimp only [am_op] at hF
  split at hF
  · rename_i μ' n hcal
    obtain ⟨M', hM', hlk, hinst, hsel, hdesc, hfr, hlo, T9, N9, hcl9⟩ := hok.2.2.2.1 μ M ix μ' n hM hcal
    cases hpp : am_pp (n + 1) st [] with
    | none => simp only [am_inv, hpp] at hF; exact hF.elim
    | some q =>
      obtain ⟨av, rest⟩ := q
      simp only [am_inv, hpp] at hF
      obtain ⟨⟨hrc, hct, hnl, hn⟩, hPW⟩ := hF
      obtain ⟨pre, rfl, hav, hpl, hpc⟩ := am_pp_spec hpp
      rw [List.append_nil] at hav
      subst hav
      rw [am_nc_of hM', am_nc_of hM] at hn
      rw [am_ml_of hM'] at hnl
      rw [am_ml_of hM'] at hPW
      have hcat : ∀ v ∈ pre.reverse, v.category = 1 := fun v hv => hpc v (List.mem_reverse.mp hv)
      have hmet := am_met hok hEX hM' (by rw [List.length_reverse, hpl]; exact hnl) hcat hPW ad ca D H.size
      have hmok := hok.2.1 μ' M' hM'
      have hmok0 := hok.2.1 μ M hM
      have hpar : ∀ sig, parseMethodDescriptor M'.1.desc = some sig → n = sig.parameters.length := fun sig h9 => by
        rw [h9] at hdesc
        exact (Option.some.inj hdesc).symm
      have hcb : CallB M.2.2.2.2.2 s args M.1.cls ix M'.1 M'.2.1 M'.2.2.1 M'.2.2.2.1 (Cond.code M'.1 M'.2.1 M'.2.2.1 M'.2.2.2.1 :: TS) M'.2.2.2.2.2 M'.2.2.2.2.2.cells M'.2.2.2.2.2.slots n := by
        refine ⟨rfl, rfl, hfr, hlo, fun w hw a' U hW => ?_, List.mem_cons_self, hts _ hmok.2.1, hts _ hmok.2.2.1, hmok.2.2.2.1, hpar, hts _ hlk⟩
        rcases List.mem_cons.mp hw with rfl | hw
        · exact word_at hW (good_of_word (hok.1 _ hmok.2.1)) (hts _ hmok.2.1)
        · exact word_at hW (good_of_word (hok.1 _ hw)) (hts w hw)
      have hps := am_pre (l := l) (G := G) (TS := TS) (M' := M') hEX (av := pre.reverse) hNS hE hns hK hP hD hS hA
      have hf : nc + M'.2.2.2.2.2.cells ≤ M.2.2.2.2.2.cells ∧ 6 * nc + M'.2.2.2.2.2.slots ≤ M.2.2.2.2.2.slots := ⟨hn, by rw [hmok.2.2.2.2, hmok0.2.2.2.2, ← Nat.mul_add]; exact Nat.mul_le_mul_left 6 hn⟩
      have hst8 : ((rest.map (am_cv ad)).map fun v => v.category).sum ≤ 8 := by rw [am_ct_map]; exact hct
      have hrc := hrc (by omega)
      rw [am_oc_of hM'] at hrc
      obtain ⟨o, ps, hpr⟩ : ∃ o ps, pre.reverse = .ref o :: ps := by
        cases hz : pre.reverse with
        | nil => rw [hz] at hrc; exact hrc.elim
        | cons v ps =>
          rw [hz] at hrc
          cases v with
          | ref o => exact ⟨o, ps, rfl⟩
          | _ => exact hrc.elim
      rw [hpr] at hrc hmet hps
      have hpre : pre = ps.reverse ++ [.ref o] := by rw [← List.reverse_reverse pre, hpr]; simp
      simp only [am_rc] at hrc
      split at hrc
      · rename_i ci fs hso
        subst hrc
        have hlen : ps.length = n := by rw [hpre] at hpl; simpa using hpl
        have hrec := va_recv hK hP hcl9 (am_W_get hso)
        refine am_back hok hM hM' hB hE hK hD hS hA hl hQ hX hn (a := (Value.ref (ad o) :: ps.map (am_cv ad)).toArray) (rest := rest) (vx_runV (C := M'.1.cls) (b := ad o) (As := ps.map (am_cv ad)) (rest := rest.map (am_cv ad)) ⟨hx, hb, hml, hown, hts⟩ hmet ⟨hcb, hts _ hinst, hts _ hsel⟩ ⟨hps.1, hrec, hps.2⟩ rfl (by rw [List.length_map]; exact hlen) hl.1 ?_ (lv_room hst8) hdec hf)
        rw [hpre]
        simp [am_cv]
      · exact hrc.elim
  · exact hF.elim

set_option maxHeartbeats 1000000 in
theorem am_r_invokestatic {G : am_G} {sh : List am_D} {TS NS : List Cond} {cl : List vw_C} {EX : (Nat → Prop) → State → Heap → Prop} {l : Launch} (hok : am_Ok G TS NS cl) (hsh : am_Sh cl sh) {μ pc len tg nc : Nat} {lo : List (Option Value)} {st : List Value} {h : am_S} {Q : am_Q} (hEX : am_EX EX) (hNS : ∀ w ∈ NS, ∀ {u U : State}, u.WarmedH U.vm → va_Nw w u → va_Nw w U) {ix : Nat} (hc : am_code G μ pc = some (.invokestatic ix, len, tg))
    (hF : am_go (am_PW G sh TS NS cl EX l) (am_PW G sh TS NS cl EX l) (am_op G sh μ pc len tg nc lo st h (.invokestatic ix)) Q) : am_PW G sh TS NS cl EX l (μ, pc, nc, lo, st, h) Q := by
  intro M hM p e s m args below meth cd H locs A ls ad ca D hB hE hK hP hD hS hA hl Qc XC hQ hX
  obtain ⟨hdec, hln, htg⟩ := am_code_spec hM hc
  obtain ⟨hx, hb, hr, hml, hown, hts, hns, hlocks, hnoex⟩ := id hB
  have go : ∀ (pc' nc' : Nat) (st' : List Value), am_PW G sh TS NS cl EX l (μ, pc', nc', lo, st', h) Q → W p l e M.2.2.2.2.2 s m args below meth cd H locs nc' (6 * nc') (vx_MQ below Qc XC args s M.2.2.2.2.2.cells M.2.2.2.2.2.slots A) (F0 m pc' ls (st'.map (am_cv ad))) :=
    fun pc' nc' st' k => k M hM p e s m args below meth cd H locs A ls ad ca D hB hE hK hP hD hS hA hl Qc XC hQ hX
  obtain rfl : len = 3 := by simpa [am_ln] using hln
  dsimp only [am_op] at hF
  split at hF
  · rename_i μ' n hcal
    obtain ⟨M', hM', hlk, hstat, hdesc, hfr, hlo⟩ := hok.2.2.2.2.1 μ M ix μ' n hM hcal
    cases hpp : am_pp n st [] with
    | none => simp only [am_inv, hpp] at hF; exact hF.elim
    | some q =>
      obtain ⟨av, rest⟩ := q
      simp only [am_inv, hpp] at hF
      obtain ⟨⟨hrc, hct, hnl, hn⟩, hPW⟩ := hF
      obtain ⟨pre, rfl, hav, hpl, hpc⟩ := am_pp_spec hpp
      rw [List.append_nil] at hav
      subst hav
      rw [am_nc_of hM', am_nc_of hM] at hn
      rw [am_ml_of hM'] at hnl
      rw [am_ml_of hM'] at hPW
      have hcat : ∀ v ∈ pre.reverse, v.category = 1 := fun v hv => hpc v (List.mem_reverse.mp hv)
      have hmet := am_met hok hEX hM' (by rw [List.length_reverse, hpl]; exact hnl) hcat hPW ad ca D H.size
      have hmok := hok.2.1 μ' M' hM'
      have hmok0 := hok.2.1 μ M hM
      have hpar : ∀ sig, parseMethodDescriptor M'.1.desc = some sig → n = sig.parameters.length := fun sig h9 => by
        rw [h9] at hdesc
        exact (Option.some.inj hdesc).symm
      have hcb : CallB M.2.2.2.2.2 s args M.1.cls ix M'.1 M'.2.1 M'.2.2.1 M'.2.2.2.1 (Cond.code M'.1 M'.2.1 M'.2.2.1 M'.2.2.2.1 :: TS) M'.2.2.2.2.2 M'.2.2.2.2.2.cells M'.2.2.2.2.2.slots n := by
        refine ⟨rfl, rfl, hfr, hlo, fun w hw a' U hW => ?_, List.mem_cons_self, hts _ hmok.2.1, hts _ hmok.2.2.1, hmok.2.2.2.1, hpar, hts _ hlk⟩
        rcases List.mem_cons.mp hw with rfl | hw
        · exact word_at hW (good_of_word (hok.1 _ hmok.2.1)) (hts _ hmok.2.1)
        · exact word_at hW (good_of_word (hok.1 _ hw)) (hts w hw)
      have hps := am_pre (l := l) (G := G) (TS := TS) (M' := M') hEX (av := pre.reverse) hNS hE hns hK hP hD hS hA
      have hf : nc + M'.2.2.2.2.2.cells ≤ M.2.2.2.2.2.cells ∧ 6 * nc + M'.2.2.2.2.2.slots ≤ M.2.2.2.2.2.slots := ⟨hn, by rw [hmok.2.2.2.2, hmok0.2.2.2.2, ← Nat.mul_add]; exact Nat.mul_le_mul_left 6 hn⟩
      have hst8 : ((rest.map (am_cv ad)).map fun v => v.category).sum ≤ 8 := by rw [am_ct_map]; exact hct
      refine am_back hok hM hM' hB hE hK hD hS hA hl hQ hX hn (a := (pre.reverse.map (am_cv ad)).toArray) (rest := rest) (vx_runS (As := pre.reverse.map (am_cv ad)) (rest := rest.map (am_cv ad)) ⟨hx, hb, hml, hown, hts⟩ hmet ⟨hcb, hts _ hstat⟩ hps rfl (by rw [List.length_map, List.length_reverse]; exact hpl) hl.1 ?_ (lv_room hst8) hdec hf)
      simp [List.map_reverse]
  · rename_i a9 b9 hcal
    obtain ⟨k1, k2, k3, k4, k5, k6⟩ := hok.2.2.2.2.2.1 μ M ix a9 b9 hM hcal
    split at hF
    · have hcn := hF.1.2
      rw [am_nc_of hM] at hcn
      exact va_mmax hx hb (hml.trans hl.1.symm) hown (hts _ k1) (hts _ k2) (hts _ k3) (hts _ k4) k5 (am_ctr hF.1.1 (by omega)) hcn (by rw [(hok.2.1 μ M hM).2.2.2.2]; exact Nat.mul_le_mul_left 6 hcn) hdec (go _ _ _ (hF.2.1 trivial))
    · exact hF.elim
  · rename_i a9 b9 hcal
    obtain ⟨k1, k2, k3, k4, k5, k6⟩ := hok.2.2.2.2.2.2.1 μ M ix a9 b9 hM hcal
    split at hF
    · have hcn := hF.1.2
      rw [am_nc_of hM] at hcn
      exact va_mmin hx hb (hml.trans hl.1.symm) hown (hts _ k1) (hts _ k2) (hts _ k3) (hts _ k4) k5 (am_ctr hF.1.1 (by omega)) hcn (by rw [(hok.2.1 μ M hM).2.2.2.2]; exact Nat.mul_le_mul_left 6 hcn) hdec (go _ _ _ (hF.2.1 trivial))
    · exact hF.elim
  · rename_i a9 b9 hcal
    obtain ⟨k1, k2, k3, k4, k5, k6⟩ := hok.2.2.2.2.2.2.2.1 μ M ix a9 b9 hM hcal
    split at hF
    · have hcn := hF.1.2
      rw [am_nc_of hM] at hcn
      exact va_mmin_long hx hb (hml.trans hl.1.symm) hown (hts _ k1) (hts _ k2) (hts _ k3) (hts _ k4) k5 (am_ctr hF.1.1 (by omega)) hcn (by rw [(hok.2.1 μ M hM).2.2.2.2]; exact Nat.mul_le_mul_left 6 hcn) hdec (go _ _ _ (hF.2.1 trivial))
    · exact hF.elim
  · exact hF.elim

set_option maxHeartbeats 4000000 in
theorem am_sound {G : am_G} {sh : List am_D} {TS NS : List Cond} {cl : List vw_C} {EX : (Nat → Prop) → State → Heap → Prop} {l : Launch} (hok : am_Ok G TS NS cl) (hsh : am_Sh cl sh) (hEX : am_EX EX) (hNS : ∀ w ∈ NS, ∀ {u U : State}, u.WarmedH U.vm → va_Nw w u → va_Nw w U) (hth : am_TH G TS NS EX l) (c : am_C) (Q : am_Q) (hF : am_go (am_PW G sh TS NS cl EX l) (am_PW G sh TS NS cl EX l) (am_step G sh c) Q) : am_PW G sh TS NS cl EX l c Q := by
  obtain ⟨μ, pc, nc, lo, st, h⟩ := c
  cases hc : am_code G μ pc with
  | none => simp only [am_step, hc] at hF; exact hF.elim
  | some z =>
    obtain ⟨i, len, tg⟩ := z
    simp only [am_step, hc] at hF
    cases i with
    | iconst v => exact am_r_iconst hok hsh hc hF
    | bipush v => exact am_r_bipush hok hsh hc hF
    | sipush v => exact am_r_sipush hok hsh hc hF
    | lconst v => exact am_r_lconst hok hsh hc hF
    | ldc ix => exact am_r_ldc hok hsh hc hF
    | ldc2_w ix => exact am_r_ldc2 hok hsh hc hF
    | iload_n k => exact am_r_iload_n hok hsh hc hF
    | iload k => exact am_r_iload hok hsh hc hF
    | istore_n k => exact am_r_istore_n hok hsh hc hF
    | istore k => exact am_r_istore hok hsh hc hF
    | lload_n k => exact am_r_lload_n hok hsh hc hF
    | lload k => exact am_r_lload hok hsh hc hF
    | lstore_n k => exact am_r_lstore_n hok hsh hc hF
    | lstore k => exact am_r_lstore hok hsh hc hF
    | aload_n k => exact am_r_aload_n hok hsh hc hF
    | aload k => exact am_r_aload hok hsh hc hF
    | astore_n k => exact am_r_astore_n hok hsh hc hF
    | astore k => exact am_r_astore hok hsh hc hF
    | iinc k v => exact am_r_iinc hok hsh hc hF
    | iadd => exact am_r_iadd hok hsh hc hF
    | isub => exact am_r_isub hok hsh hc hF
    | imul => exact am_r_imul hok hsh hc hF
    | iand => exact am_r_iand hok hsh hc hF
    | ixor => exact am_r_ixor hok hsh hc hF
    | ladd => exact am_r_ladd hok hsh hc hF
    | irem => exact am_r_irem hok hsh hc hF
    | i2l => exact am_r_i2l hok hsh hc hF
    | l2i => exact am_r_l2i hok hsh hc hF
    | dup => exact am_r_dup hok hsh hc hF
    | pop => exact am_r_pop hok hsh hc hF
    | dup2 => exact am_r_dup2 hok hsh hc hF
    | dup_x1 => exact am_r_dup_x1 hok hsh hc hF
    | goto off => exact am_r_goto hok hsh hc hF
    | ifCond cc off => exact am_r_ifCond hok hsh hc hF
    | if_icmp cc off => exact am_r_if_icmp hok hsh hc hF
    | getfield ix => exact am_r_getfield hok hsh hc hF
    | putfield ix => exact am_r_putfield hok hsh hc hF
    | iaload => exact am_r_iaload hok hsh hc hF
    | baload => exact am_r_baload hok hsh hc hF
    | iastore => exact am_r_iastore hok hsh hc hF
    | bastore => exact am_r_bastore hok hsh hc hF
    | arraylength => exact am_r_arraylength hok hsh hc hF
    | ireturn => exact am_r_ireturn hok hsh hc hF
    | return_ => exact am_r_return hok hsh hc hF
    | new ix => exact am_r_new hok hsh hth hc hF
    | tableswitch d lw up offs => exact am_r_tableswitch hok hsh hc hF
    | invokevirtual ix => exact am_r_invokevirtual hok hsh hEX hNS hc hF
    | invokestatic ix => exact am_r_invokestatic hok hsh hEX hNS hc hF
    | _ => exact hF.elim
theorem am_AW.sound {G : am_G} {sh : List am_D} {TS NS : List Cond} {cl : List vw_C} {EX : (Nat → Prop) → State → Heap → Prop} {l : Launch} (hok : am_Ok G TS NS cl) (hsh : am_Sh cl sh) (hEX : am_EX EX) (hNS : ∀ w ∈ NS, ∀ {u U : State}, u.WarmedH U.vm → va_Nw w u → va_Nw w U) (hth : am_TH G TS NS EX l) {c : am_C} {Q : am_Q} (h : am_AW G sh c Q) : am_PW G sh TS NS cl EX l c Q :=
  h _ (am_PW_mono G sh TS NS cl EX l) (am_sound hok hsh hEX hNS hth)
