/-! PURE: twins, joined along a walk's order. B: what was looked at (the latest first), A: what is to come; hs1: the merges before; pr: prints; Lb b: the terms kept in bucket b. -/
def tn_mk (sg : Nat → Option Nat) (pt : Nat → Nat → Nat) (g : Nat → Nat) (pr : Nat → Int32) (s : Nat) : Nat → Int32
  | 0 => -1 - tn_o (sg s)
  | k + 1 => tn_mk sg pt g pr s k * 1000003 + pr (g (pt s k))
theorem tn_mk_c {sg : Nat → Option Nat} {pt : Nat → Nat → Nat} {g g' : Nat → Nat} {pr pr' : Nat → Int32} {s s' : Nat} (hs : sg s = sg s') : ∀ {d : Nat}, (∀ k, k < d → pr (g (pt s k)) = pr' (g' (pt s' k))) → tn_mk sg pt g pr s d = tn_mk sg pt g' pr' s' d
  | 0, _ => by simp only [tn_mk, hs]
  | d + 1, h => by
    simp only [tn_mk]
    rw [tn_mk_c hs (fun k hk => h k (by omega)), h d (by omega)]
def tn_bk (x : Int32) : Nat := (if (x ^^^ nI 401) < 0 ∧ ¬ (x - x / nI 401 * nI 401) = 0 then x - x / nI 401 * nI 401 + nI 401 else x - x / nI 401 * nI 401).toNatClampNeg
theorem pu_hg_ns : ∀ (ns : List (Nat × Nat)) {hs : List (Nat × Nat)} {n : Nat}, pu_V n (ns ++ hs) → ∀ t, pu_hg (ns ++ hs) t ≤ pu_hg hs t
  | [], _, _, _, _ => Nat.le_refl _
  | q :: ns, hs, n, h, t => by
    have ih := pu_hg_ns ns (hs := hs) h.2.2.2.2 t
    show pu_hg (q :: (ns ++ hs)) t ≤ _
    simp only [pu_hg]
    split
    · rename_i e
      have := h.1
      omega
    · exact ih
theorem pu_hg_sub : ∀ (ns : List (Nat × Nat)) {hs : List (Nat × Nat)} {i j : Nat}, pu_hg hs i = pu_hg hs j → pu_hg (ns ++ hs) i = pu_hg (ns ++ hs) j
  | [], _, _, _, h => h
  | _ :: ns, _, _, _, h => pu_hg_le (pu_hg_sub ns h)
/-- what is fixed -/
def pu_TF (n : Nat) (sg : Nat → Option Nat) (ar : Nat → Nat) (pt : Nat → Nat → Nat) (hs1 : List (Nat × Nat)) (O : List Nat) : Prop :=
  pu_Told n sg ar pt ∧ pu_V n hs1 ∧ pu_U n sg ar pt (pu_hg hs1) ∧ O.Nodup ∧ (∀ x ∈ O, x < n ∧ pu_hg hs1 x = x) ∧ pu_top (tn_dg ar sg hs1) (tn_ch sg pt hs1) O ∧ ∀ t, t < n → pu_hg hs1 t ∈ O
def pu_TI (n : Nat) (sg : Nat → Option Nat) (ar : Nat → Nat) (pt : Nat → Nat → Nat) (hs1 : List (Nat × Nat)) (A B : List Nat) (hs : List (Nat × Nat)) (pr : Nat → Int32) (Lb : Nat → List Nat) : Prop :=
  pu_V n hs ∧ (∃ ns, hs = ns ++ hs1) ∧ pu_U n sg ar pt (pu_hg hs) ∧
  (∀ t, t < n → pu_hg hs1 t ∈ A → pu_hg hs t = pu_hg hs1 t) ∧ (∀ t, t < n → pu_hg hs1 t ∈ B → pu_hg hs1 (pu_hg hs t) ∈ B) ∧
  (∀ i j, i < n → j < n → sg i ≠ none → pu_hg hs1 i ∈ B → pu_hg hs1 j ∈ B → pu_E sg ar pt (pu_hg hs) i j → pu_hg hs i = pu_hg hs j) ∧
  (∀ x, x ∈ A → pu_hs sg hs x = pu_hs sg hs1 x) ∧ (∀ x y, x ∈ B → y ∈ B → pu_hg hs x = pu_hg hs y → pr x = pr y) ∧
  (∀ x s, x ∈ B → pu_hs sg hs1 x = some s → pr x = tn_mk sg pt (pu_hg hs) pr s (pu_np sg ar s)) ∧
  (∀ x, x ∈ B → pu_hs sg hs1 x = none → ∀ t, t < n → pu_hg hs t = pu_hg hs x → sg t = none) ∧
  (∀ b u, u ∈ Lb b → u < n ∧ sg u ≠ none ∧ pu_hg hs1 u ∈ B) ∧ (∀ b, (Lb b).Nodup) ∧
  (∀ x s, x ∈ B → pu_hs sg hs1 x = some s → ∃ u, u ∈ Lb (tn_bk (pr x)) ∧ pu_hg hs u = pu_hg hs x) ∧
  ∀ g', pu_Part n g' → pu_Cg n sg ar pt g' → pu_le n (pu_hg hs1) g' → pu_le n (pu_hg hs) g'
/-- how early the first of a kind was -/
def pu_fp (p : Nat → Bool) : List Nat → Nat
  | [] => 0
  | _ :: O => if O.any p = true then pu_fp p O else O.length
theorem pu_fp_at {p : Nat → Bool} : ∀ {O : List Nat}, (∃ x, x ∈ O ∧ p x = true) → ∃ A x B, O = A ++ x :: B ∧ p x = true ∧ pu_fp p O = B.length
  | [], ⟨x, hx, _⟩ => by cases hx
  | y :: O, ⟨x, hx, hp⟩ => by
    simp only [pu_fp]
    by_cases e : O.any p = true
    · rw [if_pos e]
      obtain ⟨z, hz, hpz⟩ := List.any_eq_true.mp e
      obtain ⟨A, x2, B, h1, h2, h3⟩ := pu_fp_at (O := O) ⟨z, hz, hpz⟩
      exact ⟨y :: A, x2, B, by rw [h1]; rfl, h2, h3⟩
    · rw [if_neg e]
      rcases List.mem_cons.mp hx with q | q
      · subst q; exact ⟨[], x, O, rfl, hp, rfl⟩
      · exact absurd (List.any_eq_true.mpr ⟨x, q, hp⟩) e
theorem pu_fp_le {p : Nat → Bool} : ∀ {O A B : List Nat} {x : Nat}, O = A ++ x :: B → p x = true → pu_fp p O ≤ B.length
  | [], A, B, x, h, _ => by
    have := congrArg List.length h
    simp at this
  | y :: O, [], B, x, h, hp => by
    simp only [List.nil_append, List.cons.injEq] at h
    obtain ⟨rfl, rfl⟩ := h
    simp only [pu_fp]
    split
    · rename_i e
      obtain ⟨z, hz, hpz⟩ := List.any_eq_true.mp e
      obtain ⟨A2, x2, B2, h1, h2, h3⟩ := pu_fp_at (O := O) ⟨z, hz, hpz⟩
      rw [h3, h1]
      simp
      omega
    · exact Nat.le_refl _
  | y :: O, a :: A, B, x, h, hp => by
    simp only [List.cons_append, List.cons.injEq] at h
    obtain ⟨rfl, h⟩ := h
    have ih := pu_fp_le (A := A) h hp
    simp only [pu_fp]
    rw [if_pos (List.any_eq_true.mpr ⟨x, by rw [h]; simp, hp⟩)]
    exact ih
section PT
variable {n : Nat} {sg : Nat → Option Nat} {ar : Nat → Nat} {pt : Nat → Nat → Nat} {hs1 hs : List (Nat × Nat)} {O A B : List Nat} {pr : Nat → Int32} {Lb : Nat → List Nat} {y : Nat}
/-- parts lie in what was looked at -/
theorem pu_TF.pb (F : pu_TF n sg ar pt hs1 (A ++ y :: B)) {i k : Nat} (hi : i < n) (hk : k < pu_np sg ar i) (hy : pu_hg hs1 i ∈ y :: B) : pu_hg hs1 (pt i k) ∈ B := by
  obtain ⟨f1, f2, f3, f4, f5, f6, f7⟩ := F
  have hsi : sg i ≠ none := fun e => by simp only [pu_np, e] at hk; exact absurd hk (Nat.not_lt_zero _)
  have hl := (pu_hg_part f2 i).2
  obtain ⟨s1, s2⟩ := pu_shape sg f2 (pu_hg hs1 i) hl
  cases hc : pu_hs sg hs1 (pu_hg hs1 i) with
  | none => exact absurd (s2 hc i rfl) hsi
  | some s =>
    obtain ⟨e1, e2⟩ := s1 s hc
    have hE := f3 i s hi (pu_shape_lt f2 (f2.part.lt hi) hc) hsi e2 e1.symm
    have hk2 : k < pu_np sg ar s := by rw [← pu_np_eq hE.1]; exact hk
    have hd : k < tn_dg ar sg hs1 (pu_hg hs1 i) := by simp only [tn_dg, hl, hc]; exact hk2
    have hch : tn_ch sg pt hs1 (pu_hg hs1 i) k = pu_hg hs1 (pt i k) := by simp only [tn_ch, hl, hc]; exact (hE.2 k hk).symm
    have ht := pu_top_suf (A := A) f6
    rw [← hch]
    rcases List.mem_cons.mp hy with e | q
    · rw [e] at hd ⊢; exact ht.1 k hd
    · exact pu_top_in hd ht.2 q
theorem pu_TF.ynB (F : pu_TF n sg ar pt hs1 (A ++ y :: B)) : y ∉ B ∧ (∀ x ∈ A, x ∉ y :: B) := by
  obtain ⟨f1, f2, f3, f4, -⟩ := F
  have nd := List.nodup_append.mp f4
  exact ⟨(List.nodup_cons.mp nd.2.1).1, fun x hx q => nd.2.2 x hx x q rfl⟩
/-- the group of y, before it is looked at -/
theorem pu_TI.yc (F : pu_TF n sg ar pt hs1 (A ++ y :: B)) (I : pu_TI n sg ar pt hs1 (A ++ [y]) B hs pr Lb) : y < n ∧ pu_hg hs1 y = y ∧ pu_hg hs y = y ∧ ∀ t, t < n → (pu_hg hs t = y ↔ pu_hg hs1 t = y) := by
  obtain ⟨f1, f2, f3, f4, f5, f6, f7⟩ := id F
  obtain ⟨hyB, -⟩ := F.ynB
  obtain ⟨i1, i2, i3, i4, i5, -⟩ := I
  obtain ⟨hy, hy1⟩ := f5 y (by simp)
  refine ⟨hy, hy1, by rw [i4 y hy (by rw [hy1]; simp)]; exact hy1, fun t ht => ⟨fun e => ?_, fun e => by rw [i4 t ht (by rw [e]; simp)]; exact e⟩⟩
  have hO := f7 t ht
  rw [List.mem_append, List.mem_cons] at hO
  rcases hO with q | q | q
  · rw [← i4 t ht (by simp [q])]; exact e
  · exact q
  · have := i5 t ht q
    rw [e, hy1] at this
    exact absurd this hyB
/-- leaders now were leaders before -/
theorem pu_TI.lead (F : pu_TF n sg ar pt hs1 O) (I : pu_TI n sg ar pt hs1 A B hs pr Lb) {t : Nat} : pu_hg hs1 (pu_hg hs t) = pu_hg hs t := by
  obtain ⟨i1, ⟨ns, i2⟩, -⟩ := I
  have h1 := pu_hg_ns ns (hs := hs1) (n := n) (by rw [← i2]; exact i1) (pu_hg hs t)
  rw [← i2, (pu_hg_part i1 t).2] at h1
  have h2 := (pu_hg_part F.2.1 (pu_hg hs t)).1
  omega
theorem pu_TI.shy (F : pu_TF n sg ar pt hs1 O) {x s : Nat} (hx : x < n) (hx1 : pu_hg hs1 x = x) (e : pu_hs sg hs1 x = some s) : s < n ∧ sg s ≠ none ∧ pu_hg hs1 s = x := by
  obtain ⟨e1, e2⟩ := pu_shape_of sg F.2.1 x s e
  exact ⟨pu_shape_lt F.2.1 hx e, e2, e1.trans hx1⟩
theorem pu_TI.sub (I : pu_TI n sg ar pt hs1 A B hs pr Lb) {i j : Nat} (e : pu_hg hs1 i = pu_hg hs1 j) : pu_hg hs i = pu_hg hs j := by
  obtain ⟨i1, ⟨ns, i2⟩, -⟩ := I
  rw [i2]
  exact pu_hg_sub ns e
/-- the mixing of a term's prints depends on its group alone -/
theorem pu_mk_E {g : Nat → Nat} {s s' : Nat} (h : pu_E sg ar pt g s s') : tn_mk sg pt g pr s (pu_np sg ar s) = tn_mk sg pt g pr s' (pu_np sg ar s') := by
  rw [← pu_np_eq (ar := ar) h.1]
  exact tn_mk_c h.1 (fun k hk => by rw [h.2 k hk])
/-- prints of parts don't change with y's own -/
theorem pu_TI.mky (F : pu_TF n sg ar pt hs1 (A ++ y :: B)) (I : pu_TI n sg ar pt hs1 (A ++ [y]) B hs pr Lb) (v : Int32) {s : Nat} (hs9 : s < n) (hB : pu_hg hs1 s ∈ y :: B) : tn_mk sg pt (pu_hg hs) (upd pr y v) s (pu_np sg ar s) = tn_mk sg pt (pu_hg hs) pr s (pu_np sg ar s) := by
  refine tn_mk_c rfl (fun k hk => ?_)
  have h1 := F.pb hs9 hk hB
  have h2 := I.2.2.2.2.1 _ (Nat.lt_trans (F.1 s hs9 k hk) hs9) h1
  have h3 : pu_hg hs (pt s k) ≠ y := fun e => by
    rw [e, (I.yc F).2.1] at h2
    exact F.ynB.1 h2
  exact pk_un h3
/-- y has no sign -/
theorem pu_TI.unk (F : pu_TF n sg ar pt hs1 (A ++ y :: B)) (I : pu_TI n sg ar pt hs1 (A ++ [y]) B hs pr Lb) (hn : pu_hs sg hs1 y = none) (v : Int32) : pu_TI n sg ar pt hs1 A (y :: B) hs (upd pr y v) Lb := by
  obtain ⟨y1, y2, y3, y4⟩ := I.yc F
  obtain ⟨hyB, hAB⟩ := F.ynB
  have unk : ∀ t, pu_hg hs1 t = y → sg t = none := (pu_shape sg F.2.1 y y2).2 hn
  obtain ⟨i1, i2, i3, i4, i5, i6, i7, i8, i9, i10, i11, i12, i13, i14⟩ := id I
  have ne : ∀ {x}, x ∈ B → x ≠ y := fun hx e => hyB (e ▸ hx)
  refine ⟨i1, i2, i3, fun t ht h => i4 t ht (List.mem_append_left _ h), fun t ht h => ?_, fun i j hi hj hsi h1 h2 hE => ?_, fun x hx => i7 x (List.mem_append_left _ hx), fun x z hx hz e => ?_, fun x s hx e => ?_, fun x hx e t ht et => ?_, fun b u hu => ?_, i12, fun x s hx e => ?_, i14⟩
  · rcases List.mem_cons.mp h with e | h
    · rw [(y4 t ht).mpr e, y2]; exact List.mem_cons_self
    · exact List.mem_cons_of_mem _ (i5 t ht h)
  · rcases List.mem_cons.mp h1 with e | h1
    · exact absurd (unk i e) hsi
    · rcases List.mem_cons.mp h2 with e | h2
      · exact absurd (hE.1.trans (unk j e)) hsi
      · exact i6 i j hi hj hsi h1 h2 hE
  · have cross : ∀ x, x ∈ B → pu_hg hs x = pu_hg hs y → False := fun x hx e => by
      rw [y3] at e
      have hx2 := F.2.2.2.2.1 x (by simp [hx])
      have := (y4 x hx2.1).mp e
      rw [hx2.2] at this
      exact ne hx this
    rcases List.mem_cons.mp hx with e1 | hx
    · rcases List.mem_cons.mp hz with e2 | hz
      · rw [e1, e2]
      · exact (cross z hz (by rw [← e1]; exact e.symm)).elim
    · rcases List.mem_cons.mp hz with e2 | hz
      · exact (cross x hx (by rw [← e2]; exact e)).elim
      · rw [pk_un (ne hx), pk_un (ne hz)]
        exact i8 x z hx hz e
  · rcases List.mem_cons.mp hx with e1 | hx
    · rw [e1, hn] at e; cases e
    · have hx2 := F.2.2.2.2.1 x (by simp [hx])
      obtain ⟨s1, s2, s3⟩ := pu_TI.shy F hx2.1 hx2.2 e
      rw [pk_un (ne hx), I.mky F v s1 (by rw [s3]; exact List.mem_cons_of_mem _ hx)]
      exact i9 x s hx e
  · rcases List.mem_cons.mp hx with e1 | hx
    · rw [e1, y3] at et
      exact unk t ((y4 t ht).mp et)
    · exact i10 x hx e t ht et
  · obtain ⟨u1, u2, u3⟩ := i11 b u hu
    exact ⟨u1, u2, List.mem_cons_of_mem _ u3⟩
  · rcases List.mem_cons.mp hx with e1 | hx
    · rw [e1, hn] at e; cases e
    · rw [pk_un (ne hx)]
      exact i13 x s hx e
/-- y has a sign, and no twin among the kept -/
theorem pu_TI.keep (F : pu_TF n sg ar pt hs1 (A ++ y :: B)) (I : pu_TI n sg ar pt hs1 (A ++ [y]) B hs pr Lb) {s : Nat} (hs9 : pu_hs sg hs1 y = some s)
    (hno : ∀ u, u ∈ Lb (tn_bk (tn_mk sg pt (pu_hg hs) pr s (pu_np sg ar s))) → ¬ pu_E sg ar pt (pu_hg hs) s u) :
    pu_TI n sg ar pt hs1 A (y :: B) hs (upd pr y (tn_mk sg pt (pu_hg hs) pr s (pu_np sg ar s))) (fun b => if b = tn_bk (tn_mk sg pt (pu_hg hs) pr s (pu_np sg ar s)) then s :: Lb b else Lb b) := by
  obtain ⟨y1, y2, y3, y4⟩ := I.yc F
  obtain ⟨hyB, hAB⟩ := F.ynB
  obtain ⟨s1, s2, s3⟩ := pu_TI.shy F y1 y2 hs9
  have sg1 : pu_hg hs s = y := (y4 s s1).mpr s3
  obtain ⟨i1, i2, i3, i4, i5, i6, i7, i8, i9, i10, i11, i12, i13, i14⟩ := id I
  have ne : ∀ {x}, x ∈ B → x ≠ y := fun hx e => hyB (e ▸ hx)
  have nocross : ∀ i j, i < n → j < n → sg i ≠ none → sg j ≠ none → pu_hg hs1 i = y → pu_hg hs1 j ∈ B → ¬ pu_E sg ar pt (pu_hg hs) i j := fun i j hi hj hsi hsj ei hB hE => by
    have E1 := i3 s i s1 hi s2 hsi (sg1.trans ((y4 i hi).mpr ei).symm)
    have hx2 := F.2.2.2.2.1 (pu_hg hs1 j) (by simp [hB])
    cases e : pu_hs sg hs1 (pu_hg hs1 j) with
    | none => exact hsj ((pu_shape sg F.2.1 (pu_hg hs1 j) hx2.2).2 e j rfl)
    | some s0 =>
      obtain ⟨t1, t2, t3⟩ := pu_TI.shy F hx2.1 hx2.2 e
      have gj : pu_hg hs (pu_hg hs1 j) = pu_hg hs j := I.sub hx2.2
      have E2 := i3 j s0 hj t1 hsj t2 (I.sub t3.symm)
      obtain ⟨u, hu, hug⟩ := i13 _ s0 hB e
      obtain ⟨u1, u2, u3⟩ := i11 _ u hu
      have E3 := i3 j u hj u1 hsj u2 (gj.symm.trans hug.symm)
      have hpr : pr (pu_hg hs1 j) = tn_mk sg pt (pu_hg hs) pr s (pu_np sg ar s) := by
        rw [i9 _ s0 hB e]
        exact pu_mk_E ((E2.symm.trans hE.symm).trans E1.symm)
      rw [hpr] at hu
      exact hno u hu ((E1.trans hE).trans E3)
  refine ⟨i1, i2, i3, fun t ht h => i4 t ht (List.mem_append_left _ h), fun t ht h => ?_, fun i j hi hj hsi h1 h2 hE => ?_, fun x hx => i7 x (List.mem_append_left _ hx), fun x z hx hz e => ?_, fun x s' hx e => ?_, fun x hx e t ht et => ?_, fun b u hu => ?_, fun b => ?_, fun x s' hx e => ?_, i14⟩
  · rcases List.mem_cons.mp h with e | h
    · rw [(y4 t ht).mpr e, y2]; exact List.mem_cons_self
    · exact List.mem_cons_of_mem _ (i5 t ht h)
  · have hsj : sg j ≠ none := fun q => hsi (hE.1.trans q)
    rcases List.mem_cons.mp h1 with e1 | h1
    · rcases List.mem_cons.mp h2 with e2 | h2
      · rw [(y4 i hi).mpr e1, (y4 j hj).mpr e2]
      · exact (nocross i j hi hj hsi hsj e1 h2 hE).elim
    · rcases List.mem_cons.mp h2 with e2 | h2
      · exact (nocross j i hj hi hsj hsi e2 h1 hE.symm).elim
      · exact i6 i j hi hj hsi h1 h2 hE
  · have cross : ∀ x, x ∈ B → pu_hg hs x = pu_hg hs y → False := fun x hx e => by
      rw [y3] at e
      have hx2 := F.2.2.2.2.1 x (by simp [hx])
      have := (y4 x hx2.1).mp e
      rw [hx2.2] at this
      exact ne hx this
    rcases List.mem_cons.mp hx with e1 | hx
    · rcases List.mem_cons.mp hz with e2 | hz
      · rw [e1, e2]
      · exact (cross z hz (by rw [← e1]; exact e.symm)).elim
    · rcases List.mem_cons.mp hz with e2 | hz
      · exact (cross x hx (by rw [← e2]; exact e)).elim
      · rw [pk_un (ne hx), pk_un (ne hz)]
        exact i8 x z hx hz e
  · rcases List.mem_cons.mp hx with e1 | hx
    · rw [e1, hs9] at e
      cases e
      rw [e1, pk_us, I.mky F _ s1 (by rw [s3]; exact List.mem_cons_self)]
    · have hx2 := F.2.2.2.2.1 x (by simp [hx])
      obtain ⟨t1, t2, t3⟩ := pu_TI.shy F hx2.1 hx2.2 e
      rw [pk_un (ne hx), I.mky F _ t1 (by rw [t3]; exact List.mem_cons_of_mem _ hx)]
      exact i9 x s' hx e
  · rcases List.mem_cons.mp hx with e1 | hx
    · rw [e1, hs9] at e; cases e
    · exact i10 x hx e t ht et
  · have old : u ∈ Lb b → u < n ∧ sg u ≠ none ∧ pu_hg hs1 u ∈ y :: B := fun q => by
      obtain ⟨u1, u2, u3⟩ := i11 b u q
      exact ⟨u1, u2, List.mem_cons_of_mem _ u3⟩
    simp only at hu
    split at hu
    · rcases List.mem_cons.mp hu with e | q
      · rw [e]; exact ⟨s1, s2, by rw [s3]; exact List.mem_cons_self⟩
      · exact old q
    · exact old hu
  · simp only
    split
    · rw [List.nodup_cons]
      refine ⟨fun q => ?_, i12 b⟩
      have := (i11 b s q).2.2
      rw [s3] at this
      exact hyB this
    · exact i12 b
  · rcases List.mem_cons.mp hx with e1 | hx
    · rw [e1, pk_us]
      exact ⟨s, by simp, by rw [sg1, y3]⟩
    · rw [pk_un (ne hx)]
      obtain ⟨u, hu, hug⟩ := i13 x s' hx e
      refine ⟨u, ?_, hug⟩
      simp only
      split
      · exact List.mem_cons_of_mem _ hu
      · exact hu
/-- y has a sign, and a twin among the kept -/
theorem pu_TI.join (F : pu_TF n sg ar pt hs1 (A ++ y :: B)) (I : pu_TI n sg ar pt hs1 (A ++ [y]) B hs pr Lb) {s u : Nat} (hs9 : pu_hs sg hs1 y = some s) (hu : u ∈ Lb (tn_bk (tn_mk sg pt (pu_hg hs) pr s (pu_np sg ar s)))) (hE0 : pu_E sg ar pt (pu_hg hs) s u) :
    pu_TI n sg ar pt hs1 A (y :: B) (pu_jn hs s u) (upd pr y (tn_mk sg pt (pu_hg hs) pr s (pu_np sg ar s))) Lb := by
  obtain ⟨y1, y2, y3, y4⟩ := I.yc F
  obtain ⟨hyB, hAB⟩ := F.ynB
  obtain ⟨s1, s2, s3⟩ := pu_TI.shy F y1 y2 hs9
  have sg1 : pu_hg hs s = y := (y4 s s1).mpr s3
  obtain ⟨i1, ⟨ns, i2⟩, i3, i4, i5, i6, i7, i8, i9, i10, i11, i12, i13, i14⟩ := id I
  obtain ⟨u1, u2, u3⟩ := i11 _ u hu
  have ne : ∀ {x}, x ∈ B → x ≠ y := fun hx e => hyB (e ▸ hx)
  have hV := pu_jn_V i1 s1 u1
  have hle : pu_le n (pu_hg hs) (pu_hg (pu_jn hs s u)) := fun i j _ _ e => pu_jn_le e
  have hsu := pu_jn_eq i1 s u
  have gu : pu_hg hs1 (pu_hg hs u) ∈ B := i5 u u1 u3
  have guy : pu_hg hs u ≠ y := fun e => by rw [e, y2] at gu; exact hyB gu
  -- how the new groups come from the old
  have how : ∀ t, pu_hg (pu_jn hs s u) t = pu_hg hs t ∨ ((pu_hg hs t = y ∨ pu_hg hs t = pu_hg hs u) ∧ (pu_hg (pu_jn hs s u) t = y ∨ pu_hg (pu_jn hs s u) t = pu_hg hs u)) := fun t => by
    unfold pu_jn
    rw [sg1, if_neg (fun e => guy e.symm)]
    split
    · simp only [pu_hg]
      by_cases e : pu_hg hs t = pu_hg hs u
      · rw [if_pos e]; exact Or.inr ⟨Or.inr e, Or.inl rfl⟩
      · rw [if_neg e]; exact Or.inl rfl
    · simp only [pu_hg]
      by_cases e : pu_hg hs t = y
      · rw [if_pos e]; exact Or.inr ⟨Or.inl e, Or.inr rfl⟩
      · rw [if_neg e]; exact Or.inl rfl
  have one : ∀ t t', pu_hg (pu_jn hs s u) t = pu_hg (pu_jn hs s u) t' → pu_hg hs t = pu_hg hs t' ∨ ((pu_hg hs t = y ∨ pu_hg hs t = pu_hg hs u) ∧ (pu_hg hs t' = y ∨ pu_hg hs t' = pu_hg hs u)) := fun t t' e => by
    unfold pu_jn at e
    rw [sg1, if_neg (fun e => guy e.symm)] at e
    split at e
    · simp only [pu_hg] at e
      by_cases e1 : pu_hg hs t = pu_hg hs u <;> by_cases e2 : pu_hg hs t' = pu_hg hs u
      · exact Or.inl (e1.trans e2.symm)
      · rw [if_pos e1, if_neg e2] at e; exact Or.inr ⟨Or.inr e1, Or.inl e.symm⟩
      · rw [if_neg e1, if_pos e2] at e; exact Or.inr ⟨Or.inl e, Or.inr e2⟩
      · rw [if_neg e1, if_neg e2] at e; exact Or.inl e
    · simp only [pu_hg] at e
      by_cases e1 : pu_hg hs t = y <;> by_cases e2 : pu_hg hs t' = y
      · exact Or.inl (e1.trans e2.symm)
      · rw [if_pos e1, if_neg e2] at e; exact Or.inr ⟨Or.inl e1, Or.inr e.symm⟩
      · rw [if_neg e1, if_pos e2] at e; exact Or.inr ⟨Or.inr e, Or.inl e2⟩
      · rw [if_neg e1, if_neg e2] at e; exact Or.inl e
  have gB : ∀ t, t < n → pu_hg hs1 t ∈ B → pu_hg hs t ≠ y := fun t ht h e => by
    have := i5 t ht h
    rw [e, y2] at this
    exact hyB this
  have RR : ∀ p q, p < n → q < n → pu_hg hs1 p ∈ B → pu_hg hs1 q ∈ B → pu_hg (pu_jn hs s u) p = pu_hg (pu_jn hs s u) q → pu_hg hs p = pu_hg hs q := fun p q hp hq hpB hqB e => by
    rcases one p q e with z | ⟨z1, z2⟩
    · exact z
    · have a := z1.resolve_left (gB p hp hpB)
      have b := z2.resolve_left (gB q hq hqB)
      rw [a, b]
  have EE : ∀ i j, i < n → j < n → pu_hg hs1 i ∈ y :: B → pu_hg hs1 j ∈ y :: B → pu_E sg ar pt (pu_hg (pu_jn hs s u)) i j → pu_E sg ar pt (pu_hg hs) i j := fun i j hi hj h1 h2 hE => ⟨hE.1, fun k hk => by
    have hk2 : k < pu_np sg ar j := by rw [← pu_np_eq hE.1]; exact hk
    exact RR _ _ (Nat.lt_trans (F.1 i hi k hk) hi) (Nat.lt_trans (F.1 j hj k hk2) hj) (F.pb hi hk h1) (F.pb hj hk2 h2) (hE.2 k hk)⟩
  have yE : ∀ i, i < n → sg i ≠ none → pu_hg hs1 i = y → pu_E sg ar pt (pu_hg hs) i s := fun i hi hsi e => i3 i s hi s1 hsi s2 (((y4 i hi).mpr e).trans sg1.symm)
  -- U
  have hU : pu_U n sg ar pt (pu_hg (pu_jn hs s u)) := fun i j hi hj hsi hsj e => by
    rcases one i j e with z | ⟨z1, z2⟩
    · exact (i3 i j hi hj hsi hsj z).coarse F.1 hle hi hj
    · have toS : ∀ i, i < n → sg i ≠ none → (pu_hg hs i = y ∨ pu_hg hs i = pu_hg hs u) → pu_E sg ar pt (pu_hg hs) i s := fun i hi hsi z => by
        rcases z with z | z
        · exact i3 i s hi s1 hsi s2 (z.trans sg1.symm)
        · exact (i3 i u hi u1 hsi u2 z).trans hE0.symm
      exact ((toS i hi hsi z1).trans (toS j hj hsj z2).symm).coarse F.1 hle hi hj
  -- prints
  have hxu := F.2.2.2.2.1 (pu_hg hs1 u) (by simp [u3])
  have pru : pr (pu_hg hs1 u) = tn_mk sg pt (pu_hg hs) pr s (pu_np sg ar s) := by
    cases e : pu_hs sg hs1 (pu_hg hs1 u) with
    | none => exact absurd ((pu_shape sg F.2.1 (pu_hg hs1 u) hxu.2).2 e u rfl) u2
    | some s0 =>
      obtain ⟨t1, t2, t3⟩ := pu_TI.shy F hxu.1 hxu.2 e
      rw [i9 _ s0 u3 e]
      exact pu_mk_E ((i3 s0 u t1 u1 t2 u2 (I.sub t3)).trans hE0.symm)
  have gxu : pu_hg hs (pu_hg hs1 u) = pu_hg hs u := I.sub hxu.2
  have p1 : ∀ x z, x ∈ y :: B → z ∈ y :: B → pu_hg (pu_jn hs s u) x = pu_hg (pu_jn hs s u) z → upd pr y (tn_mk sg pt (pu_hg hs) pr s (pu_np sg ar s)) x = upd pr y (tn_mk sg pt (pu_hg hs) pr s (pu_np sg ar s)) z := by
    have inn : ∀ x, x ∈ B → x < n ∧ pu_hg hs1 x = x := fun x hx => F.2.2.2.2.1 x (by simp [hx])
    have cross : ∀ z, z ∈ B → pu_hg (pu_jn hs s u) y = pu_hg (pu_jn hs s u) z → tn_mk sg pt (pu_hg hs) pr s (pu_np sg ar s) = pr z := fun z hz e => by
      obtain ⟨z1, z2⟩ := inn z hz
      have e2 : pu_hg (pu_jn hs s u) y = pu_hg (pu_jn hs s u) s := pu_jn_le (by rw [y3, sg1])
      have e3 := RR z u z1 u1 (by rw [z2]; exact hz) u3 (e.symm.trans (e2.trans hsu))
      rw [← pru]
      exact i8 _ z u3 hz (gxu.trans e3.symm)
    intro x z hx hz e
    rcases List.mem_cons.mp hx with e1 | hx
    · rcases List.mem_cons.mp hz with e2 | hz
      · rw [e1, e2]
      · rw [e1] at e ⊢
        rw [pk_us, pk_un (ne hz)]
        exact cross z hz e
    · rcases List.mem_cons.mp hz with e2 | hz
      · rw [e2] at e ⊢
        rw [pk_us, pk_un (ne hx)]
        exact (cross x hx e.symm).symm
      · rw [pk_un (ne hx), pk_un (ne hz)]
        exact i8 x z hx hz (RR x z (inn x hx).1 (inn z hz).1 (by rw [(inn x hx).2]; exact hx) (by rw [(inn z hz).2]; exact hz) e)
  have hd : ∀ t, t < n → pu_hg hs1 t ∈ y :: B → pu_hg hs1 (pu_hg (pu_jn hs s u) t) ∈ y :: B := fun t ht h => by
    have old : pu_hg hs1 (pu_hg hs t) ∈ y :: B := by
      rcases List.mem_cons.mp h with e | h
      · rw [(y4 t ht).mpr e, y2]; exact List.mem_cons_self
      · exact List.mem_cons_of_mem _ (i5 t ht h)
    rcases how t with z | ⟨-, z | z⟩
    · rw [z]; exact old
    · rw [z, y2]; exact List.mem_cons_self
    · rw [z]; exact List.mem_cons_of_mem _ gu
  have hsub : ∃ ms, pu_jn hs s u = ms ++ hs1 := by
    obtain ⟨ms, hm⟩ := pu_jn_suf (hs := hs) (a := s) (b := u)
    exact ⟨ms ++ ns, by rw [hm, List.append_assoc, ← i2]⟩
  have lead' : ∀ t, pu_hg hs1 (pu_hg (pu_jn hs s u) t) = pu_hg (pu_jn hs s u) t := fun t => by
    obtain ⟨ms, hm⟩ := hsub
    have h1 := pu_hg_ns ms (hs := hs1) (n := n) (by rw [← hm]; exact hV) (pu_hg (pu_jn hs s u) t)
    rw [← hm, (pu_hg_part hV t).2] at h1
    have h2 := (pu_hg_part F.2.1 (pu_hg (pu_jn hs s u) t)).1
    omega
  have mkn : ∀ z, z < n → pu_hg hs1 z ∈ y :: B → tn_mk sg pt (pu_hg (pu_jn hs s u)) (upd pr y (tn_mk sg pt (pu_hg hs) pr s (pu_np sg ar s))) z (pu_np sg ar z) = tn_mk sg pt (pu_hg hs) pr z (pu_np sg ar z) := fun z hz hzB => by
    refine tn_mk_c rfl (fun k hk => ?_)
    have hpn := Nat.lt_trans (F.1 z hz k hk) hz
    have hpB := F.pb hz hk hzB
    have hgB := i5 _ hpn hpB
    rw [I.lead F] at hgB
    have a1 : pu_hg (pu_jn hs s u) (pt z k) ∈ y :: B := by
      have := hd _ hpn (List.mem_cons_of_mem _ hpB)
      rwa [lead'] at this
    have a2 := p1 _ _ a1 (List.mem_cons_of_mem _ hgB) (by
      rw [(pu_hg_part hV _).2]
      exact (pu_jn_le (pu_hg_part i1 (pt z k)).2).symm)
    rw [a2, pk_un (ne hgB)]
  refine ⟨hV, hsub, hU, fun t ht h => ?_, hd, fun i j hi hj hsi h1 h2 hE => ?_, fun x hx => ?_, p1, fun x s' hx e => ?_, fun x hx e t ht et => ?_, fun b v hv => ?_, i12, fun x s' hx e => ?_, fun g' q1 q2 q3 => ?_⟩
  · have e1 := i4 t ht (List.mem_append_left _ h)
    rcases how t with z | ⟨z | z, -⟩
    · rw [z]; exact e1
    · exfalso
      rw [e1] at z
      rw [z] at h
      exact hAB y h List.mem_cons_self
    · exfalso
      rw [e1] at z
      rw [← z, (pu_hg_part F.2.1 t).2] at gu
      exact hAB _ h (List.mem_cons_of_mem _ gu)
  · have hE2 := EE i j hi hj h1 h2 hE
    have hsj : sg j ≠ none := fun q => hsi (hE.1.trans q)
    have toU : ∀ i j, i < n → j < n → sg i ≠ none → sg j ≠ none → pu_hg hs1 i = y → pu_hg hs1 j ∈ B → pu_E sg ar pt (pu_hg hs) i j → pu_hg (pu_jn hs s u) i = pu_hg (pu_jn hs s u) j := fun i j hi hj hsi hsj e hB hE => by
      have E1 := (hE0.symm.trans (yE i hi hsi e).symm).trans hE
      have e2 := i6 u j u1 hj u2 u3 hB E1
      have e3 : pu_hg (pu_jn hs s u) i = pu_hg (pu_jn hs s u) s := pu_jn_le (((y4 i hi).mpr e).trans sg1.symm)
      rw [e3, hsu]
      exact pu_jn_le e2
    rcases List.mem_cons.mp h1 with e1 | h1
    · rcases List.mem_cons.mp h2 with e2 | h2
      · exact pu_jn_le (by rw [(y4 i hi).mpr e1, (y4 j hj).mpr e2])
      · exact toU i j hi hj hsi hsj e1 h2 hE2
    · rcases List.mem_cons.mp h2 with e2 | h2
      · exact (toU j i hj hi hsj hsi e2 h1 hE2.symm).symm
      · exact pu_jn_le (i6 i j hi hj hsi h1 h2 hE2)
  · have hxy : x ≠ y := fun e => hAB x hx (by rw [e]; exact List.mem_cons_self)
    have hx2 := F.2.2.2.2.1 x (by simp [hx])
    have hxu : x ≠ pu_hg hs u := fun e => by
      rw [← e, hx2.2] at gu
      exact hAB x hx (List.mem_cons_of_mem _ gu)
    rw [← i7 x (List.mem_append_left _ hx)]
    unfold pu_jn
    rw [sg1, if_neg (fun e => guy e.symm)]
    split
    · simp only [pu_hs]; rw [if_neg hxy]
    · simp only [pu_hs]; rw [if_neg hxu]
  · rcases List.mem_cons.mp hx with e1 | hx
    · rw [e1, hs9] at e
      cases e
      rw [e1, pk_us, mkn s s1 (by rw [s3]; exact List.mem_cons_self)]
    · have hx2 := F.2.2.2.2.1 x (by simp [hx])
      obtain ⟨t1, t2, t3⟩ := pu_TI.shy F hx2.1 hx2.2 e
      rw [pk_un (ne hx), mkn s' t1 (by rw [t3]; exact List.mem_cons_of_mem _ hx)]
      exact i9 x s' hx e
  · rcases List.mem_cons.mp hx with e1 | hx
    · rw [e1, hs9] at e; cases e
    · have hx2 := F.2.2.2.2.1 x (by simp [hx])
      have viaU : pu_hg (pu_jn hs s u) u = pu_hg (pu_jn hs s u) x → False := fun q => u2 (i10 x hx e u u1 (RR u x u1 hx2.1 u3 (by rw [hx2.2]; exact hx) q))
      rcases one t x et with z | ⟨z1, z2⟩
      · exact i10 x hx e t ht z
      · exfalso
        rcases z2 with z2 | z2
        · exact gB x hx2.1 (by rw [hx2.2]; exact hx) z2
        · exact viaU (pu_jn_le z2.symm)
  · obtain ⟨v1, v2, v3⟩ := i11 b v hv
    exact ⟨v1, v2, List.mem_cons_of_mem _ v3⟩
  · rcases List.mem_cons.mp hx with e1 | hx
    · rw [e1, pk_us]
      exact ⟨u, hu, by rw [← hsu]; exact pu_jn_le (by rw [sg1, y3])⟩
    · rw [pk_un (ne hx)]
      obtain ⟨v, hv, hvg⟩ := i13 x s' hx e
      exact ⟨v, hv, pu_jn_le hvg⟩
  · have hl := i14 g' q1 q2 q3
    exact pu_jn_min i1 hl s1 u1 (q2 s u s1 u1 s2 (hE0.coarse F.1 hl s1 u1))
/-- the beginning -/
theorem pu_TI.start (F : pu_TF n sg ar pt hs1 O) (pr : Nat → Int32) : pu_TI n sg ar pt hs1 O [] hs1 pr (fun _ => []) :=
  ⟨F.2.1, ⟨[], rfl⟩, F.2.2.1, fun _ _ _ => rfl, fun _ _ h => (by cases h), fun _ _ _ _ _ h => (by cases h), fun _ _ => rfl, fun _ _ h => (by cases h), fun _ _ h => (by cases h), fun _ h => (by cases h), fun _ _ h => (by cases h), fun _ => List.nodup_nil, fun _ _ h => (by cases h), fun _ _ _ h => h⟩
/-- the end: closed under twins, and no group below itself -/
theorem pu_TI.fin (F : pu_TF n sg ar pt hs1 O) (I : pu_TI n sg ar pt hs1 [] O hs pr Lb) : pu_Cg n sg ar pt (pu_hg hs) ∧ pu_A n sg ar pt (pu_hg hs) := by
  obtain ⟨f1, f2, f3, f4, f5, f6, f7⟩ := id F
  obtain ⟨i1, i2, i3, i4, i5, i6, i7, i8, i9, i10, i11, i12, i13, i14⟩ := id I
  refine ⟨fun i j hi hj hsi hE => i6 i j hi hj hsi (f7 i hi) (f7 j hj) hE, fun a => pu_fp (fun x => decide (pu_hg hs x = a)) O, fun t ht k hk => ?_⟩
  have hst : sg t ≠ none := fun e => by simp only [pu_np, e] at hk; exact absurd hk (Nat.not_lt_zero _)
  obtain ⟨A, x, B, e1, e2, e3⟩ := pu_fp_at (p := fun x => decide (pu_hg hs x = pu_hg hs t)) (O := O) ⟨pu_hg hs1 t, f7 t ht, by simp only [decide_eq_true_eq]; exact I.sub (pu_hg_part f2 t).2⟩
  simp only [decide_eq_true_eq] at e2
  have hxO : x ∈ O := by rw [e1]; simp
  obtain ⟨hx, hx1⟩ := f5 x hxO
  have htop := f6
  rw [e1] at htop
  have ht2 := pu_top_suf (A := A) htop
  cases e : pu_hs sg hs1 x with
  | none => exact absurd (i10 x hxO e t ht e2.symm) hst
  | some s =>
    obtain ⟨s1, s2, s3⟩ := pu_TI.shy F hx hx1 e
    have hE := i3 t s ht s1 hst s2 (e2.symm.trans (I.sub (hx1.trans s3.symm)))
    have hk2 : k < pu_np sg ar s := by rw [← pu_np_eq hE.1]; exact hk
    have hd : k < tn_dg ar sg hs1 x := by simp only [tn_dg, hx1, e]; exact hk2
    have hch : tn_ch sg pt hs1 x k = pu_hg hs1 (pt s k) := by simp only [tn_ch, hx1, e]
    have hcB := ht2.1 k hd
    rw [hch] at hcB
    have hg : pu_hg hs (pu_hg hs1 (pt s k)) = pu_hg hs (pt t k) := by
      rw [hE.2 k hk]
      exact I.sub (pu_hg_part f2 _).2
    obtain ⟨A2, B2, e4⟩ := List.append_of_mem hcB
    have := pu_fp_le (p := fun x => decide (pu_hg hs x = pu_hg hs (pt t k))) (O := O) (A := A ++ x :: A2) (x := pu_hg hs1 (pt s k)) (B := B2) (by rw [e1, e4]; simp) (by simp only [decide_eq_true_eq]; exact hg)
    have hl : B.length = A2.length + (B2.length + 1) := by rw [e4]; simp
    show pu_fp _ O < pu_fp _ O
    omega
end PT
