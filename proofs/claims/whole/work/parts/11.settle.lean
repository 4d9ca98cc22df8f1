/-! PURE: joins, and how the parts of what was joined are settled. -/
def pu_jn (hs : List (Nat × Nat)) (a b : Nat) : List (Nat × Nat) := if pu_hg hs a = pu_hg hs b then hs else if pu_hg hs a < pu_hg hs b then (pu_hg hs a, pu_hg hs b) :: hs else (pu_hg hs b, pu_hg hs a) :: hs
theorem pu_jn_V {n : Nat} {hs : List (Nat × Nat)} {a b : Nat} (h : pu_V n hs) (ha : a < n) (hb : b < n) : pu_V n (pu_jn hs a b) := by
  unfold pu_jn
  have pa := pu_hg_part h a
  have pb := pu_hg_part h b
  by_cases e : pu_hg hs a = pu_hg hs b
  · rw [if_pos e]; exact h
  · rw [if_neg e]
    by_cases l : pu_hg hs a < pu_hg hs b
    · rw [if_pos l]; exact ⟨l, by show pu_hg hs b < n; omega, pa.2, pb.2, h⟩
    · rw [if_neg l]; exact ⟨by show pu_hg hs b < pu_hg hs a; omega, by show pu_hg hs a < n; omega, pb.2, pa.2, h⟩
theorem pu_jn_eq {n : Nat} {hs : List (Nat × Nat)} (h : pu_V n hs) (a b : Nat) : pu_hg (pu_jn hs a b) a = pu_hg (pu_jn hs a b) b := by
  unfold pu_jn
  by_cases e : pu_hg hs a = pu_hg hs b
  · rw [if_pos e]; exact e
  · rw [if_neg e]
    by_cases l : pu_hg hs a < pu_hg hs b
    · rw [if_pos l]
      simp only [pu_hg, if_true]
      rw [if_neg e]
    · rw [if_neg l]
      simp only [pu_hg, if_true]
      rw [if_neg (fun z => e z.symm)]
theorem pu_jn_le {hs : List (Nat × Nat)} {a b i j : Nat} (h : pu_hg hs i = pu_hg hs j) : pu_hg (pu_jn hs a b) i = pu_hg (pu_jn hs a b) j := by
  unfold pu_jn
  split
  · exact h
  · split <;> exact pu_hg_le h
/-- a join goes no further than it must -/
theorem pu_jn_min {n : Nat} {hs : List (Nat × Nat)} (h : pu_V n hs) {g' : Nat → Nat} (hle : pu_le n (pu_hg hs) g') {a b : Nat} (ha : a < n) (hb : b < n) (e : g' a = g' b) : pu_le n (pu_hg (pu_jn hs a b)) g' := by
  have hP := h.part
  have ga : g' (pu_hg hs a) = g' a := hle _ _ (hP.lt ha) ha (hP a ha).2
  have gb : g' (pu_hg hs b) = g' b := hle _ _ (hP.lt hb) hb (hP b hb).2
  have key : ∀ w l : Nat, w < n → l < n → pu_hg hs w = w → pu_hg hs l = l → g' w = g' l → pu_le n (pu_hg ((w, l) :: hs)) g' := by
    intro w l hw hl ew el ewl i j hi hj hij
    have gi : g' (pu_hg hs i) = g' i := hle _ _ (hP.lt hi) hi (hP i hi).2
    have gj : g' (pu_hg hs j) = g' j := hle _ _ (hP.lt hj) hj (hP j hj).2
    simp only [pu_hg] at hij
    by_cases ei : pu_hg hs i = l <;> by_cases ej : pu_hg hs j = l
    · exact hle i j hi hj (ei.trans ej.symm)
    · rw [if_pos ei, if_neg ej] at hij
      rw [← gi, ← gj, ei, ← hij, ewl]
    · rw [if_neg ei, if_pos ej] at hij
      rw [← gi, ← gj, ej, hij, ewl]
    · rw [if_neg ei, if_neg ej] at hij
      exact hle i j hi hj hij
  unfold pu_jn
  by_cases e0 : pu_hg hs a = pu_hg hs b
  · rw [if_pos e0]; exact hle
  · rw [if_neg e0]
    by_cases l : pu_hg hs a < pu_hg hs b
    · rw [if_pos l]
      exact key _ _ (hP.lt ha) (hP.lt hb) (hP a ha).2 (hP b hb).2 (by rw [ga, gb, e])
    · rw [if_neg l]
      exact key _ _ (hP.lt hb) (hP.lt ha) (hP b hb).2 (hP a ha).2 (by rw [ga, gb, e])
/-- a shape, kept or not, is of the group -/
theorem pu_shape_of (sg : Nat → Option Nat) : ∀ {hs : List (Nat × Nat)} {n : Nat}, pu_V n hs → ∀ t x, pu_hs sg hs t = some x → pu_hg hs x = pu_hg hs t ∧ sg x ≠ none
  | [], _, _, t, x, hx => by
    simp only [pu_hs] at hx
    by_cases e : sg t = none
    · rw [if_pos e] at hx; cases hx
    · rw [if_neg e] at hx
      cases hx
      exact ⟨rfl, e⟩
  | q :: hs, n, h, t, x, hx => by
    obtain ⟨w, l⟩ := q
    obtain ⟨h1, h2, h3, h4, h5⟩ := h
    simp only at h1 h2 h3 h4
    simp only [pu_hs] at hx
    by_cases e : t = w
    · subst e
      rw [if_pos rfl] at hx
      cases hsw : pu_hs sg hs t with
      | none =>
        rw [hsw] at hx
        obtain ⟨e1, e2⟩ := pu_shape_of sg h5 l x hx
        refine ⟨?_, e2⟩
        simp only [pu_hg, e1, h4, h3, if_true]
        rw [if_neg (by omega)]
      | some y =>
        rw [hsw] at hx
        cases hx
        obtain ⟨e1, e2⟩ := pu_shape_of sg h5 t x hsw
        exact ⟨pu_hg_le e1, e2⟩
    · rw [if_neg e] at hx
      obtain ⟨e1, e2⟩ := pu_shape_of sg h5 t x hx
      exact ⟨pu_hg_le e1, e2⟩
/-- who has lost leads no more -/
theorem pu_lost : ∀ {hs : List (Nat × Nat)} {n : Nat}, pu_V n hs → ∀ q ∈ hs, pu_hg hs q.2 < q.2
  | [], _, _, q, hq => by cases hq
  | p :: hs, n, h, q, hq => by
    obtain ⟨h1, h2, h3, h4, h5⟩ := h
    rcases List.mem_cons.mp hq with e | hq
    · subst e
      simp only [pu_hg, h4, if_true]
      exact h1
    · have i := pu_lost h5 q hq
      simp only [pu_hg]
      by_cases e : pu_hg hs q.2 = p.2
      · rw [if_pos e]; omega
      · rw [if_neg e]; exact i
/-- what becomes of a term with a sign: it matches its group's shape, or that of a merge still to be looked at (from i on) -/
def pu_Lk (sg : Nat → Option Nat) (ar : Nat → Nat) (pt : Nat → Nat → Nat) (i : Nat) (hs : List (Nat × Nat)) (u : Nat) : Prop :=
  (∃ c, pu_hs sg hs (pu_hg hs u) = some c ∧ pu_E sg ar pt (pu_hg hs) u c) ∨
  ∃ (j : Nat) (q : Nat × Nat) (x : Nat), i ≤ j ∧ hs.reverse[j]? = some q ∧ pu_hs sg hs q.2 = some x ∧ pu_hg hs x = pu_hg hs u ∧ pu_E sg ar pt (pu_hg hs) u x
section PUS
variable {sg : Nat → Option Nat} {ar : Nat → Nat} {pt : Nat → Nat → Nat} {n : Nat}
theorem pu_shape_lt {hs : List (Nat × Nat)} (h : pu_V n hs) {t x : Nat} (ht : t < n) (hx : pu_hs sg hs t = some x) : x < n := by
  have e := (pu_shape_of sg h t x hx).1
  apply Nat.lt_of_not_le
  intro hn
  have h1 := pu_hg_new h x hn
  have h2 := (pu_hg_part h t).1
  omega
theorem pu_Lk_push (hT : pu_Told n sg ar pt) {hs : List (Nat × Nat)} {q : Nat × Nat} (h : pu_V n (q :: hs)) {i u : Nat} (hu : u < n) (hi : i ≤ hs.length) (hk : pu_Lk sg ar pt i hs u) : pu_Lk sg ar pt i (q :: hs) u := by
  obtain ⟨w, l⟩ := q
  obtain ⟨h1, h2, h3, h4, h5⟩ := id h
  simp only at h1 h2 h3 h4
  have hle : pu_le n (pu_hg hs) (pu_hg ((w, l) :: hs)) := fun i j _ _ e => pu_hg_le e
  have hgu : pu_hg hs u < n := h5.part.lt hu
  rcases hk with ⟨c, hc, hE⟩ | ⟨j, q, x, hj, hq, hx, hgx, hE⟩
  · have hcn : c < n := pu_shape_lt h5 hgu hc
    have hE' := hE.coarse hT hle hu hcn
    have hcg := (pu_shape_of sg h5 _ c hc).1
    rw [(pu_hg_part h5 u).2] at hcg
    by_cases e : pu_hg hs u = l
    · right
      refine ⟨hs.length, (w, l), c, hi, ?_, ?_, pu_hg_le hcg, hE'⟩
      · rw [List.reverse_cons, List.getElem?_append_right (by simp)]
        simp
      · simp only [pu_hs]
        rw [if_neg (by omega), ← e]
        exact hc
    · left
      refine ⟨c, ?_, hE'⟩
      have hgu' : pu_hg ((w, l) :: hs) u = pu_hg hs u := by simp only [pu_hg]; rw [if_neg e]
      rw [hgu']
      simp only [pu_hs]
      by_cases e2 : pu_hg hs u = w
      · rw [if_pos e2, ← e2, hc]
      · rw [if_neg e2]; exact hc
  · right
    have hxn : x < n := by
      apply Nat.lt_of_not_le
      intro hn
      have k1 := pu_hg_new h5 x hn
      omega
    refine ⟨j, q, x, hj, ?_, ?_, pu_hg_le hgx, hE.coarse hT hle hu hxn⟩
    · rw [List.reverse_cons, List.getElem?_append_left (List.getElem?_eq_some_iff.mp hq).1]
      exact hq
    · simp only [pu_hs]
      have hm : q ∈ hs := List.mem_reverse.mp (List.mem_of_getElem? hq)
      have hlt := pu_lost h5 q hm
      rw [if_neg]
      · exact hx
      · intro e
        rw [e, h3] at hlt
        omega
theorem pu_Lk_jn (hT : pu_Told n sg ar pt) {hs : List (Nat × Nat)} {a b : Nat} (h : pu_V n hs) (ha : a < n) (hb : b < n) {i u : Nat} (hu : u < n) (hi : i ≤ hs.length) (hk : pu_Lk sg ar pt i hs u) : pu_Lk sg ar pt i (pu_jn hs a b) u := by
  have hV := pu_jn_V h ha hb
  unfold pu_jn at hV ⊢
  split at hV
  · rename_i e; rw [if_pos e]; exact hk
  · rename_i e
    rw [if_neg e]
    split at hV
    · rename_i e2; rw [if_pos e2]; exact pu_Lk_push hT hV hu hi hk
    · rename_i e2; rw [if_neg e2]; exact pu_Lk_push hT hV hu hi hk
theorem pu_jn_len {hs : List (Nat × Nat)} {a b : Nat} : hs.length ≤ (pu_jn hs a b).length := by
  unfold pu_jn
  split
  · exact Nat.le_refl _
  · split <;> simp
theorem pu_jn_suf {hs : List (Nat × Nat)} {a b : Nat} : ∃ ns, pu_jn hs a b = ns ++ hs := by
  unfold pu_jn
  split
  · exact ⟨[], rfl⟩
  · split
    · exact ⟨[_], rfl⟩
    · exact ⟨[_], rfl⟩
/-- the state of settling, with the merges up to i looked at -/
def pu_SI (n : Nat) (sg : Nat → Option Nat) (ar : Nat → Nat) (pt : Nat → Nat → Nat) (hs0 : List (Nat × Nat)) (a b i : Nat) (hs : List (Nat × Nat)) : Prop :=
  pu_V n hs ∧ (∃ ns, hs = ns ++ hs0) ∧ i ≤ hs.length ∧ hs0.length ≤ i ∧ (∀ u, u < n → sg u ≠ none → pu_Lk sg ar pt i hs u) ∧
  (∀ g', pu_Part n g' → pu_U n sg ar pt g' → pu_le n (pu_hg hs0) g' → g' a = g' b → pu_le n (pu_hg hs) g') ∧ pu_hg hs a = pu_hg hs b
theorem pu_SI_0 (hT : pu_Told n sg ar pt) {hs0 : List (Nat × Nat)} (h : pu_V n hs0) (hU : pu_U n sg ar pt (pu_hg hs0)) {a b : Nat} (ha : a < n) (hb : b < n) : pu_SI n sg ar pt hs0 a b hs0.length (pu_jn hs0 a b) := by
  refine ⟨pu_jn_V h ha hb, pu_jn_suf, pu_jn_len, Nat.le_refl _, fun u hu hsu => ?_, fun g' _ _ hle e => pu_jn_min h hle ha hb e, pu_jn_eq h a b⟩
  refine pu_Lk_jn hT h ha hb hu (Nat.le_refl _) (Or.inl ?_)
  have hl := (pu_hg_part h u).2
  obtain ⟨s1, s2⟩ := pu_shape sg h (pu_hg hs0 u) hl
  cases hc : pu_hs sg hs0 (pu_hg hs0 u) with
  | none => exact absurd (s2 hc u rfl) hsu
  | some c =>
    obtain ⟨e1, e2⟩ := s1 c hc
    exact ⟨c, rfl, hU u c hu (pu_shape_lt h (h.part.lt hu) hc) hsu e2 e1.symm⟩
theorem pu_SI_end {hs0 hs : List (Nat × Nat)} {a b : Nat} (h : pu_SI n sg ar pt hs0 a b hs.length hs) : pu_U n sg ar pt (pu_hg hs) := by
  obtain ⟨hV, -, -, -, hL, -⟩ := h
  have key : ∀ u, u < n → sg u ≠ none → ∃ c, pu_hs sg hs (pu_hg hs u) = some c ∧ pu_E sg ar pt (pu_hg hs) u c := by
    intro u hu hsu
    rcases hL u hu hsu with h1 | ⟨j, q, x, hj, hq, -⟩
    · exact h1
    · exfalso
      have := (List.getElem?_eq_some_iff.mp hq).1
      rw [List.length_reverse] at this
      omega
  intro i j hi hj hsi hsj e
  obtain ⟨c, hc, hE⟩ := key i hi hsi
  obtain ⟨d, hd, hE2⟩ := key j hj hsj
  rw [e, hd] at hc
  cases hc
  exact hE.trans hE2.symm
/-- a merge that has nothing to match -/
theorem pu_SI_skip {hs0 hs : List (Nat × Nat)} {a b i : Nat} (h : pu_SI n sg ar pt hs0 a b i hs) {q : Nat × Nat} (hq : hs.reverse[i]? = some q) (hz : pu_hs sg hs q.2 = none ∨ pu_hs sg hs q.2 = pu_hs sg hs (pu_hg hs q.2)) : pu_SI n sg ar pt hs0 a b (i + 1) hs := by
  obtain ⟨hV, hns, hi, h0, hL, hm, hab⟩ := h
  have hil : i < hs.length := by
    have := (List.getElem?_eq_some_iff.mp hq).1
    rwa [List.length_reverse] at this
  refine ⟨hV, hns, hil, by omega, fun u hu hsu => ?_, hm, hab⟩
  rcases hL u hu hsu with h1 | ⟨j, q', x, hj, hq', hx, hgx, hE⟩
  · exact Or.inl h1
  · by_cases e : j = i
    · subst e
      rw [hq] at hq'
      cases hq'
      rcases hz with hz | hz
      · rw [hz] at hx; cases hx
      · left
        refine ⟨x, ?_, hE⟩
        rw [← hgx, (pu_shape_of sg hV _ x hx).1, ← hz]
        exact hx
    · exact Or.inr ⟨j, q', x, by omega, hq', hx, hgx, hE⟩
/-- the shape of a loser's group is there, if the loser had one -/
theorem pu_common {hs : List (Nat × Nat)} (hV : pu_V n hs) {l x : Nat} (hx : pu_hs sg hs l = some x) : ∃ c, pu_hs sg hs (pu_hg hs l) = some c ∧ pu_hg hs c = pu_hg hs x ∧ sg c ≠ none := by
  obtain ⟨e1, e2⟩ := pu_shape_of sg hV l x hx
  obtain ⟨s1, s2⟩ := pu_shape sg hV (pu_hg hs l) (pu_hg_part hV l).2
  cases hc : pu_hs sg hs (pu_hg hs l) with
  | none => exact absurd (s2 hc x e1) e2
  | some c => exact ⟨c, rfl, (s1 c hc).1.trans e1.symm, (s1 c hc).2⟩
/-- the joins of the parts, one by one -/
def pu_jp (pt : Nat → Nat → Nat) (x c : Nat) : Nat → List (Nat × Nat) → List (Nat × Nat)
  | 0, hs => hs
  | k + 1, hs => pu_jn (pu_jp pt x c k hs) (pt x k) (pt c k)
theorem pu_jp_all (hT : pu_Told n sg ar pt) {hs : List (Nat × Nat)} (hV : pu_V n hs) {x c : Nat} (hx : x < n) (hc : c < n) (hs2 : sg x = sg c) : ∀ k, k ≤ pu_np sg ar x →
    pu_V n (pu_jp pt x c k hs) ∧ (∃ ns, pu_jp pt x c k hs = ns ++ hs) ∧ hs.length ≤ (pu_jp pt x c k hs).length ∧ (∀ i u, u < n → i ≤ hs.length → pu_Lk sg ar pt i hs u → pu_Lk sg ar pt i (pu_jp pt x c k hs) u) ∧ (∀ i j, pu_hg hs i = pu_hg hs j → pu_hg (pu_jp pt x c k hs) i = pu_hg (pu_jp pt x c k hs) j) ∧
    (∀ j, j < k → pu_hg (pu_jp pt x c k hs) (pt x j) = pu_hg (pu_jp pt x c k hs) (pt c j)) ∧ ∀ g', pu_Part n g' → pu_U n sg ar pt g' → pu_le n (pu_hg hs) g' → pu_E sg ar pt g' x c → pu_le n (pu_hg (pu_jp pt x c k hs)) g'
  | 0, _ => ⟨hV, ⟨[], rfl⟩, Nat.le_refl _, fun _ _ _ _ h => h, fun _ _ h => h, fun j hj => by omega, fun _ _ _ h _ => h⟩
  | k + 1, hk => by
    obtain ⟨v1, ⟨ns, v2⟩, v3, v4, v5, v6, v7⟩ := pu_jp_all hT hV hx hc hs2 k (by omega)
    have p1 : pt x k < n := Nat.lt_trans (hT x hx k (by omega)) hx
    have p2 : pt c k < n := Nat.lt_trans (hT c hc k (by rw [← pu_np_eq hs2]; omega)) hc
    simp only [pu_jp]
    refine ⟨pu_jn_V v1 p1 p2, ?_, Nat.le_trans v3 pu_jn_len, fun i u hu hi h => pu_Lk_jn hT v1 p1 p2 hu (Nat.le_trans hi v3) (v4 i u hu hi h), fun i j h => pu_jn_le (v5 i j h), fun j hj => ?_, fun g' q1 q2 q3 q4 => pu_jn_min v1 (v7 g' q1 q2 q3 q4) p1 p2 (q4.2 k (by omega))⟩
    · obtain ⟨m, hm⟩ := pu_jn_suf (hs := pu_jp pt x c k hs) (a := pt x k) (b := pt c k)
      exact ⟨m ++ ns, by rw [hm]; conv => lhs; rw [v2]
                         rw [List.append_assoc]⟩
    · by_cases e : j = k
      · subst e; exact pu_jn_eq v1 _ _
      · exact pu_jn_le (v6 j (by omega))
theorem pu_SI_step (hT : pu_Told n sg ar pt) {hs0 hs : List (Nat × Nat)} {a b i : Nat} (h : pu_SI n sg ar pt hs0 a b i hs) {q : Nat × Nat} (hq : hs.reverse[i]? = some q) {x c : Nat} (hx : pu_hs sg hs q.2 = some x) (hc : pu_hs sg hs (pu_hg hs q.2) = some c) (hs2 : sg x = sg c) : pu_SI n sg ar pt hs0 a b (i + 1) (pu_jp pt x c (pu_np sg ar x) hs) := by
  obtain ⟨hV, ⟨ns, hns⟩, hi, h0, hL, hm, hab⟩ := h
  have hil : i < hs.length := by
    have := (List.getElem?_eq_some_iff.mp hq).1
    rwa [List.length_reverse] at this
  have hqn : q.2 < n := by
    have key : ∀ {hs : List (Nat × Nat)}, pu_V n hs → ∀ q ∈ hs, q.2 < n := by
      intro hs
      induction hs with
      | nil => intro _ q hq; cases hq
      | cons p hs ih =>
        intro h q hq
        rcases List.mem_cons.mp hq with e | hq
        · subst e; exact h.2.1
        · exact ih h.2.2.2.2 q hq
    exact key hV q (List.mem_reverse.mp (List.mem_of_getElem? hq))
  have hxn := pu_shape_lt hV hqn hx
  have hcn := pu_shape_lt hV (hV.part.lt hqn) hc
  obtain ⟨ex, sx⟩ := pu_shape_of sg hV _ x hx
  obtain ⟨ec, sc⟩ := pu_shape_of sg hV _ c hc
  rw [(pu_hg_part hV q.2).2] at ec
  obtain ⟨v1, ⟨ms, v2⟩, v3, v4, v5, v6, v7⟩ := pu_jp_all hT hV hxn hcn hs2 (pu_np sg ar x) (Nat.le_refl _)
  have hxc : pu_E sg ar pt (pu_hg (pu_jp pt x c (pu_np sg ar x) hs)) x c := ⟨hs2, v6⟩
  refine ⟨v1, ⟨ms ++ ns, by rw [v2, hns, List.append_assoc]⟩, by omega, by omega, fun u hu hsu => ?_, fun g' q1 q2 q3 q4 => ?_, v5 _ _ hab⟩
  · have hlc : pu_Lk sg ar pt (i + 1) hs c := Or.inl ⟨c, by rw [ec]; exact hc, pu_E.rfl'⟩
    have hlc' := v4 (i + 1) c hcn hil hlc
    rcases v4 i u hu hi (hL u hu hsu) with h1 | ⟨j, q', y, hj, hq', hy, hgy, hE⟩
    · exact Or.inl h1
    · by_cases e : j = i
      · have hq2 : (pu_jp pt x c (pu_np sg ar x) hs).reverse[i]? = some q := by
          rw [v2, List.reverse_append, List.getElem?_append_left (List.getElem?_eq_some_iff.mp hq).1]
          exact hq
        subst e
        rw [hq2] at hq'
        cases hq'
        have hyx : y = x := by
          have keep : ∀ (hs : List (Nat × Nat)) (ms : List (Nat × Nat)), pu_V n (ms ++ hs) → q ∈ hs → pu_hs sg (ms ++ hs) q.2 = pu_hs sg hs q.2 := by
            intro hs ms
            induction ms with
            | nil => intro _ _; rfl
            | cons p ms ih =>
              intro hv hm
              have hv2 : pu_V n (ms ++ hs) := hv.2.2.2.2
              have hlt := pu_lost hv2 q (List.mem_append_right _ hm)
              have hp : pu_hg (ms ++ hs) p.1 = p.1 := hv.2.2.1
              show pu_hs sg (p :: (ms ++ hs)) q.2 = _
              simp only [pu_hs]
              rw [if_neg]
              · exact ih hv2 hm
              · intro e
                rw [e, hp] at hlt
                omega
          have := keep hs ms (by rw [← v2]; exact v1) (List.mem_reverse.mp (List.mem_of_getElem? hq))
          rw [← v2, hx] at this
          rw [this] at hy
          exact (Option.some.inj hy).symm
        subst hyx
        have huc : pu_E sg ar pt (pu_hg (pu_jp pt y c (pu_np sg ar y) hs)) u c := hE.trans hxc
        have hgc : pu_hg (pu_jp pt y c (pu_np sg ar y) hs) c = pu_hg (pu_jp pt y c (pu_np sg ar y) hs) u := by
          rw [← hgy]
          exact v5 _ _ (ec.trans ex.symm)
        rcases hlc' with ⟨d, hd, hE2⟩ | ⟨j2, q2, y2, hj2, hq2', hy2, hgy2, hE2⟩
        · left
          exact ⟨d, by rw [← hgc]; exact hd, huc.trans hE2⟩
        · right
          exact ⟨j2, q2, y2, hj2, hq2', hy2, hgy2.trans hgc, huc.trans hE2⟩
      · exact Or.inr ⟨j, q', y, by omega, hq', hy, hgy, hE⟩
  · have hle := hm g' q1 q2 q3 q4
    exact v7 g' q1 q2 hle (q2 x c hxn hcn sx sc (hle x c hxn hcn (ex.trans ec.symm)))
/-- two signs clash: nothing holds it -/
theorem pu_SI_clash {hs0 hs : List (Nat × Nat)} {a b i : Nat} (h : pu_SI n sg ar pt hs0 a b i hs) {l x c : Nat} (hl : l < n) (hx : pu_hs sg hs l = some x) (hc : pu_hs sg hs (pu_hg hs l) = some c) (hne : sg x ≠ sg c) (g' : Nat → Nat) (hg : pu_Clo n sg ar pt (pu_hg hs0) a b g') : False := by
  obtain ⟨hV, -, -, -, -, hm, -⟩ := h
  have hxn := pu_shape_lt hV hl hx
  have hcn := pu_shape_lt hV (hV.part.lt hl) hc
  obtain ⟨ex, sx⟩ := pu_shape_of sg hV _ x hx
  obtain ⟨ec, sc⟩ := pu_shape_of sg hV _ c hc
  rw [(pu_hg_part hV l).2] at ec
  have hle := hm g' hg.1 hg.2.1 hg.2.2.2.1 hg.2.2.2.2
  exact hne (hg.2.1 x c hxn hcn sx sc (hle x c hxn hcn (ex.trans ec.symm))).1
end PUS
