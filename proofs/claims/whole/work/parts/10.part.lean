/-! PURE: partitions by their least members; what closes them; histories of merges. No machine here. sg t: the sign of t, none for an unknown; ar s: parts of a sign; pt t k: part k of t. -/
def pu_Part (n : Nat) (g : Nat → Nat) : Prop := ∀ t, t < n → g t ≤ t ∧ g (g t) = g t
def pu_le (n : Nat) (g g' : Nat → Nat) : Prop := ∀ i j, i < n → j < n → g i = g j → g' i = g' j
theorem pu_Part.lt {n : Nat} {g : Nat → Nat} (h : pu_Part n g) {t : Nat} (ht : t < n) : g t < n := Nat.lt_of_le_of_lt (h t ht).1 ht
theorem pu_eq_of_le {n : Nat} {g g' : Nat → Nat} (h : pu_Part n g) (h' : pu_Part n g') (a : pu_le n g g') (b : pu_le n g' g) : ∀ t, t < n → g t = g' t := by
  intro t ht
  have lt1 := h.lt ht
  have lt2 := h'.lt ht
  have e1 : g' (g t) = g' t := a _ _ lt1 ht (h t ht).2
  have e2 : g (g' t) = g t := b _ _ lt2 ht (h' t ht).2
  have l1 : g' t ≤ g t := by rw [← e1]; exact (h' _ lt1).1
  have l2 : g t ≤ g' t := by rw [← e2]; exact (h _ lt2).1
  omega
def pu_np (sg : Nat → Option Nat) (ar : Nat → Nat) (t : Nat) : Nat := match sg t with
  | none => 0
  | some s => ar s
theorem pu_np_eq {sg : Nat → Option Nat} {ar : Nat → Nat} {i j : Nat} (h : sg i = sg j) : pu_np sg ar i = pu_np sg ar j := by unfold pu_np; rw [h]
def pu_Told (n : Nat) (sg : Nat → Option Nat) (ar : Nat → Nat) (pt : Nat → Nat → Nat) : Prop := ∀ t, t < n → ∀ k, k < pu_np sg ar t → pt t k < t
/-- one sign, parts in one group each -/
def pu_E (sg : Nat → Option Nat) (ar : Nat → Nat) (pt : Nat → Nat → Nat) (g : Nat → Nat) (i j : Nat) : Prop := sg i = sg j ∧ ∀ k, k < pu_np sg ar i → g (pt i k) = g (pt j k)
section PUE
variable {sg : Nat → Option Nat} {ar : Nat → Nat} {pt : Nat → Nat → Nat} {g g' : Nat → Nat} {n : Nat}
theorem pu_E.rfl' {i : Nat} : pu_E sg ar pt g i i := ⟨rfl, fun _ _ => rfl⟩
theorem pu_E.symm {i j : Nat} (h : pu_E sg ar pt g i j) : pu_E sg ar pt g j i := ⟨h.1.symm, fun k hk => (h.2 k (by rw [pu_np_eq h.1]; exact hk)).symm⟩
theorem pu_E.trans {i j k : Nat} (h : pu_E sg ar pt g i j) (h2 : pu_E sg ar pt g j k) : pu_E sg ar pt g i k := ⟨h.1.trans h2.1, fun q hq => (h.2 q hq).trans (h2.2 q (by rw [← pu_np_eq h.1]; exact hq))⟩
theorem pu_E.coarse (hT : pu_Told n sg ar pt) (hle : pu_le n g g') {i j : Nat} (hi : i < n) (hj : j < n) (h : pu_E sg ar pt g i j) : pu_E sg ar pt g' i j :=
  ⟨h.1, fun k hk => hle _ _ (Nat.lt_trans (hT i hi k hk) hi) (Nat.lt_trans (hT j hj k (by rw [← pu_np_eq h.1]; exact hk)) hj) (h.2 k hk)⟩
end PUE
/-- groups have one sign, and parts in one group -/
def pu_U (n : Nat) (sg : Nat → Option Nat) (ar : Nat → Nat) (pt : Nat → Nat → Nat) (g : Nat → Nat) : Prop := ∀ i j, i < n → j < n → sg i ≠ none → sg j ≠ none → g i = g j → pu_E sg ar pt g i j
/-- twins are in one group -/
def pu_Cg (n : Nat) (sg : Nat → Option Nat) (ar : Nat → Nat) (pt : Nat → Nat → Nat) (g : Nat → Nat) : Prop := ∀ i j, i < n → j < n → sg i ≠ none → pu_E sg ar pt g i j → g i = g j
/-- no group lies below itself -/
def pu_A (n : Nat) (sg : Nat → Option Nat) (ar : Nat → Nat) (pt : Nat → Nat → Nat) (g : Nat → Nat) : Prop := ∃ rk : Nat → Nat, ∀ t, t < n → ∀ k, k < pu_np sg ar t → rk (g (pt t k)) < rk (g t)
def pu_Good (n : Nat) (sg : Nat → Option Nat) (ar : Nat → Nat) (pt : Nat → Nat → Nat) (g : Nat → Nat) : Prop := pu_Part n g ∧ pu_U n sg ar pt g ∧ pu_Cg n sg ar pt g ∧ pu_A n sg ar pt g
/-- a closed partition, coarser than g0, that has a and b in one group -/
def pu_Clo (n : Nat) (sg : Nat → Option Nat) (ar : Nat → Nat) (pt : Nat → Nat → Nat) (g0 : Nat → Nat) (a b : Nat) (g : Nat → Nat) : Prop := pu_Part n g ∧ pu_U n sg ar pt g ∧ pu_Cg n sg ar pt g ∧ pu_le n g0 g ∧ g a = g b
/-- the finest one, and no group lies below itself -/
def pu_Res (n : Nat) (sg : Nat → Option Nat) (ar : Nat → Nat) (pt : Nat → Nat → Nat) (g0 : Nat → Nat) (a b : Nat) (g : Nat → Nat) : Prop := pu_Clo n sg ar pt g0 a b g ∧ pu_A n sg ar pt g ∧ ∀ g', pu_Clo n sg ar pt g0 a b g' → pu_le n g g'
theorem pu_Res.unique {n : Nat} {sg : Nat → Option Nat} {ar : Nat → Nat} {pt : Nat → Nat → Nat} {g0 g g' : Nat → Nat} {a b : Nat} (h : pu_Res n sg ar pt g0 a b g) (h' : pu_Res n sg ar pt g0 a b g') : ∀ t, t < n → g t = g' t :=
  pu_eq_of_le h.1.1 h'.1.1 (h.2.2 g' h'.1) (h'.2.2 g h.1)
theorem pu_A.fine {n : Nat} {sg : Nat → Option Nat} {ar : Nat → Nat} {pt : Nat → Nat → Nat} {g g' : Nat → Nat} (hT : pu_Told n sg ar pt) (hg : pu_Part n g) (hle : pu_le n g g') (h : pu_A n sg ar pt g') : pu_A n sg ar pt g := by
  obtain ⟨rk, hrk⟩ := h
  refine ⟨fun x => rk (g' x), fun t ht k hk => ?_⟩
  have hp : pt t k < n := Nat.lt_trans (hT t ht k hk) ht
  have e1 : g' (g (pt t k)) = g' (pt t k) := hle _ _ (hg.lt hp) hp (hg _ hp).2
  have e2 : g' (g t) = g' t := hle _ _ (hg.lt ht) ht (hg _ ht).2
  show rk (g' (g (pt t k))) < rk (g' (g t))
  rw [e1, e2]
  exact hrk t ht k hk
/-! Histories, the latest merge first: (w, l), the group of l has gone to w. -/
def pu_hg : List (Nat × Nat) → Nat → Nat
  | [], t => t
  | q :: hs, t => if pu_hg hs t = q.2 then q.1 else pu_hg hs t
/-- every merge was one of two leaders, the lesser has won -/
def pu_V (n : Nat) : List (Nat × Nat) → Prop
  | [] => True
  | q :: hs => q.1 < q.2 ∧ q.2 < n ∧ pu_hg hs q.1 = q.1 ∧ pu_hg hs q.2 = q.2 ∧ pu_V n hs
/-- the rings: each term's next -/
def pu_hr : List (Nat × Nat) → Nat → Nat
  | [], t => t
  | q :: hs, t => if t = q.1 then pu_hr hs q.2 else if t = q.2 then pu_hr hs q.1 else pu_hr hs t
/-- the shapes -/
def pu_hs (sg : Nat → Option Nat) : List (Nat × Nat) → Nat → Option Nat
  | [], t => if sg t = none then none else some t
  | q :: hs, t => if t = q.1 then (match pu_hs sg hs q.1 with
    | none => pu_hs sg hs q.2
    | some x => some x) else pu_hs sg hs t
/-- a leader's ring, but itself -/
def pu_ht : List (Nat × Nat) → Nat → List Nat
  | [], _ => []
  | q :: hs, a => if a = q.1 then pu_ht hs q.2 ++ q.2 :: pu_ht hs q.1 else pu_ht hs a
theorem pu_hg_part : ∀ {hs : List (Nat × Nat)} {n : Nat}, pu_V n hs → ∀ t, pu_hg hs t ≤ t ∧ pu_hg hs (pu_hg hs t) = pu_hg hs t
  | [], _, _, t => ⟨Nat.le_refl _, rfl⟩
  | q :: hs, n, h, t => by
    obtain ⟨h1, h2, h3, h4, h5⟩ := h
    obtain ⟨i1, i2⟩ := pu_hg_part h5 t
    by_cases e : pu_hg hs t = q.2
    · have ht : pu_hg (q :: hs) t = q.1 := by simp only [pu_hg]; rw [if_pos e]
      rw [ht]
      refine ⟨by omega, ?_⟩
      simp only [pu_hg]
      rw [h3, if_neg (by omega)]
    · have ht : pu_hg (q :: hs) t = pu_hg hs t := by simp only [pu_hg]; rw [if_neg e]
      rw [ht]
      refine ⟨i1, ?_⟩
      simp only [pu_hg]
      rw [i2, if_neg e]
theorem pu_V.part {hs : List (Nat × Nat)} {n : Nat} (h : pu_V n hs) : pu_Part n (pu_hg hs) := fun t _ => pu_hg_part h t
theorem pu_V.mono : ∀ {hs : List (Nat × Nat)} {n n' : Nat}, n ≤ n' → pu_V n hs → pu_V n' hs
  | [], _, _, _, _ => trivial
  | _ :: _, _, _, hn, h => ⟨h.1, Nat.lt_of_lt_of_le h.2.1 hn, h.2.2.1, h.2.2.2.1, pu_V.mono hn h.2.2.2.2⟩
theorem pu_V.drop {n : Nat} : ∀ {hs : List (Nat × Nat)} (k : Nat), pu_V n hs → pu_V n (hs.drop k)
  | [], k, _ => by rw [List.drop_nil]; trivial
  | q :: hs, 0, h => h
  | q :: hs, k + 1, h => pu_V.drop (hs := hs) k h.2.2.2.2
theorem pu_hg_new : ∀ {hs : List (Nat × Nat)} {n : Nat}, pu_V n hs → ∀ t, n ≤ t → pu_hg hs t = t
  | [], _, _, _, _ => rfl
  | q :: hs, n, h, t, ht => by
    have i := pu_hg_new h.2.2.2.2 t ht
    have := h.2.1
    simp only [pu_hg]
    rw [i, if_neg (by omega)]
theorem pu_hr_new : ∀ {hs : List (Nat × Nat)} {n : Nat}, pu_V n hs → ∀ t, n ≤ t → pu_hr hs t = t
  | [], _, _, _, _ => rfl
  | q :: hs, n, h, t, ht => by
    have i := pu_hr_new h.2.2.2.2 t ht
    have h1 := h.1
    have h2 := h.2.1
    simp only [pu_hr]
    rw [if_neg (by omega), if_neg (by omega)]
    exact i
theorem pu_hs_new (sg : Nat → Option Nat) : ∀ {hs : List (Nat × Nat)} {n : Nat}, pu_V n hs → ∀ t, n ≤ t → pu_hs sg hs t = if sg t = none then none else some t
  | [], _, _, _, _ => rfl
  | q :: hs, n, h, t, ht => by
    have i := pu_hs_new sg h.2.2.2.2 t ht
    have h1 := h.1
    have h2 := h.2.1
    simp only [pu_hs]
    rw [if_neg (by omega)]
    exact i
/-- coarser and coarser -/
theorem pu_hg_le {hs : List (Nat × Nat)} {q : Nat × Nat} {i j : Nat} (h : pu_hg hs i = pu_hg hs j) : pu_hg (q :: hs) i = pu_hg (q :: hs) j := by
  simp only [pu_hg, h]
/-- a chain of r from x through L to e -/
def pu_ch (r : Nat → Nat) : Nat → List Nat → Nat → Prop
  | x, [], e => r x = e
  | x, y :: L, e => r x = y ∧ pu_ch r y L e
theorem pu_ch_app {r : Nat → Nat} {z e : Nat} {B : List Nat} : ∀ {x : Nat} {A : List Nat}, pu_ch r x A z → pu_ch r z B e → pu_ch r x (A ++ z :: B) e
  | _, [], h, h2 => ⟨h, h2⟩
  | _, _ :: _, h, h2 => ⟨h.1, pu_ch_app h.2 h2⟩
/-- the first link from elsewhere, the others as they were -/
theorem pu_ch_from {r r' : Nat → Nat} {e : Nat} : ∀ {L : List Nat} {x x' : Nat}, pu_ch r x L e → r' x' = r x → (∀ y ∈ L, r' y = r y) → pu_ch r' x' L e
  | [], _, _, h, h1, _ => h1.trans h
  | y :: L, _, _, h, h1, h2 => ⟨h1.trans h.1, pu_ch_from h.2 (h2 y List.mem_cons_self) (fun z hz => h2 z (List.mem_cons_of_mem _ hz))⟩
/-- a leader's ring: a cycle, each of its members once, just its group -/
theorem pu_ring : ∀ {hs : List (Nat × Nat)} {n : Nat}, pu_V n hs → ∀ a, pu_hg hs a = a → pu_ch (pu_hr hs) a (pu_ht hs a) a ∧ (a :: pu_ht hs a).Nodup ∧ ∀ t, t ∈ a :: pu_ht hs a ↔ pu_hg hs t = a
  | [], _, _, a, _ => ⟨rfl, by simp [pu_ht], fun t => by simp [pu_ht, pu_hg]⟩
  | q :: hs, n, h, a, ha => by
    obtain ⟨w, l⟩ := q
    obtain ⟨h1, h2, h3, h4, h5⟩ := h
    simp only at h1 h2 h3 h4
    obtain ⟨c1, d1, m1⟩ := pu_ring h5 w h3
    obtain ⟨c2, d2, m2⟩ := pu_ring h5 l h4
    have hga : pu_hg hs a ≠ l := by
      intro e
      simp only [pu_hg, e, if_true] at ha
      subst ha
      omega
    have hga2 : pu_hg hs a = a := by
      simp only [pu_hg, if_neg hga] at ha
      exact ha
    have old : ∀ y, y ≠ w → y ≠ l → pu_hr ((w, l) :: hs) y = pu_hr hs y := fun y y1 y2 => by simp only [pu_hr, if_neg y1, if_neg y2]
    have inW : ∀ y, y ∈ pu_ht hs w → y ≠ w ∧ y ≠ l := fun y hy => by
      refine ⟨fun e => (List.nodup_cons.mp d1).1 (e ▸ hy), fun e => ?_⟩
      have := (m1 y).mp (List.mem_cons_of_mem _ hy)
      rw [e, h4] at this
      omega
    have inL : ∀ y, y ∈ pu_ht hs l → y ≠ w ∧ y ≠ l := fun y hy => by
      refine ⟨fun e => ?_, fun e => (List.nodup_cons.mp d2).1 (e ▸ hy)⟩
      have := (m2 y).mp (List.mem_cons_of_mem _ hy)
      rw [e, h3] at this
      omega
    by_cases haw : a = w
    · subst haw
      have hT : pu_ht ((a, l) :: hs) a = pu_ht hs l ++ l :: pu_ht hs a := by simp only [pu_ht, if_true]
      rw [hT]
      refine ⟨?_, ?_, fun t => ?_⟩
      · refine pu_ch_app (pu_ch_from c2 (by simp only [pu_hr, if_true]) (fun y hy => old y (inL y hy).1 (inL y hy).2)) (pu_ch_from c1 (by simp only [pu_hr]; rw [if_neg (by omega), if_pos trivial]) (fun y hy => old y (inW y hy).1 (inW y hy).2))
      · rw [List.nodup_cons, List.nodup_append]
        have n1 := List.nodup_cons.mp d1
        have n2 := List.nodup_cons.mp d2
        refine ⟨?_, n2.2, ?_, ?_⟩
        · rw [List.mem_append, List.mem_cons]
          rintro (z | z | z)
          · exact (inL a z).1 rfl
          · omega
          · exact n1.1 z
        · rw [List.nodup_cons]
          exact ⟨fun z => (inW l z).2 rfl, n1.2⟩
        · intro x hx y hy e
          subst e
          rcases List.mem_cons.mp hy with z | z
          · exact (inL x hx).2 z
          · have e1 := (m2 x).mp (List.mem_cons_of_mem _ hx)
            have e2 := (m1 x).mp (List.mem_cons_of_mem _ z)
            omega
      · have k1 := m1 t
        have k2 := m2 t
        simp only [List.mem_cons] at k1 k2
        simp only [List.mem_cons, List.mem_append, pu_hg]
        by_cases e : pu_hg hs t = l
        · rw [if_pos e]
          have := k2.mpr e
          constructor
          · intro _; rfl
          · intro _
            rcases this with z | z
            · exact Or.inr (Or.inr (Or.inl z))
            · exact Or.inr (Or.inl z)
        · rw [if_neg e]
          have ne := fun z => e (k2.mp z)
          constructor
          · rintro (z | z | z | z)
            · exact k1.mp (Or.inl z)
            · exact absurd (Or.inr z) ne
            · exact absurd (Or.inl z) ne
            · exact k1.mp (Or.inr z)
          · intro z
            rcases k1.mpr z with y | y
            · exact Or.inl y
            · exact Or.inr (Or.inr (Or.inr y))
    · have hal : a ≠ l := fun e => hga (by rw [hga2, e])
      obtain ⟨c3, d3, m3⟩ := pu_ring h5 a hga2
      have hT : pu_ht ((w, l) :: hs) a = pu_ht hs a := by simp only [pu_ht, if_neg haw]
      rw [hT]
      have inA : ∀ y, y ∈ pu_ht hs a → y ≠ w ∧ y ≠ l := fun y hy => by
        have e := (m3 y).mp (List.mem_cons_of_mem _ hy)
        refine ⟨fun z => haw ?_, fun z => hal ?_⟩
        · rw [z, h3] at e; exact e.symm
        · rw [z, h4] at e; exact e.symm
      refine ⟨pu_ch_from c3 (old a haw hal) (fun y hy => old y (inA y hy).1 (inA y hy).2), d3, fun t => ?_⟩
      rw [m3 t]
      simp only [pu_hg]
      by_cases e : pu_hg hs t = l
      · rw [if_pos e, e]
        exact ⟨fun z => absurd z.symm hal, fun z => absurd z.symm haw⟩
      · rw [if_neg e]
/-- a leader's shape: a term with a sign of its group; none only if it has none -/
theorem pu_shape (sg : Nat → Option Nat) : ∀ {hs : List (Nat × Nat)} {n : Nat}, pu_V n hs → ∀ a, pu_hg hs a = a → (∀ x, pu_hs sg hs a = some x → pu_hg hs x = a ∧ sg x ≠ none) ∧ (pu_hs sg hs a = none → ∀ t, pu_hg hs t = a → sg t = none)
  | [], _, _, a, _ => by
    refine ⟨fun x hx => ?_, fun hn t ht => ?_⟩
    · simp only [pu_hs] at hx
      by_cases e : sg a = none
      · rw [if_pos e] at hx; cases hx
      · rw [if_neg e] at hx
        cases hx
        exact ⟨rfl, e⟩
    · simp only [pu_hg] at ht
      subst ht
      simp only [pu_hs] at hn
      by_cases e : sg t = none
      · exact e
      · rw [if_neg e] at hn; cases hn
  | q :: hs, n, h, a, ha => by
    obtain ⟨w, l⟩ := q
    obtain ⟨h1, h2, h3, h4, h5⟩ := h
    simp only at h1 h2 h3 h4
    obtain ⟨sw, nw⟩ := pu_shape sg h5 w h3
    obtain ⟨sl, nl⟩ := pu_shape sg h5 l h4
    have hga : pu_hg hs a ≠ l := by
      intro e
      simp only [pu_hg, e, if_true] at ha
      subst ha
      omega
    have hga2 : pu_hg hs a = a := by
      simp only [pu_hg, if_neg hga] at ha
      exact ha
    by_cases haw : a = w
    · subst haw
      refine ⟨fun x hx => ?_, fun hn t ht => ?_⟩
      · simp only [pu_hs, if_true] at hx
        cases hsw : pu_hs sg hs a with
        | none =>
          rw [hsw] at hx
          obtain ⟨e1, e2⟩ := sl x hx
          refine ⟨?_, e2⟩
          simp only [pu_hg, e1, if_true]
        | some y =>
          rw [hsw] at hx
          cases hx
          obtain ⟨e1, e2⟩ := sw x hsw
          refine ⟨?_, e2⟩
          simp only [pu_hg, e1]
          rw [if_neg (by omega)]
      · simp only [pu_hs, if_true] at hn
        cases hsw : pu_hs sg hs a with
        | some y => rw [hsw] at hn; cases hn
        | none =>
          rw [hsw] at hn
          simp only [pu_hg] at ht
          by_cases e : pu_hg hs t = l
          · exact nl hn t e
          · rw [if_neg e] at ht
            exact nw hsw t ht
    · have hal : a ≠ l := fun e => hga (by rw [hga2, e])
      obtain ⟨sa, na⟩ := pu_shape sg h5 a hga2
      refine ⟨fun x hx => ?_, fun hn t ht => ?_⟩
      · simp only [pu_hs, if_neg haw] at hx
        obtain ⟨e1, e2⟩ := sa x hx
        refine ⟨?_, e2⟩
        simp only [pu_hg, e1]
        rw [if_neg hal]
      · simp only [pu_hs, if_neg haw] at hn
        simp only [pu_hg] at ht
        by_cases e : pu_hg hs t = l
        · rw [if_pos e] at ht
          exact absurd ht.symm haw
        · rw [if_neg e] at ht
          exact na hn t ht
