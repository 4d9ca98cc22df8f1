/-! PURE: what one more term does; what is told, changed elsewhere. -/
section GR
variable {n : Nat} {sg sg' : Nat → Option Nat} {ar ar' : Nat → Nat} {pt pt' : Nat → Nat → Nat} {hs : List (Nat × Nat)}
theorem pu_hs_congr (h : ∀ t, t < n → sg' t = sg t) : ∀ {hs : List (Nat × Nat)}, pu_V n hs → ∀ t, t < n → pu_hs sg' hs t = pu_hs sg hs t
  | [], _, t, ht => by simp only [pu_hs, h t ht]
  | (w, l) :: hs, hV, t, ht => by
    obtain ⟨h1, h2, h3, h4, h5⟩ := hV
    simp only at h1 h2
    simp only [pu_hs]
    rw [pu_hs_congr h h5 w (by omega), pu_hs_congr h h5 l h2, pu_hs_congr h h5 t ht]
/-- told alike below n -/
def pu_al (n : Nat) (sg sg' : Nat → Option Nat) (ar ar' : Nat → Nat) (pt pt' : Nat → Nat → Nat) : Prop := ∀ t, t < n → sg' t = sg t ∧ pu_np sg' ar' t = pu_np sg ar t ∧ ∀ k, k < pu_np sg ar t → pt' t k = pt t k
theorem pu_al.E {g : Nat → Nat} (h : pu_al n sg sg' ar ar' pt pt') {i j : Nat} (hi : i < n) (hj : j < n) : pu_E sg' ar' pt' g i j ↔ pu_E sg ar pt g i j := by
  obtain ⟨a1, a2, a3⟩ := h i hi
  obtain ⟨b1, b2, b3⟩ := h j hj
  constructor
  · intro q
    have e : sg i = sg j := by rw [← a1, ← b1]; exact q.1
    exact ⟨e, fun k hk => by
      have := q.2 k (by rw [a2]; exact hk)
      rw [a3 k hk, b3 k (by rw [← pu_np_eq e]; exact hk)] at this
      exact this⟩
  · intro q
    refine ⟨by rw [a1, b1]; exact q.1, fun k hk => ?_⟩
    rw [a2] at hk
    rw [a3 k hk, b3 k (by rw [← pu_np_eq q.1]; exact hk)]
    exact q.2 k hk
theorem pu_al.good {g : Nat → Nat} (h : pu_al n sg sg' ar ar' pt pt') (hG : pu_Good n sg ar pt g) : pu_Good n sg' ar' pt' g := by
  obtain ⟨g1, g2, g3, rk, g4⟩ := hG
  refine ⟨g1, fun i j hi hj hsi hsj e => (h.E hi hj).mpr (g2 i j hi hj (by rw [← (h i hi).1]; exact hsi) (by rw [← (h j hj).1]; exact hsj) e), fun i j hi hj hsi hE => g3 i j hi hj (by rw [← (h i hi).1]; exact hsi) ((h.E hi hj).mp hE), rk, fun t ht k hk => ?_⟩
  obtain ⟨a1, a2, a3⟩ := h t ht
  rw [a2] at hk
  rw [a3 k hk]
  exact g4 t ht k hk
theorem pu_al.told (h : pu_al n sg sg' ar ar' pt pt') (hT : pu_Told n sg ar pt) : pu_Told n sg' ar' pt' := fun t ht k hk => by
  obtain ⟨a1, a2, a3⟩ := h t ht
  rw [a2] at hk
  rw [a3 k hk]
  exact hT t ht k hk
theorem pu_al.less {m : Nat} (h : pu_al n sg sg' ar ar' pt pt') (hm : m ≤ n) : pu_al m sg sg' ar ar' pt pt' := fun t ht => h t (by omega)
/-- the good partition, with one term more that stands alone -/
theorem pu_new_part (hV : pu_V n hs) : pu_hg hs n = n ∧ ∀ t, t < n → pu_hg hs t < n := ⟨pu_hg_new hV n (Nat.le_refl _), fun _ ht => hV.part.lt ht⟩
theorem pu_grow (hV : pu_V n hs) (hG : pu_Good n sg ar pt (pu_hg hs)) (hT : pu_Told (n + 1) sg ar pt) (hno : sg n ≠ none → ∀ u, u < n → sg u ≠ none → ¬ pu_E sg ar pt (pu_hg hs) u n) : pu_Res (n + 1) sg ar pt (pu_hg hs) 0 0 (pu_hg hs) := by
  obtain ⟨g1, g2, g3, rk, g4⟩ := hG
  obtain ⟨hn, hlt⟩ := pu_new_part hV
  refine ⟨⟨(hV.mono (Nat.le_succ n)).part, fun i j hi hj hsi hsj e => ?_, fun i j hi hj hsi hE => ?_, fun _ _ _ _ e => e, rfl⟩, ⟨fun x => if x = n then pu_sm rk n + 1 else rk x, fun t ht k hk => ?_⟩, fun g' h' => h'.2.2.2.1⟩
  · by_cases e1 : i = n
    · by_cases e2 : j = n
      · rw [e1, e2]; exact pu_E.rfl'
      · have := hlt j (by omega)
        rw [e1, hn] at e
        omega
    · by_cases e2 : j = n
      · have := hlt i (by omega)
        rw [e2, hn] at e
        omega
      · exact g2 i j (by omega) (by omega) hsi hsj e
  · by_cases e1 : i = n
    · by_cases e2 : j = n
      · rw [e1, e2]
      · exfalso
        subst e1
        exact hno hsi j (by omega) (fun q => hsi (hE.1.trans q)) hE.symm
    · by_cases e2 : j = n
      · exfalso
        subst e2
        exact hno (fun q => hsi (hE.1.trans q)) i (by omega) hsi hE
      · exact g3 i j (by omega) (by omega) hsi hE
  · have hp := hT t ht k hk
    have hpl := hlt (pt t k) (by omega)
    simp only
    rw [if_neg (by omega)]
    by_cases e : t = n
    · rw [e] at hpl
      rw [e, hn, if_pos rfl]
      have := pu_sm_ge (f := rk) (n := n) (x := pu_hg hs (pt n k)) hpl
      omega
    · have := hlt t (by omega)
      rw [if_neg (by omega)]
      exact g4 t (by omega) k hk
/-- .. that has a twin -/
theorem pu_grow_twin (hV : pu_V n hs) (hG : pu_Good n sg ar pt (pu_hg hs)) (hT : pu_Told (n + 1) sg ar pt) {u : Nat} (hu : u < n) (hsu : sg u ≠ none) (hE0 : pu_E sg ar pt (pu_hg hs) u n) : pu_Res (n + 1) sg ar pt (pu_hg hs) 0 0 (pu_hg (pu_jn hs u n)) := by
  obtain ⟨g1, g2, g3, rk, g4⟩ := hG
  obtain ⟨hn, hlt⟩ := pu_new_part hV
  have hgu := hlt u hu
  have hV1 := hV.mono (Nat.le_succ n)
  have hVj := pu_jn_V hV1 (a := u) (b := n) (by omega) (by omega)
  have hj : ∀ t, t ≤ n → pu_hg (pu_jn hs u n) t = if t = n then pu_hg hs u else pu_hg hs t := fun t ht => by
    unfold pu_jn
    rw [hn, if_neg (by omega), if_pos hgu]
    simp only [pu_hg]
    by_cases e : t = n
    · rw [if_pos e, e, hn, if_pos rfl]
    · have := hlt t (by omega)
      rw [if_neg e, if_neg (by omega)]
  have old : ∀ t, t < n → pu_hg (pu_jn hs u n) t = pu_hg hs t := fun t ht => by rw [hj t (by omega), if_neg (by omega)]
  have hE : ∀ i j, i ≤ n → j ≤ n → (pu_E sg ar pt (pu_hg (pu_jn hs u n)) i j ↔ pu_E sg ar pt (pu_hg hs) i j) := fun i j hi hj9 => by
    constructor
    · intro q
      exact ⟨q.1, fun k hk => by
        have a1 := hT i (by omega) k hk
        have a2 := hT j (by omega) k (by rw [← pu_np_eq q.1]; exact hk)
        have := q.2 k hk
        rwa [old _ (by omega), old _ (by omega)] at this⟩
    · intro q
      exact ⟨q.1, fun k hk => by
        have a1 := hT i (by omega) k hk
        have a2 := hT j (by omega) k (by rw [← pu_np_eq q.1]; exact hk)
        rw [old _ (by omega), old _ (by omega)]
        exact q.2 k hk⟩
  refine ⟨⟨hVj.part, fun i j hi hj9 hsi hsj e => (hE i j (by omega) (by omega)).mpr ?_, fun i j hi hj9 hsi q => ?_, fun i j _ _ e => pu_jn_le e, rfl⟩, ⟨rk, fun t ht k hk => ?_⟩, fun g' h' => pu_jn_min hV1 h'.2.2.2.1 (by omega) (by omega) (h'.2.2.1 u n (by omega) (by omega) hsu (hE0.coarse hT h'.2.2.2.1 (by omega) (by omega)))⟩
  · rw [hj i (by omega), hj j (by omega)] at e
    by_cases e1 : i = n
    · by_cases e2 : j = n
      · rw [e1, e2]; exact pu_E.rfl'
      · rw [if_pos e1, if_neg e2] at e
        rw [e1]
        exact hE0.symm.trans (g2 u j hu (by omega) hsu hsj e)
    · by_cases e2 : j = n
      · rw [if_neg e1, if_pos e2] at e
        rw [e2]
        exact (g2 i u (by omega) hu hsi hsu e).trans hE0
      · rw [if_neg e1, if_neg e2] at e
        exact g2 i j (by omega) (by omega) hsi hsj e
  · have q := (hE i j (by omega) (by omega)).mp q
    rw [hj i (by omega), hj j (by omega)]
    by_cases e1 : i = n
    · by_cases e2 : j = n
      · rw [if_pos e1, if_pos e2]
      · rw [if_pos e1, if_neg e2]
        rw [e1] at q
        exact g3 u j hu (by omega) hsu (hE0.trans q)
    · by_cases e2 : j = n
      · rw [if_neg e1, if_pos e2]
        rw [e2] at q
        exact g3 i u (by omega) hu hsi (q.trans hE0.symm)
      · rw [if_neg e1, if_neg e2]
        exact g3 i j (by omega) (by omega) hsi q
  · have hp := hT t ht k hk
    rw [old _ (by omega), hj t (by omega)]
    by_cases e : t = n
    · rw [if_pos e]
      subst e
      rw [← hE0.2 k (by rw [pu_np_eq hE0.1]; exact hk)]
      exact g4 u hu k (by rw [pu_np_eq hE0.1]; exact hk)
    · rw [if_neg e]
      exact g4 t (by omega) k hk
theorem pu_Res.good {g0 g : Nat → Nat} {a b : Nat} (h : pu_Res n sg ar pt g0 a b g) : pu_Good n sg ar pt g := ⟨h.1.1, h.1.2.1, h.1.2.2.1, h.2.1⟩
end GR
