/-! PURE: counting; a history is shorter than its terms. -/
def pu_cn (p : Nat → Bool) : Nat → Nat
  | 0 => 0
  | n + 1 => pu_cn p n + (if p n = true then 1 else 0)
theorem pu_cn_congr {p q : Nat → Bool} : ∀ {n : Nat}, (∀ t, t < n → p t = q t) → pu_cn p n = pu_cn q n
  | 0, _ => rfl
  | n + 1, h => by
    simp only [pu_cn]
    rw [pu_cn_congr (fun t ht => h t (by omega)), h n (by omega)]
theorem pu_cn_less {p q : Nat → Bool} {l : Nat} (hp : p l = true) (hq : q l = false) (he : ∀ t, t ≠ l → q t = p t) : ∀ {n : Nat}, (l < n → pu_cn q n + 1 = pu_cn p n) ∧ (n ≤ l → pu_cn q n = pu_cn p n)
  | 0 => ⟨fun h => by omega, fun _ => rfl⟩
  | n + 1 => by
    obtain ⟨i1, i2⟩ := pu_cn_less hp hq he (n := n)
    simp only [pu_cn]
    refine ⟨fun h => ?_, fun h => ?_⟩
    · by_cases e : n = l
      · subst e
        rw [i2 (Nat.le_refl _), hp, hq]
        simp
      · have := i1 (by omega)
        rw [he n e]
        omega
    · rw [i2 (by omega), he n (by omega)]
theorem pu_cn_le {p : Nat → Bool} : ∀ {n : Nat}, pu_cn p n ≤ n
  | 0 => Nat.le_refl _
  | n + 1 => by
    have := pu_cn_le (p := p) (n := n)
    simp only [pu_cn]
    split <;> omega
theorem pu_cn_all {p : Nat → Bool} : ∀ {n : Nat}, (∀ t, t < n → p t = true) → pu_cn p n = n
  | 0, _ => rfl
  | n + 1, h => by
    simp only [pu_cn]
    rw [pu_cn_all (fun t ht => h t (by omega)), h n (by omega)]
    simp
theorem pu_cn_pos {p : Nat → Bool} {l : Nat} (hp : p l = true) : ∀ {n : Nat}, l < n → 0 < pu_cn p n
  | 0, h => by omega
  | n + 1, h => by
    simp only [pu_cn]
    by_cases e : n = l
    · subst e
      rw [hp]
      simp
    · have := pu_cn_pos hp (n := n) (by omega)
      omega
/-- leaders and merges -/
theorem pu_ld : ∀ {hs : List (Nat × Nat)} {n : Nat}, pu_V n hs → pu_cn (fun t => decide (pu_hg hs t = t)) n + hs.length = n
  | [], n, _ => by
    rw [pu_cn_all (fun t _ => by simp [pu_hg])]
    rfl
  | (w, l) :: hs, n, h => by
    obtain ⟨h1, h2, h3, h4, h5⟩ := h
    simp only at h1 h2 h3 h4
    have ih := pu_ld h5
    have key := (pu_cn_less (p := fun t => decide (pu_hg hs t = t)) (q := fun t => decide (pu_hg ((w, l) :: hs) t = t)) (l := l) (by simp [h4]) (by simp only [pu_hg, h4, if_true, decide_eq_false_iff_not]; omega) (fun t ht => by
      simp only [pu_hg]
      by_cases e : pu_hg hs t = l
      · have a1 : ¬ w = t := fun q => by rw [← q, h3] at e; omega
        have a2 : ¬ pu_hg hs t = t := fun q => ht (q.symm.trans e)
        rw [if_pos e]
        simp [a1, a2]
      · rw [if_neg e]) (n := n)).1 h2
    simp only [List.length_cons]
    omega
theorem pu_len {hs : List (Nat × Nat)} {n : Nat} (h : pu_V n hs) (hn : 0 < n) : hs.length < n := by
  have h1 := pu_ld h
  have h2 := pu_cn_pos (p := fun t => decide (pu_hg hs t = t)) (l := 0) (by
    have := (pu_hg_part h 0).1
    simp only [decide_eq_true_eq]
    omega) hn
  omega
theorem pu_len0 {hs : List (Nat × Nat)} {n : Nat} (h : pu_V n hs) : hs.length ≤ n := by
  have h1 := pu_ld h
  omega
/-- a list of different numbers below n is no longer than n -/
theorem pu_nd_len : ∀ {n : Nat} {L : List Nat}, L.Nodup → (∀ y ∈ L, y < n) → L.length ≤ n
  | 0, [], _, _ => Nat.le_refl _
  | 0, y :: _, _, h => absurd (h y List.mem_cons_self) (by omega)
  | n + 1, L, hd, h => by
    have h1 := pu_nd_len (n := n) (L := L.filter (fun y => decide (y ≠ n))) (hd.filter _) (fun y hy => by
      obtain ⟨a, b⟩ := List.mem_filter.mp hy
      have := h y a
      simp only [decide_eq_true_eq] at b
      omega)
    have h2 : ∀ {L : List Nat}, L.Nodup → L.length ≤ (L.filter (fun y => decide (y ≠ n))).length + 1 := by
      intro L
      induction L with
      | nil => intro _; simp
      | cons z L ih =>
        intro hd
        obtain ⟨a, b⟩ := List.nodup_cons.mp hd
        by_cases e : z = n
        · subst e
          have hf : L.filter (fun y => decide (y ≠ z)) = L := by
            apply List.filter_eq_self.mpr
            intro y hy
            simp only [decide_eq_true_eq]
            exact fun q => a (q ▸ hy)
          rw [List.filter_cons_of_neg (by simp), hf]
          simp
        · rw [List.filter_cons_of_pos (by simp [e])]
          have := ih b
          simp only [List.length_cons]
          omega
    have := h2 hd
    omega
