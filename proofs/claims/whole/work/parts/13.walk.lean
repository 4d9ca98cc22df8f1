/-! PURE: a walk in depth. deg x: how many parts a group has; ch x k: its part k. P: the path, its end first; O: what is done, the latest first; tr: parts tried. R: a property that goes down. -/
def pu_top (deg : Nat → Nat) (ch : Nat → Nat → Nat) : List Nat → Prop
  | [] => True
  | x :: O => (∀ k, k < deg x → ch x k ∈ O) ∧ pu_top deg ch O
def pu_pth (deg : Nat → Nat) (ch : Nat → Nat → Nat) (O : List Nat) (tr : Nat → Nat) : Option Nat → List Nat → Prop
  | _, [] => True
  | up, x :: P => tr x ≤ deg x ∧ (∀ k, k < tr x → ch x k ∈ O ∨ up = some (ch x k)) ∧ (∀ c, up = some c → ∃ k, k < deg x ∧ ch x k = c) ∧ pu_pth deg ch O tr (some x) P
def pu_DS (n : Nat) (deg : Nat → Nat) (ch : Nat → Nat → Nat) (R : Nat → Prop) (P O : List Nat) (tr : Nat → Nat) : Prop :=
  (P ++ O).Nodup ∧ (∀ x ∈ P ++ O, x < n ∧ R x) ∧ pu_top deg ch O ∧ pu_pth deg ch O tr none P
theorem pu_pth_more {deg : Nat → Nat} {ch : Nat → Nat → Nat} {O O' : List Nat} {tr tr' : Nat → Nat} (hO : ∀ x ∈ O, x ∈ O') : ∀ {P : List Nat} {up : Option Nat}, (∀ x ∈ P, tr' x = tr x) → pu_pth deg ch O tr up P → pu_pth deg ch O' tr' up P
  | [], _, _, _ => trivial
  | x :: P, up, ht, h => by
    obtain ⟨h1, h2, h3, h4⟩ := h
    have e := ht x List.mem_cons_self
    refine ⟨by rw [e]; exact h1, fun k hk => ?_, h3, pu_pth_more hO (fun y hy => ht y (List.mem_cons_of_mem _ hy)) h4⟩
    rcases h2 k (by rw [← e]; exact hk) with z | z
    · exact Or.inl (hO _ z)
    · exact Or.inr z
section PD
variable {n : Nat} {deg : Nat → Nat} {ch : Nat → Nat → Nat} {R : Nat → Prop} {P O : List Nat} {tr : Nat → Nat}
/-- down to a new one -/
theorem pu_DS.push {x c : Nat} (h : pu_DS n deg ch R (x :: P) O tr) (ht : tr x < deg x) (hc : ch x (tr x) = c) (hn : c < n) (hR : R c) (hP : c ∉ x :: P) (hO : c ∉ O) : pu_DS n deg ch R (c :: x :: P) O (fun y => if y = c then 0 else if y = x then tr x + 1 else tr y) := by
  obtain ⟨d1, d2, d3, d4, d5, d6, d7⟩ := h
  have hxc : x ≠ c := fun e => hP (by rw [← e]; exact List.mem_cons_self)
  have nd := List.nodup_append.mp d1
  have hxP : x ∉ P := (List.nodup_cons.mp nd.1).1
  refine ⟨?_, ?_, d3, ?_⟩
  · show (c :: (x :: P ++ O)).Nodup
    rw [List.nodup_cons]
    exact ⟨fun q => (List.mem_append.mp q).elim hP hO, d1⟩
  · intro y hy
    rcases List.mem_cons.mp hy with e | hy
    · subst e; exact ⟨hn, hR⟩
    · exact d2 y hy
  · refine ⟨by simp, fun k hk => by simp at hk, fun _ q => (by cases q), ?_, ?_, ?_, ?_⟩
    · simp only [if_neg hxc, if_true]; omega
    · intro k hk
      simp only [if_neg hxc, if_true] at hk
      by_cases e : k = tr x
      · right; rw [e, hc]
      · rcases d5 k (by omega) with z | z
        · exact Or.inl z
        · cases z
    · intro c' e
      cases e
      exact ⟨tr x, ht, hc⟩
    · refine pu_pth_more (fun _ z => z) (fun y hy => ?_) d7
      have h1 : y ≠ c := fun e => hP (by rw [← e]; exact List.mem_cons_of_mem _ hy)
      have h2 : y ≠ x := fun e => hxP (e ▸ hy)
      simp only [if_neg h1, if_neg h2]
/-- a part that is done -/
theorem pu_DS.skip {x c : Nat} (h : pu_DS n deg ch R (x :: P) O tr) (ht : tr x < deg x) (hc : ch x (tr x) = c) (hO : c ∈ O) : pu_DS n deg ch R (x :: P) O (fun y => if y = x then tr x + 1 else tr y) := by
  obtain ⟨d1, d2, d3, d4, d5, d6, d7⟩ := h
  have nd := List.nodup_append.mp d1
  have hxP : x ∉ P := (List.nodup_cons.mp nd.1).1
  refine ⟨d1, d2, d3, by simp only [if_true]; omega, fun k hk => ?_, d6, pu_pth_more (fun _ z => z) (fun y hy => ?_) d7⟩
  · simp only [if_true] at hk
    by_cases e : k = tr x
    · left; rw [e, hc]; exact hO
    · exact d5 k (by omega)
  · have h2 : y ≠ x := fun e => hxP (e ▸ hy)
    simp only [if_neg h2]
/-- all parts tried -/
theorem pu_DS.pop {x : Nat} (h : pu_DS n deg ch R (x :: P) O tr) (ht : deg x ≤ tr x) : pu_DS n deg ch R P (x :: O) tr := by
  obtain ⟨d1, d2, d3, d4, d5, d6, d7⟩ := h
  have all : ∀ k, k < deg x → ch x k ∈ O := fun k hk => by
    rcases d5 k (by omega) with z | z
    · exact z
    · cases z
  refine ⟨?_, ?_, ⟨all, d3⟩, ?_⟩
  · rw [List.cons_append, List.nodup_cons] at d1
    rw [List.nodup_append]
    have nd := List.nodup_append.mp d1.2
    refine ⟨nd.1, ?_, fun a ha b hb => ?_⟩
    · rw [List.nodup_cons]
      exact ⟨fun q => d1.1 (List.mem_append_right _ q), nd.2.1⟩
    · intro e
      subst e
      rcases List.mem_cons.mp hb with e | hb
      · subst e
        exact d1.1 (List.mem_append_left _ ha)
      · exact nd.2.2 a ha a hb rfl
  · intro y hy
    apply d2 y
    rcases List.mem_append.mp hy with q | q
    · exact List.mem_cons_of_mem _ (List.mem_append_left _ q)
    · rcases List.mem_cons.mp q with e | q
      · subst e; exact List.mem_cons_self
      · exact List.mem_cons_of_mem _ (List.mem_append_right _ q)
  · cases P with
    | nil => trivial
    | cons y P =>
      obtain ⟨e1, e2, e3, e4⟩ := d7
      refine ⟨e1, fun k hk => ?_, fun _ q => (by cases q), pu_pth_more (fun _ z => List.mem_cons_of_mem _ z) (fun _ _ => rfl) e4⟩
      left
      rcases e2 k hk with z | z
      · exact List.mem_cons_of_mem _ z
      · cases z
        exact List.mem_cons_self
/-- a path goes down in rank -/
theorem pu_pth_rk {rk : Nat → Nat} (hrk : ∀ x, x < n → ∀ k, k < deg x → rk (ch x k) < rk x) : ∀ {P : List Nat} {c : Nat}, (∀ x ∈ P, x < n) → pu_pth deg ch O tr (some c) P → ∀ y ∈ P, rk c < rk y
  | [], _, _, _, y, hy => by cases hy
  | x :: P, c, hn, h, y, hy => by
    obtain ⟨-, -, h3, h4⟩ := h
    obtain ⟨k, hk, e⟩ := h3 c rfl
    have l1 := hrk x (hn x List.mem_cons_self) k hk
    rw [e] at l1
    rcases List.mem_cons.mp hy with e2 | hy
    · subst e2; exact l1
    · exact Nat.lt_trans l1 (pu_pth_rk hrk (fun z hz => hn z (List.mem_cons_of_mem _ hz)) h4 y hy)
/-- a part on the path: no rank -/
theorem pu_DS.cyc {x : Nat} (h : pu_DS n deg ch R (x :: P) O tr) (ht : tr x < deg x) (hP : ch x (tr x) ∈ x :: P) (rk : Nat → Nat) (hrk : ∀ x, x < n → ∀ k, k < deg x → rk (ch x k) < rk x) : False := by
  obtain ⟨d1, d2, d3, d4, d5, d6, d7⟩ := h
  have hn : ∀ y ∈ x :: P, y < n := fun y hy => (d2 y (List.mem_append_left _ hy)).1
  have l1 := hrk x (hn x List.mem_cons_self) (tr x) ht
  rcases List.mem_cons.mp hP with e | hP
  · rw [e] at l1; omega
  · have := pu_pth_rk hrk (fun z hz => hn z (List.mem_cons_of_mem _ hz)) d7 _ hP
    omega
end PD
/-- sums, and what is still to be done -/
def pu_sm (f : Nat → Nat) : Nat → Nat
  | 0 => 0
  | n + 1 => pu_sm f n + f n
theorem pu_sm_congr {f g : Nat → Nat} : ∀ {n : Nat}, (∀ t, t < n → f t = g t) → pu_sm f n = pu_sm g n
  | 0, _ => rfl
  | n + 1, h => by
    simp only [pu_sm]
    rw [pu_sm_congr (fun t ht => h t (by omega)), h n (by omega)]
theorem pu_sm_dec {f g : Nat → Nat} {x : Nat} (he : ∀ t, t ≠ x → g t = f t) (hx : g x + 1 = f x) : ∀ {n : Nat}, x < n → pu_sm g n + 1 = pu_sm f n
  | 0, h => by omega
  | n + 1, h => by
    simp only [pu_sm]
    by_cases e : n = x
    · subst e
      rw [pu_sm_congr (fun t ht => he t (by omega))]
      omega
    · have := pu_sm_dec he hx (n := n) (by omega)
      rw [he n e]
      omega
theorem pu_sm_le {f : Nat → Nat} {b : Nat} : ∀ {n : Nat}, (∀ t, t < n → f t ≤ b) → pu_sm f n ≤ b * n
  | 0, _ => by simp [pu_sm]
  | n + 1, h => by
    have h1 := pu_sm_le (b := b) (n := n) (fun t ht => h t (by omega))
    have h2 := h n (by omega)
    simp only [pu_sm]
    rw [Nat.mul_succ]
    omega
theorem pu_sm_ge {f : Nat → Nat} {x : Nat} : ∀ {n : Nat}, x < n → f x ≤ pu_sm f n
  | 0, h => by omega
  | n + 1, h => by
    simp only [pu_sm]
    by_cases e : n = x
    · subst e; omega
    · have := pu_sm_ge (f := f) (n := n) (x := x) (by omega)
      omega
def pu_mw (deg : Nat → Nat) (P O : List Nat) (tr : Nat → Nat) (t : Nat) : Nat := if t ∈ O then 0 else if t ∈ P then deg t - tr t + 1 else deg t + 1
