/-! PAIRS: unknowns. -/
theorem pu_cn_no {p : Nat → Bool} : ∀ {n : Nat}, (∀ t, p t = false) → pu_cn p n = 0
  | 0, _ => rfl
  | n + 1, h => by simp [pu_cn, h n, pu_cn_no h]
theorem pu_fl {p : Nat → Bool} {n : Nat} : ∀ {L : List Nat}, L.Nodup → (∀ x ∈ L, x < n) → (L.filter p).length = pu_cn (fun x => decide (x ∈ L ∧ p x = true)) n
  | [], _, _ => by rw [pu_cn_no (fun t => by simp)]; rfl
  | x :: L, nd, hl => by
    have nd' := List.nodup_cons.mp nd
    have ih := pu_fl (p := p) (n := n) nd'.2 (fun y hy => hl y (List.mem_cons_of_mem _ hy))
    cases e : p x with
    | true =>
      have := (pu_cn_less (p := fun y => decide (y ∈ x :: L ∧ p y = true)) (q := fun y => decide (y ∈ L ∧ p y = true)) (l := x) (by simp [e]) (by simp [nd'.1]) (fun t ht => by simp [ht]) (n := n)).1 (hl x List.mem_cons_self)
      rw [List.filter_cons_of_pos e, List.length_cons, ih]
      exact this
    | false =>
      rw [List.filter_cons_of_neg (by simp [e]), ih]
      refine pu_cn_congr (fun t _ => ?_)
      by_cases z : t = x
      · subst z; simp [e]
      · simp [z]
section PAIR6
variable {hX hY : am_S}
theorem pr_unknowns (R : tn_R hX hY) {a : Int32} : am_AW tn_G tn_X (52, 0, 0, [some (.ref 0), some (.int a)], [], hX) (fun hX' o => am_AW tn_G tn_Y (73, 0, 0, [some (.ref 0), some (.int a), none, none], [], hY) (fun hY' o' => tn_R hX' hY' ∧ tn_ag tn_nA o o' (hY'.1 4))) := by
  obtain ⟨n, m, ar, sg, pt, hs, eq, P, I, J⟩ := R
  have hn := I.1.le
  refine sp_52 I (fun t O h' ht ea nd hO iff I' => ?_) (fun e => ?_)
  · refine sp_73 J I.1.V I.2.1 (fun t2 L h2 ht2 ea2 nd2 hL iff2 f th => ?_) (fun e => absurd ea (e t ht))
    have e2 : t2 = t := by
      rw [ea, nI_eq (by omega) (by omega)] at ea2
      exact ea2.symm
    subst e2
    refine ⟨⟨_, _, _, _, _, _, _, _, I', J.fA f⟩, Or.inl ⟨_, rfl, ?_, th⟩⟩
    have cc : pu_cn (fun x => decide (x ∈ L ∧ pu_hs sg hs x = none)) n = pu_cn (fun x => decide (x ∈ O ∧ decide (pu_hs sg hs x = none) = true)) n := pu_cn_congr (fun u _ => decide_eq_decide.mpr (by rw [decide_eq_true_eq, iff2, iff]))
    rw [pu_fl nd (fun x hx => (hO x hx).1), cc]
  · exact sp_73 J I.1.V I.2.1 (fun t2 L h2 ht2 ea2 => absurd ea2 (e t2 ht2)) (fun _ => ⟨⟨_, _, _, _, _, _, _, _, I, J.fA tn_fA.t⟩, Or.inr ⟨_, _, rfl, by decide, by decide, by simp only [pk_us]; rfl, rfl⟩⟩)
end PAIR6
