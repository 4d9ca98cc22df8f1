/-! PAIRS: size, depth. -/
section PAIR4
variable {hX hY : am_S}
theorem pr_size (R : tn_R hX hY) {a : Int32} : am_AW tn_G tn_X (49, 0, 0, [some (.ref 0), some (.int a)], [], hX) (fun hX' o => am_AW tn_G tn_Y (69, 0, 0, [some (.ref 0), some (.int a), none], [], hY) (fun hY' o' => tn_R hX' hY' ∧ tn_ag tn_nA o o' (hY'.1 4))) := by
  obtain ⟨n, m, ar, sg, pt, hs, eq, P, I, J⟩ := R
  have hn := I.1.le
  obtain ⟨rk, hrk⟩ := I.A
  refine sp_49 I (fun t f h' ht ea hf I' => ?_) (fun e => ?_)
  · refine sp_69 J I.1.V I.2.1 (fun t2 f2 h2 ht2 ea2 hf2 fr th => ?_) (fun e => absurd ea (e t ht))
    have e2 : t2 = t := by
      rw [ea, nI_eq (by omega) (by omega)] at ea2
      exact ea2.symm
    subst e2
    have key : ∀ N x, rk x < N → x < n → pu_hg hs x = x → tn_rc n ar sg pt hs (pu_hg hs t2) x → f x = f2 x := by
      intro N
      induction N with
      | zero => intro x q; omega
      | succ N ih =>
        intro x q hx gx rc
        rw [hf x rc, hf2 x hx gx]
        unfold tn_vs
        rw [pu_sm_congr (g := fun k => f2 (tn_ch sg pt hs x k)) (fun k hk => ?_)]
        obtain ⟨s, e1, e3, e4, e5, e6, e7⟩ := I.1.ch hx hk
        have lt := hrk x hx k hk
        exact ih _ (by omega) e6 e7 (fun S q1 q2 => q2 x hx (rc S q1 q2) k hk)
    refine ⟨⟨_, _, _, _, _, _, _, _, I', J.fA fr⟩, Or.inl ⟨_, rfl, ?_, th⟩⟩
    rw [key _ _ (Nat.lt_succ_self _) (I.1.g ht) (pu_hg_part I.1.V t2).2 (fun S q _ => q)]
  · exact sp_69 J I.1.V I.2.1 (fun t2 f2 h2 ht2 ea2 => absurd ea2 (e t2 ht2)) (fun _ => ⟨⟨_, _, _, _, _, _, _, _, I, J.fA tn_fA.t⟩, Or.inr ⟨_, _, rfl, by decide, by decide, by simp only [pk_us]; rfl, rfl⟩⟩)
theorem pr_depth (R : tn_R hX hY) {a : Int32} : am_AW tn_G tn_X (50, 0, 0, [some (.ref 0), some (.int a)], [], hX) (fun hX' o => am_AW tn_G tn_Y (70, 0, 0, [some (.ref 0), some (.int a), none], [], hY) (fun hY' o' => tn_R hX' hY' ∧ tn_ag tn_nA o o' (hY'.1 4))) := by
  obtain ⟨n, m, ar, sg, pt, hs, eq, P, I, J⟩ := R
  have hn := I.1.le
  obtain ⟨rk, hrk⟩ := I.A
  refine sp_50 I (fun t f h' ht ea hf I' => ?_) (fun e => ?_)
  · refine sp_70 J I.1.V I.2.1 (fun t2 f2 h2 ht2 ea2 hf2 fr th => ?_) (fun e => absurd ea (e t ht))
    have e2 : t2 = t := by
      rw [ea, nI_eq (by omega) (by omega)] at ea2
      exact ea2.symm
    subst e2
    have key : ∀ N x, rk x < N → x < n → pu_hg hs x = x → tn_rc n ar sg pt hs (pu_hg hs t2) x → f x = f2 x := by
      intro N
      induction N with
      | zero => intro x q; omega
      | succ N ih =>
        intro x q hx gx rc
        rw [hf x rc, hf2 x hx gx]
        unfold tn_vd
        rw [pu_mx_congr (g := fun k => f2 (tn_ch sg pt hs x k)) (fun k hk => ?_)]
        obtain ⟨s, e1, e3, e4, e5, e6, e7⟩ := I.1.ch hx hk
        have lt := hrk x hx k hk
        exact ih _ (by omega) e6 e7 (fun S q1 q2 => q2 x hx (rc S q1 q2) k hk)
    refine ⟨⟨_, _, _, _, _, _, _, _, I', J.fA fr⟩, Or.inl ⟨_, rfl, ?_, th⟩⟩
    rw [key _ _ (Nat.lt_succ_self _) (I.1.g ht) (pu_hg_part I.1.V t2).2 (fun S q _ => q)]
  · exact sp_70 J I.1.V I.2.1 (fun t2 f2 h2 ht2 ea2 => absurd ea2 (e t2 ht2)) (fun _ => ⟨⟨_, _, _, _, _, _, _, _, I, J.fA tn_fA.t⟩, Or.inr ⟨_, _, rfl, by decide, by decide, by simp only [pk_us]; rfl, rfl⟩⟩)
end PAIR4
