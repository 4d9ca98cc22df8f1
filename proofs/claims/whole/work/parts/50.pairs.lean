/-! PAIRS: class and reference do the same. -/
def tn_nS (E : String) : Nat := if E = "java/lang/IllegalArgumentException" then 1 else if E = "java/lang/IndexOutOfBoundsException" then 2 else 0
def tn_nP (E : String) : Nat := if E = "java/lang/IllegalArgumentException" then 1 else if E = "java/util/NoSuchElementException" then 2 else 0
def tn_nA (E : String) : Nat := if E = "java/lang/IllegalArgumentException" then 1 else 0
def tn_nU (E : String) : Nat := if E = "java/lang/IndexOutOfBoundsException" then 1 else 0
def tn_nK (E : String) : Nat := if E = "java/util/NoSuchElementException" then 1 else 0
def tn_n0 (_ : String) : Nat := 0
section PAIR
variable {hX hY : am_S}
theorem pr_sign (R : tn_R hX hY) {a : Int32} : am_AW tn_G tn_X (39, 0, 0, [some (.ref 0), some (.int a)], [], hX) (fun hX' o => am_AW tn_G tn_Y (56, 0, 0, [some (.ref 0), some (.int a)], [], hY) (fun hY' o' => tn_R hX' hY' ∧ tn_ag tn_nS o o' (hY'.1 4))) := by
  obtain ⟨n, m, ar, sg, pt, hs, eq, P, I, J⟩ := R
  refine sp_39 I (fun j h' hj ea hm I' => ?_) (fun e => ?_) (fun j hj ea hm => ?_)
  · refine sp_56 J (fun j2 h2 hj2 ea2 hm2 J2 th => ?_) (fun e => absurd ea (e j hj)) (fun j2 _ _ e => by omega)
    have e2 : j2 = j := by
      rw [ea, nI_eq (by omega) (by omega)] at ea2
      exact ea2.symm
    subst e2
    exact ⟨⟨_, _, _, _, _, _, _, _, I', J2⟩, Or.inl ⟨_, rfl, rfl, th⟩⟩
  · exact sp_56 J (fun j2 h2 hj2 ea2 _ _ _ => absurd ea2 (e j2 hj2)) (fun _ => ⟨⟨_, _, _, _, _, _, _, _, I, J.fA tn_fA.t⟩, Or.inr ⟨_, _, rfl, by decide, by decide, by simp only [pk_us]; rfl, rfl⟩⟩) (fun j2 hj2 ea2 _ => absurd ea2 (e j2 hj2))
  · exact sp_56 J (fun j2 h2 hj2 ea2 hm2 _ _ => by omega) (fun e => absurd ea (e j hj)) (fun j2 _ _ _ => ⟨⟨_, _, _, _, _, _, _, _, I, J.fA tn_fA.t⟩, Or.inr ⟨_, _, rfl, by decide, by decide, by simp only [pk_us]; rfl, rfl⟩⟩)
theorem pr_least (R : tn_R hX hY) {a : Int32} : am_AW tn_G tn_X (48, 0, 0, [some (.ref 0), some (.int a)], [], hX) (fun hX' o => am_AW tn_G tn_Y (68, 0, 0, [some (.ref 0), some (.int a)], [], hY) (fun hY' o' => tn_R hX' hY' ∧ tn_ag tn_nA o o' (hY'.1 4))) := by
  obtain ⟨n, m, ar, sg, pt, hs, eq, P, I, J⟩ := R
  have hn := I.1.le
  refine sp_48 I (fun t ht ea => ?_) (fun e => ?_)
  · refine sp_68 J I.1.V (fun t2 ht2 ea2 => ?_) (fun e => absurd ea (e t ht))
    have e2 : t2 = t := by
      rw [ea, nI_eq (by omega) (by omega)] at ea2
      exact ea2.symm
    subst e2
    exact ⟨⟨_, _, _, _, _, _, _, _, I, J.fA tn_fA.t⟩, Or.inl ⟨_, rfl, rfl, by simp only [pk_us]⟩⟩
  · exact sp_68 J I.1.V (fun t2 ht2 ea2 => absurd ea2 (e t2 ht2)) (fun _ => ⟨⟨_, _, _, _, _, _, _, _, I, J.fA tn_fA.t⟩, Or.inr ⟨_, _, rfl, by decide, by decide, by simp only [pk_us]; rfl, rfl⟩⟩)
theorem pr_top (R : tn_R hX hY) {a : Int32} : am_AW tn_G tn_X (46, 0, 0, [some (.ref 0), some (.int a)], [], hX) (fun hX' o => am_AW tn_G tn_Y (66, 0, 0, [some (.ref 0), some (.int a), none, none], [], hY) (fun hY' o' => tn_R hX' hY' ∧ tn_ag tn_nA o o' (hY'.1 4))) := by
  obtain ⟨n, m, ar, sg, pt, hs, eq, P, I, J⟩ := R
  have hn := I.1.le
  refine sp_46 I (fun t ht ea => ?_) (fun e => ?_)
  · refine sp_66 J I.1.V I.2.1 (fun t2 h2 ht2 ea2 f th => ?_) (fun e => absurd ea (e t ht))
    have e2 : t2 = t := by
      rw [ea, nI_eq (by omega) (by omega)] at ea2
      exact ea2.symm
    subst e2
    exact ⟨⟨_, _, _, _, _, _, _, _, I, J.fA f⟩, Or.inl ⟨_, rfl, rfl, th⟩⟩
  · exact sp_66 J I.1.V I.2.1 (fun t2 h2 ht2 ea2 => absurd ea2 (e t2 ht2)) (fun _ => ⟨⟨_, _, _, _, _, _, _, _, I, J.fA tn_fA.t⟩, Or.inr ⟨_, _, rfl, by decide, by decide, by simp only [pk_us]; rfl, rfl⟩⟩)
theorem pr_count (R : tn_R hX hY) {a : Int32} : am_AW tn_G tn_X (38, 0, 0, [some (.ref 0), some (.int a)], [], hX) (fun hX' o => am_AW tn_G tn_Y (76, 0, 0, [some (.ref 0), some (.int a), none, none, none, none], [], hY) (fun hY' o' => tn_R hX' hY' ∧ tn_ag tn_n0 o o' (hY'.1 4))) := by
  obtain ⟨n, m, ar, sg, pt, hs, eq, P, I, J⟩ := R
  exact sp_38 I (sp_76 J I.1.V I.2.1 (fun h' f th => ⟨⟨_, _, _, _, _, _, _, _, I, J.fA f⟩, Or.inl ⟨_, rfl, rfl, th⟩⟩))
end PAIR
