/-! PAIRS: same, inside, unknown, mark. -/
section PAIR2
variable {hX hY : am_S}
theorem pr_same (R : tn_R hX hY) {a b : Int32} : am_AW tn_G tn_X (45, 0, 0, [some (.ref 0), some (.int a), some (.int b)], [], hX) (fun hX' o => am_AW tn_G tn_Y (65, 0, 0, [some (.ref 0), some (.int a), some (.int b)], [], hY) (fun hY' o' => tn_R hX' hY' ∧ tn_ag tn_nA o o' (hY'.1 4))) := by
  obtain ⟨n, m, ar, sg, pt, hs, eq, P, I, J⟩ := R
  have hn := I.1.le
  refine sp_45 I (fun s t hs9 ht ea eb => ?_) (fun e => ?_)
  · refine sp_65 J I.1.V (fun s2 t2 hs2 ht2 ea2 eb2 => ?_) (fun e => e.elim (fun q => absurd ea (q s hs9)) (fun q => absurd eb (q t ht)))
    have e1 : s2 = s := by
      rw [ea, nI_eq (by omega) (by omega)] at ea2
      exact ea2.symm
    have e2 : t2 = t := by
      rw [eb, nI_eq (by omega) (by omega)] at eb2
      exact eb2.symm
    subst e1; subst e2
    exact ⟨⟨_, _, _, _, _, _, _, _, I, J.fA tn_fA.t⟩, Or.inl ⟨_, rfl, rfl, by simp only [pk_us]⟩⟩
  · exact sp_65 J I.1.V (fun s2 t2 hs2 ht2 ea2 eb2 => e.elim (fun q => absurd ea2 (q s2 hs2)) (fun q => absurd eb2 (q t2 ht2))) (fun _ => ⟨⟨_, _, _, _, _, _, _, _, I, J.fA tn_fA.t⟩, Or.inr ⟨_, _, rfl, by decide, by decide, by simp only [pk_us]; rfl, rfl⟩⟩)
theorem pr_unknown (R : tn_R hX hY) : am_AW tn_G tn_X (40, 0, 0, [some (.ref 0), none], [], hX) (fun hX' o => am_AW tn_G tn_Y (57, 0, 0, [some (.ref 0)], [], hY) (fun hY' o' => tn_R hX' hY' ∧ tn_ag tn_nU o o' (hY'.1 4))) := by
  obtain ⟨n, m, ar, sg, pt, hs, eq, P, I, J⟩ := R
  refine sp_40 I (fun h' h4 R0 I' => ?_) (fun e => ?_)
  · exact sp_57 J I.1.V I.2.2.2.2.2.1 (fun _ => R0) (fun h2 _ J2 th => ⟨⟨_, _, _, _, _, _, _, _, I', J2⟩, Or.inl ⟨_, rfl, rfl, th⟩⟩) (fun e => by omega)
  · exact sp_57 J I.1.V I.2.2.2.2.2.1 (fun q => by omega) (fun h2 q _ _ => by omega) (fun _ => ⟨⟨_, _, _, _, _, _, _, _, I, J.fA tn_fA.t⟩, Or.inr ⟨_, _, rfl, by decide, by decide, by simp only [pk_us]; rfl, rfl⟩⟩)
theorem pr_mark (R : tn_R hX hY) : am_AW tn_G tn_X (53, 0, 0, [some (.ref 0)], [], hX) (fun hX' o => am_AW tn_G tn_Y (74, 0, 0, [some (.ref 0), none], [], hY) (fun hY' o' => tn_R hX' hY' ∧ tn_ag tn_nU o o' (hY'.1 4))) := by
  obtain ⟨n, m, ar, sg, pt, hs, eq, P, I, J⟩ := R
  refine sp_53 I (fun h' hl I' => ?_) (fun e => ?_)
  · exact sp_74 J I.2.2.2.2.1 I.2.2.2.2.2.1 (fun h2 _ J2 th => ⟨⟨_, _, _, _, _, _, _, _, I', J2⟩, Or.inl ⟨_, rfl, rfl, th⟩⟩) (fun e => by omega)
  · exact sp_74 J I.2.2.2.2.1 I.2.2.2.2.2.1 (fun h2 q _ _ => by omega) (fun _ => ⟨⟨_, _, _, _, _, _, _, _, I, J.fA tn_fA.t⟩, Or.inr ⟨_, _, rfl, by decide, by decide, by simp only [pk_us]; rfl, rfl⟩⟩)
theorem pr_back (R : tn_R hX hY) : am_AW tn_G tn_X (54, 0, 0, [some (.ref 0)], [], hX) (fun hX' o => am_AW tn_G tn_Y (75, 0, 0, [some (.ref 0), none], [], hY) (fun hY' o' => tn_R hX' hY' ∧ tn_ag tn_nK o o' (hY'.1 4))) := by
  obtain ⟨n, m, ar, sg, pt, hs, eq, P, I, J⟩ := R
  refine sp_54 I (fun q P' ns hs0 h' eP eh el I' => ?_) (fun e => ?_)
  · subst eP
    refine sp_75 J I.2.2.2.2.1 (fun q2 P2 h2 e2 _ J2 th => ?_) I.2.2.2.2.2.1 (fun e => by cases e)
    cases e2
    exact ⟨⟨_, _, _, _, _, _, _, _, I', J2 ns hs0 eh el I'.2.2.2.2.2.1⟩, Or.inl ⟨_, rfl, rfl, th⟩⟩
  · subst e
    exact sp_75 J I.2.2.2.2.1 (fun q2 P2 h2 e2 _ _ _ => by cases e2) I.2.2.2.2.2.1 (fun _ => ⟨⟨_, _, _, _, _, _, _, _, I, J.fA tn_fA.t⟩, Or.inr ⟨_, _, rfl, by decide, by decide, by simp only [pk_us]; rfl, rfl⟩⟩)
theorem pr_inside (R : tn_R hX hY) {a b : Int32} : am_AW tn_G tn_X (51, 0, 0, [some (.ref 0), some (.int a), some (.int b)], [], hX) (fun hX' o => am_AW tn_G tn_Y (71, 0, 0, [some (.ref 0), some (.int a), some (.int b)], [], hY) (fun hY' o' => tn_R hX' hY' ∧ tn_ag tn_nA o o' (hY'.1 4))) := by
  obtain ⟨n, m, ar, sg, pt, hs, eq, P, I, J⟩ := R
  have hn := I.1.le
  have inj : ∀ {s t : Nat} {x : Int32}, s < n → t < n → x = nI s → x = nI t → t = s := fun hs9 ht e1 e2 => by
    rw [e1, nI_eq (by omega) (by omega)] at e2
    exact e2.symm
  refine sp_51 I (fun s t h' hs9 ht ea eb e1 e2 I' => ?_) (fun s t h' hs9 ht ea eb e1 I' => ?_) (fun e => ?_)
  · refine sp_71 J I.1.V I.2.1 (fun s2 t2 h2 hs2 ht2 ea2 eb2 _ _ f th => ⟨⟨_, _, _, _, _, _, _, _, I', J.fA f⟩, Or.inl ⟨_, rfl, rfl, th⟩⟩) (fun s2 t2 h2 hs2 ht2 ea2 eb2 no f th => ?_) (fun e => e.elim (fun q => absurd ea (q s hs9)) (fun q => absurd eb (q t ht)))
    have i1 := inj hs9 hs2 ea ea2
    have i2 := inj ht ht2 eb eb2
    subst i1; subst i2
    exact absurd ⟨e1, e2⟩ no
  · refine sp_71 J I.1.V I.2.1 (fun s2 t2 h2 hs2 ht2 ea2 eb2 y1 y2 f th => ?_) (fun s2 t2 h2 hs2 ht2 ea2 eb2 no f th => ⟨⟨_, _, _, _, _, _, _, _, I', J.fA f⟩, Or.inl ⟨_, rfl, rfl, th⟩⟩) (fun e => e.elim (fun q => absurd ea (q s hs9)) (fun q => absurd eb (q t ht)))
    have i1 := inj hs9 hs2 ea ea2
    have i2 := inj ht ht2 eb eb2
    subst i1; subst i2
    exact absurd ⟨y1, y2⟩ e1
  · exact sp_71 J I.1.V I.2.1 (fun s2 t2 h2 hs2 ht2 ea2 eb2 => e.elim (fun q => absurd ea2 (q s2 hs2)) (fun q => absurd eb2 (q t2 ht2))) (fun s2 t2 h2 hs2 ht2 ea2 eb2 => e.elim (fun q => absurd ea2 (q s2 hs2)) (fun q => absurd eb2 (q t2 ht2))) (fun _ => ⟨⟨_, _, _, _, _, _, _, _, I, J.fA tn_fA.t⟩, Or.inr ⟨_, _, rfl, by decide, by decide, by simp only [pk_us]; rfl, rfl⟩⟩)
end PAIR2
