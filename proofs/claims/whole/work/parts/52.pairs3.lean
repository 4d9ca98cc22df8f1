/-! PAIRS: equal, part. -/
section PAIR3
variable {hX hY : am_S}
theorem pr_equal (R : tn_R hX hY) {a b : Int32} : am_AW tn_G tn_X (43, 0, 0, [some (.ref 0), some (.int a), some (.int b), none], [], hX) (fun hX' o => am_AW tn_G tn_Y (63, 0, 0, [some (.ref 0), some (.int a), some (.int b), none], [], hY) (fun hY' o' => tn_R hX' hY' ∧ tn_ag tn_nA o o' (hY'.1 4))) := by
  obtain ⟨n, m, ar, sg, pt, hs, eq, P, I, J⟩ := R
  have hn := I.1.le
  have inj : ∀ {s t : Nat} {x : Int32}, s < n → t < n → x = nI s → x = nI t → t = s := fun hs9 ht e1 e2 => by
    rw [e1, nI_eq (by omega) (by omega)] at e2
    exact e2.symm
  refine sp_43 I (fun s t hs' h' hs9 ht ea eb R0 hx I' => ?_) (fun s t h' hs9 ht ea eb no I' => ?_) (fun e => ?_)
  · refine sp_63 J I.1.V (fun s2 t2 hs1 h2 hs2 ht2 ea2 eb2 R1 B g e3 e2 e4 row => ?_) (fun s2 t2 h2 hs2 ht2 ea2 eb2 no f th => ?_) (fun e => e.elim (fun q => absurd ea (q s hs9)) (fun q => absurd eb (q t ht)))
    · have i1 := inj hs9 hs2 ea ea2
      have i2 := inj ht ht2 eb eb2
      subst i1; subst i2
      obtain ⟨ms, hms⟩ := hx
      refine ⟨⟨_, _, _, _, _, _, _, _, I', B, fun u hu => by rw [g u hu, R1.unique R0 u hu], e3, by rw [e2]; exact J.2.2.2.1, ?_⟩, Or.inl ⟨_, rfl, rfl, e4⟩⟩
      rw [hms]
      exact J.pts I.2.2.2.2.2.1 row
    · have i1 := inj hs9 hs2 ea ea2
      have i2 := inj ht ht2 eb eb2
      subst i1; subst i2
      exact absurd R0.2.1 (no _ R0.1)
  · refine sp_63 J I.1.V (fun s2 t2 hs1 h2 hs2 ht2 ea2 eb2 R1 B g e3 e2 e4 row => ?_) (fun s2 t2 h2 hs2 ht2 ea2 eb2 _ f th => ⟨⟨_, _, _, _, _, _, _, _, I', J.fA f⟩, Or.inl ⟨_, rfl, rfl, th⟩⟩) (fun e => e.elim (fun q => absurd ea (q s hs9)) (fun q => absurd eb (q t ht)))
    have i1 := inj hs9 hs2 ea ea2
    have i2 := inj ht ht2 eb eb2
    subst i1; subst i2
    exact absurd R1.2.1 (no _ R1.1)
  · exact sp_63 J I.1.V (fun s2 t2 _ h2 hs2 ht2 ea2 eb2 => e.elim (fun q => absurd ea2 (q s2 hs2)) (fun q => absurd eb2 (q t2 ht2))) (fun s2 t2 h2 hs2 ht2 ea2 eb2 => e.elim (fun q => absurd ea2 (q s2 hs2)) (fun q => absurd eb2 (q t2 ht2))) (fun _ => ⟨⟨_, _, _, _, _, _, _, _, I, J.fA tn_fA.t⟩, Or.inr ⟨_, _, rfl, by decide, by decide, by simp only [pk_us]; rfl, rfl⟩⟩)
theorem pr_part (R : tn_R hX hY) {a k : Int32} : am_AW tn_G tn_X (47, 0, 0, [some (.ref 0), some (.int a), some (.int k)], [], hX) (fun hX' o => am_AW tn_G tn_Y (67, 0, 0, [some (.ref 0), some (.int a), some (.int k), none, none], [], hY) (fun hY' o' => tn_R hX' hY' ∧ tn_ag tn_nP o o' (hY'.1 4))) := by
  obtain ⟨n, m, ar, sg, pt, hs, eq, P, I, J⟩ := R
  have hn := I.1.le
  have inj : ∀ {s t : Nat} {x : Int32}, s < n → t < n → x = nI s → x = nI t → t = s := fun hs9 ht e1 e2 => by
    rw [e1, nI_eq (by omega) (by omega)] at e2
    exact e2.symm
  refine sp_47 I (fun t x j ht ea ex hj ek => ?_) (fun e => ?_) (fun t ht ea no => ?_)
  · have p3 := I.1.p3 (I.1.sx (I.1.g ht) ex)
    refine sp_67 J I.1.V I.2.1 (fun t2 x2 j2 h2 ht2 ea2 ex2 hj2 ek2 f th => ?_) (fun t2 h2 ht2 ea2 no f th => ?_) (fun e => absurd ea (e t ht))
    · have i1 := inj ht ht2 ea ea2
      subst i1
      rw [ex] at ex2
      cases ex2
      have i2 : j2 = j := by
        rw [ek, nI_eq (by omega) (by omega)] at ek2
        exact ek2.symm
      subst i2
      exact ⟨⟨_, _, _, _, _, _, _, _, I, J.fA f⟩, Or.inl ⟨_, rfl, rfl, th⟩⟩
    · have i1 := inj ht ht2 ea ea2
      subst i1
      exact absurd ek (no x j ex hj)
  · exact sp_67 J I.1.V I.2.1 (fun t2 x2 j2 h2 ht2 ea2 => absurd ea2 (e t2 ht2)) (fun t2 h2 ht2 ea2 => absurd ea2 (e t2 ht2)) (fun _ => ⟨⟨_, _, _, _, _, _, _, _, I, J.fA tn_fA.t⟩, Or.inr ⟨_, _, rfl, by decide, by decide, by simp only [pk_us]; rfl, rfl⟩⟩)
  · refine sp_67 J I.1.V I.2.1 (fun t2 x2 j2 h2 ht2 ea2 ex2 hj2 ek2 f th => ?_) (fun t2 h2 ht2 ea2 _ f th => ⟨⟨_, _, _, _, _, _, _, _, I, J.fA f⟩, Or.inr ⟨_, _, rfl, by decide, by decide, by rw [th]; rfl, rfl⟩⟩) (fun e => absurd ea (e t ht))
    have i1 := inj ht ht2 ea ea2
    subst i1
    exact absurd ek2 (no x2 j2 ex2 hj2)
end PAIR3
