/-! THE START, THE LOOP. Laid by wip/whole/gen62.py. -/
theorem tn_wm0 : (.instantiable "TermNet$Groups" 6 : Cond) ∈ tn_TS := tn_in 75 (by decide +kernel) (by decide +kernel)
theorem tn_wm1 : (.instantiable "TermNet$Told" 5 : Cond) ∈ tn_TS := tn_in 46 (by decide +kernel) (by decide +kernel)
theorem tn_wm2 : (.instantiable "TermNet$Twins" 4 : Cond) ∈ tn_TS := tn_in 135 (by decide +kernel) (by decide +kernel)
theorem tn_wm3 : (.instantiable "TermNet$Walk" 8 : Cond) ∈ tn_TS := tn_in 102 (by decide +kernel) (by decide +kernel)
theorem tn_wm4 : (.instantiable "TermNet" 9 : Cond) ∈ tn_TS := tn_in 38 (by decide +kernel) (by decide +kernel)
theorem tn_wm5 : (.instantiable "TermNetModel" 18 : Cond) ∈ tn_TS := tn_in 584 (by decide +kernel) (by decide +kernel)
theorem tn_wm6 : (.arrayClass .int : Cond) ∈ tn_TS := tn_in 73 (by decide +kernel) (by decide +kernel)
theorem tn_wm7 : (.arrayClass .boolean : Cond) ∈ tn_TS := tn_in 644 (by decide +kernel) (by decide +kernel)
theorem tn_de_0 : decode code 0 = .ok (.new 8, 3) := by decide +kernel
theorem tn_de_3 : decode code 3 = .ok (.dup, 1) := by decide +kernel
theorem tn_de_4 : decode code 4 = .ok (.invokespecial 62, 3) := by decide +kernel
theorem tn_de_7 : decode code 7 = .ok (.astore_n 1, 1) := by decide +kernel
theorem tn_de_8 : decode code 8 = .ok (.new 63, 3) := by decide +kernel
theorem tn_de_11 : decode code 11 = .ok (.dup, 1) := by decide +kernel
theorem tn_de_12 : decode code 12 = .ok (.invokespecial 65, 3) := by decide +kernel
theorem tn_de_15 : decode code 15 = .ok (.astore_n 2, 1) := by decide +kernel
theorem tn_de_16 : decode code 16 = .ok (.iconst 1, 1) := by decide +kernel
theorem tn_de_17 : decode code 17 = .ok (.newarray .long, 2) := by decide +kernel
theorem tn_de_19 : decode code 19 = .ok (.astore_n 3, 1) := by decide +kernel
theorem tn_de_20 : decode code 20 = .ok (.iconst 0, 1) := by decide +kernel
theorem tn_de_21 : decode code 21 = .ok (.istore 4, 2) := by decide +kernel
theorem tn_de_23 : decode code 23 = .ok (.iload 4, 2) := by decide +kernel
theorem tn_de_25 : decode code 25 = .ok (.aload_n 0, 1) := by decide +kernel
theorem tn_de_26 : decode code 26 = .ok (.arraylength, 1) := by decide +kernel
theorem tn_de_27 : decode code 27 = .ok (.iconst 5, 1) := by decide +kernel
theorem tn_de_28 : decode code 28 = .ok (.isub, 1) := by decide +kernel
theorem tn_de_29 : decode code 29 = .ok (.if_icmp .gt 967, 3) := by decide +kernel
theorem tn_de_32 : decode code 32 = .ok (.aload_n 0, 1) := by decide +kernel
theorem tn_de_33 : decode code 33 = .ok (.iload 4, 2) := by decide +kernel
theorem tn_de_35 : decode code 35 = .ok (.iaload, 1) := by decide +kernel
theorem tn_de_36 : decode code 36 = .ok (.bipush 15, 2) := by decide +kernel
theorem tn_de_38 : decode code 38 = .ok (.iand, 1) := by decide +kernel
theorem tn_de_39 : decode code 39 = .ok (.tableswitch 951 0 14 #[73, 129, 173, 265, 340, 415, 471, 539, 595, 651, 707, 782, 838, 882, 926], 73) := by decide +kernel
theorem tn_de_990 : decode code 990 = .ok (.iinc 4 5, 3) := by decide +kernel
theorem tn_de_993 : decode code 993 = .ok (.goto (-970), 3) := by decide +kernel
theorem tn_de_996 : decode code 996 = .ok (.iconst 1, 1) := by decide +kernel
theorem tn_de_997 : decode code 997 = .ok (.ireturn, 1) := by decide +kernel
/-- the start: nothing told -/
theorem tn_R_zero : tn_R tn_z tn_z := by
  refine ⟨0, 0, fun _ => 0, fun _ => none, fun _ _ => 0, [], 0, [], ⟨⟨⟨nI_0.symm, by decide⟩, ⟨nI_0.symm, by decide⟩, nI_0.symm, fun s h => absurd h (Nat.not_lt_zero _), fun t h => absurd h (Nat.not_lt_zero _), fun t h => absurd h (Nat.not_lt_zero _), trivial, fun t h => absurd h (Nat.not_lt_zero _), fun i q h => by simp at h⟩, ⟨fun t h => absurd h (Nat.not_lt_zero _), fun i j h => absurd h (Nat.not_lt_zero _), fun i j h => absurd h (Nat.not_lt_zero _), fun _ => 0, fun t h => absurd h (Nat.not_lt_zero _)⟩, nI_0.symm, nI_0.symm, by decide, trivial, fun i q h => by simp at h⟩, ⟨⟨nI_0.symm, by decide⟩, ⟨nI_0.symm, by decide⟩, fun s h => absurd h (Nat.not_lt_zero _), fun t h => absurd h (Nat.not_lt_zero _), fun t h => absurd h (Nat.not_lt_zero _)⟩, fun t h => absurd h (Nat.not_lt_zero _), nI_0.symm, nI_0.symm, fun i q h => by simp at h⟩
theorem tn_gt {L j : Nat} (hL : L ≤ 2560) (hj : j < 2 ^ 31) (h : ¬ Int32.ofNat L - 5 < nI j) : j + 5 ≤ L := by
  by_cases h5 : 5 ≤ L
  · have e : Int32.ofNat L - 5 = nI (L - 5) := by
      have h1 : nI (L - 5) + nI 5 = nI L := by rw [nI_add]; congr 1; omega
      have h2 : (5 : Int32) = nI 5 := by decide
      show nI L - 5 = nI (L - 5)
      rw [← h1, h2]
      simp
    rw [e] at h
    have := (not_congr (nI_ltI (by omega) hj)).mp h
    omega
  · exfalso
    apply h
    have h0 : (0 : Int32) ≤ nI j := nI_pos' hj
    have : L = 0 ∨ L = 1 ∨ L = 2 ∨ L = 3 ∨ L = 4 := by omega
    have key : Int32.ofNat L - 5 < 0 := by rcases this with rfl | rfl | rfl | rfl | rfl <;> decide
    exact Int32.lt_of_lt_of_le key h0
section LOOP
variable {l : Launch} {p : Program} {e : Env} {s : State} {m : MethodId} {args : Array Value} {below : List Frame} {meth : Method} {c : Code} {Qe : State → Prop} {adX adY : Nat → Nat} {ca : Nat → ClassId} {cL : ClassId} {qo : Nat} {D : va_G} {b L : Nat} {xs : Nat → Int32} {A : Nat → Prop}
set_option maxHeartbeats 1000000 in
theorem tn_loop (C : tn_lc l p s m args c b L xs A D ca cL) (hret : ∀ (H : Heap) (locs : List Loc) (cells slots : Nat) (ls : Array Slot), va_S A s.heap H locs → cells ≤ 1070 → slots ≤ 27272 → W p l e room_1 s m args below meth c H locs cells slots Qe (F0 m 996 ls [])) :
    ∀ (n k : Nat), L < 5 * (k + n) + 5 → k + n ≤ 512 → ∀ (H : Heap) (locs : List Loc) (ls : Array Slot) (hX hY : am_S) (f : Nat → Int64), tn_R hX hY → va_P D tn_cl (tn_LW adX adY ca cL qo f hX hY) H → va_D A (tn_LW adX adY ca cL qo f hX hY) → va_S A s.heap H locs → lv_has ls 7 (tn_lv b adX adY qo (nI (5 * k))) →
      W p l e room_1 s m args below meth c H locs (38 + 2 * k) (19032 + 12 * k) Qe (F0 m 23 ls []) := by
  obtain ⟨hl9, hx, hb, hml, hown, hts, hns, hE, hK, hA, hsc, hbl, hbA, hL⟩ := id C
  intro n
  induction n with
  | zero =>
    intro k h1 h2 H locs ls hX hY f hR hP hD hS hl
    refine lv_iload hx hb tn_de_23 (lv_at hl 4 rfl) ?_
    refine lv_aload_n hx hb tn_de_25 rfl (lv_at hl 0 rfl) ?_
    refine va_slen hx hb hsc hbl hbA hS tn_de_26 ?_
    refine lv_iconst (v := 5) hx hb tn_de_27 (by decide) ?_
    refine lv_isub hx hb tn_de_28 ?_
    refine lv_icmp_gt (tgt := 996) hx hb tn_de_29 (by decide) (fun _ => hret _ _ _ _ _ hS (by omega) (by omega)) (fun hn => ?_)
    have := tn_gt hL (by omega) hn
    omega
  | succ n ih =>
    intro k h1 h2 H locs ls hX hY f hR hP hD hS hl
    refine lv_iload hx hb tn_de_23 (lv_at hl 4 rfl) ?_
    refine lv_aload_n hx hb tn_de_25 rfl (lv_at hl 0 rfl) ?_
    refine va_slen hx hb hsc hbl hbA hS tn_de_26 ?_
    refine lv_iconst (v := 5) hx hb tn_de_27 (by decide) ?_
    refine lv_isub hx hb tn_de_28 ?_
    refine lv_icmp_gt (tgt := 996) hx hb tn_de_29 (by decide) (fun _ => hret _ _ _ _ _ hS (by omega) (by omega)) (fun hn => ?_)
    have hi5 := tn_gt hL (by omega) hn
    have hi : 5 * k + 4 < L := by omega
    have back : ∀ (hX1 hY1 : am_S) (f1 : Nat → Int64) (H1 : Heap) (locs1 : List Loc) (ls1 : Array Slot), tn_R hX1 hY1 → va_P D tn_cl (tn_LW adX adY ca cL qo f1 hX1 hY1) H1 → va_D A (tn_LW adX adY ca cL qo f1 hX1 hY1) → va_S A s.heap H1 locs1 → lv_has ls1 7 (tn_lv b adX adY qo (nI (5 * k))) → W p l e room_1 s m args below meth c H1 locs1 (38 + 2 * k + 2) (19032 + 12 * k + 12) Qe (F0 m 990 ls1 []) := by
      intro hX1 hY1 f1 H1 locs1 ls1 hR1 hP1 hD1 hS1 hl1
      have e5 : nI (5 * k) + Int32.ofInt 5 = nI (5 * (k + 1)) := by
        have h9 : Int32.ofInt 5 = nI 5 := by decide
        rw [h9, nI_add]
        rfl
      refine lv_iinc (i := 4) (k := 4) (lv' := [(4, .int (nI (5 * (k + 1)))), (0, .ref b), (1, .ref (adX 0)), (2, .ref (adY 0)), (3, .ref qo)]) hx hb tn_de_990 hl1 rfl e5 (by decide) rfl (fun ls2 hl2 => ?_)
      refine lv_goto (tgt := 23) hx hb tn_de_993 (by decide) ?_
      refine W.widen (k := 38 + 2 * (k + 1)) (n := 19032 + 12 * (k + 1)) (by omega) (by omega) ?_
      exact ih (k + 1) (by omega) (by omega) H1 locs1 ls2 hX1 hY1 f1 hR1 hP1 hD1 hS1 (lv_sub hl2 [1, 2, 3, 4, 0] rfl)
    refine lv_aload_n hx hb tn_de_32 rfl (lv_at hl 0 rfl) ?_
    refine lv_iload hx hb tn_de_33 (lv_at hl 4 rfl) ?_
    refine va_sld hx hb hsc hbl hbA hS (vp_in_nI (by omega) (by omega)) tn_de_35 ?_
    refine lv_bipush (v := 15) hx hb tn_de_36 (by decide) ?_
    refine lv_iand hx hb tn_de_38 ?_
    refine lv_topi (fun z _ => ?_)
    by_cases hz : z.toInt < 0 ∨ 14 < z.toInt
    · refine lv_tableOut (tgt := 990) hx hb tn_de_39 hz (by decide) ?_
      refine W.widen (k := 38 + 2 * k + 2) (n := 19032 + 12 * k + 12) (by omega) (by omega) ?_
      exact back hX hY f H locs ls hR hP hD hS hl
    · have hz1 : ¬ z.toInt < 0 := fun q => hz (Or.inl q)
      have hz2 : ¬ 14 < z.toInt := fun q => hz (Or.inr q)
      have hj : z.toInt = 0 ∨ z.toInt = 1 ∨ z.toInt = 2 ∨ z.toInt = 3 ∨ z.toInt = 4 ∨ z.toInt = 5 ∨ z.toInt = 6 ∨ z.toInt = 7 ∨ z.toInt = 8 ∨ z.toInt = 9 ∨ z.toInt = 10 ∨ z.toInt = 11 ∨ z.toInt = 12 ∨ z.toInt = 13 ∨ z.toInt = 14 := by omega
      rcases hj with hj | hj | hj | hj | hj | hj | hj | hj | hj | hj | hj | hj | hj | hj | hj
      · refine lv_tableIn (tgt := 112) (off := 73) hx hb tn_de_39 hz1 hz2 (by rw [hj]; rfl) (by decide) ?_
        exact tn_case_sign C hi hR hl hP hD hS (by omega) (by omega) back
      · refine lv_tableIn (tgt := 168) (off := 129) hx hb tn_de_39 hz1 hz2 (by rw [hj]; rfl) (by decide) ?_
        exact tn_case_unknown C hi hR hl hP hD hS (by omega) (by omega) back
      · refine lv_tableIn (tgt := 212) (off := 173) hx hb tn_de_39 hz1 hz2 (by rw [hj]; rfl) (by decide) ?_
        exact tn_case_term C hi hR hl hP hD hS (by omega) (by omega) back
      · refine lv_tableIn (tgt := 304) (off := 265) hx hb tn_de_39 hz1 hz2 (by rw [hj]; rfl) (by decide) ?_
        exact tn_case_equal C hi hR hl hP hD hS (by omega) (by omega) back
      · refine lv_tableIn (tgt := 379) (off := 340) hx hb tn_de_39 hz1 hz2 (by rw [hj]; rfl) (by decide) ?_
        exact tn_case_same C hi hR hl hP hD hS (by omega) (by omega) back
      · refine lv_tableIn (tgt := 454) (off := 415) hx hb tn_de_39 hz1 hz2 (by rw [hj]; rfl) (by decide) ?_
        exact tn_case_top C hi hR hl hP hD hS (by omega) (by omega) back
      · refine lv_tableIn (tgt := 510) (off := 471) hx hb tn_de_39 hz1 hz2 (by rw [hj]; rfl) (by decide) ?_
        exact tn_case_part C hi hR hl hP hD hS (by omega) (by omega) back
      · refine lv_tableIn (tgt := 578) (off := 539) hx hb tn_de_39 hz1 hz2 (by rw [hj]; rfl) (by decide) ?_
        exact tn_case_least C hi hR hl hP hD hS (by omega) (by omega) back
      · refine lv_tableIn (tgt := 634) (off := 595) hx hb tn_de_39 hz1 hz2 (by rw [hj]; rfl) (by decide) ?_
        exact tn_case_size C hi hR hl hP hD hS (by omega) (by omega) back
      · refine lv_tableIn (tgt := 690) (off := 651) hx hb tn_de_39 hz1 hz2 (by rw [hj]; rfl) (by decide) ?_
        exact tn_case_depth C hi hR hl hP hD hS (by omega) (by omega) back
      · refine lv_tableIn (tgt := 746) (off := 707) hx hb tn_de_39 hz1 hz2 (by rw [hj]; rfl) (by decide) ?_
        exact tn_case_inside C hi hR hl hP hD hS (by omega) (by omega) back
      · refine lv_tableIn (tgt := 821) (off := 782) hx hb tn_de_39 hz1 hz2 (by rw [hj]; rfl) (by decide) ?_
        exact tn_case_unknowns C hi hR hl hP hD hS (by omega) (by omega) back
      · refine lv_tableIn (tgt := 877) (off := 838) hx hb tn_de_39 hz1 hz2 (by rw [hj]; rfl) (by decide) ?_
        exact tn_case_mark C hi hR hl hP hD hS (by omega) (by omega) back
      · refine lv_tableIn (tgt := 921) (off := 882) hx hb tn_de_39 hz1 hz2 (by rw [hj]; rfl) (by decide) ?_
        exact tn_case_back C hi hR hl hP hD hS (by omega) (by omega) back
      · refine lv_tableIn (tgt := 965) (off := 926) hx hb tn_de_39 hz1 hz2 (by rw [hj]; rfl) (by decide) ?_
        exact tn_case_count C hi hR hl hP hD hS (by omega) (by omega) back
end LOOP
theorem tn_NS_tab : ∀ w ∈ tn_NS, w.onTables = true := by decide +kernel
theorem tn_EW_in : ∀ w ∈ tn_EW, w ∈ lw_tbl := by decide +kernel
theorem tn_EK_in : ∀ q ∈ tn_EK, Cond.stringRef "TermNet" q.1 q.2 ∈ lw_tbl := by decide +kernel
theorem tn_EK_ex : ∀ q ∈ tn_EK, Cond.exactly (Term.string "TermNet" q.1) "java/lang/String" ∈ flatC (Jvm.Cond.and given_1 narrow_1) := by decide +kernel
theorem tn_z_U : Cond.isRef (.static Bundle.tN "UNASSIGNED_STACK" Bundle.steD) ∈ flatC (Jvm.Cond.and given_1 narrow_1) := by decide +kernel
theorem tn_z_N : Cond.isRef (.static Bundle.tN "SUPPRESSED_SENTINEL" Bundle.listD) ∈ flatC (Jvm.Cond.and given_1 narrow_1) := by decide +kernel
theorem tn_z_c1 : Cond.not (.castable tn_IOE tn_IAE) ∈ flatC (Jvm.Cond.and given_1 narrow_1) := by decide +kernel
theorem tn_z_c2 : Cond.not (.castable tn_NSE tn_IAE) ∈ flatC (Jvm.Cond.and given_1 narrow_1) := by decide +kernel
theorem tn_z_lU : Cond.laysStatic Bundle.tN "UNASSIGNED_STACK" Bundle.steD ∈ lw_tbl := by decide +kernel
theorem tn_z_lN : Cond.laysStatic Bundle.tN "SUPPRESSED_SENTINEL" Bundle.listD ∈ lw_tbl := by decide +kernel
theorem tn_z_ini : Cond.initialized Bundle.tN ∈ lw_tbl := by decide +kernel
theorem tn_z_nest : Cond.methodLinkNest tn_R4 9 tn_y1 tn_R4 ∈ lw_tbl := by decide +kernel
/-- what throws need, at the start -/
theorem tn_EX_start {args : Array Value} {s : State} (hts : ∀ w ∈ lw_tbl, w.before args s = true) (hg : (Jvm.Cond.and given_1 narrow_1).before args s = true) {A : Nat → Prop} (hA : ∀ a : Nat, a < s.heap.size → ¬ A a) : tn_EX A s s.heap := by
  have hf := flat_of_before _ hg
  refine ⟨fun w hw => va_Nw.of (tn_EW_tab w hw) (hts w (tn_EW_in w hw)), vx_Zqof (hts _ tn_z_lU) (hts _ tn_z_ini) (hf _ tn_z_U) hA, vx_Zqof (hts _ tn_z_lN) (hts _ tn_z_ini) (hf _ tn_z_N) hA, fun q hq => ?_, va_Nc.of (hf _ tn_z_c1), va_Nc.of (hf _ tn_z_c2)⟩
  obtain ⟨a, c, cA, kA, q1, -⟩ := Cond.exactly_spec (args := args) (first := s) (o := none) (s := s) (idx := []) (t := Term.string "TermNet" q.1) (cls := "java/lang/String") (hf _ (tn_EK_ex q hq))
  exact ⟨a, vk_R.of (hts _ (tn_EK_in q hq)) q1⟩
theorem tn_arr {args : Array Value} {s : State} {ty : FieldType} (h : (Cond.arrayClass ty).before args s = true) : ∃ cA : ClassId, ArrOfT s cA ty ∧ s.vm.findClass ("[" ++ ty.toString) = some cA := by
  obtain ⟨cA, kA, comp, h1, h2, h3⟩ := Cond.arrayClass_spec h
  exact ⟨cA, fun n z => ⟨fun k h => (by cases h), kA, h2, comp, h3⟩, h1⟩
/-- the classes and the arrays' classes, at the start -/
theorem tn_K_start {args : Array Value} {s : State} (hts : ∀ w ∈ tn_TS, w.before args s = true) : ∃ (D : va_G) (ca : Nat → ClassId), va_K D tn_cl (am_ty ca) s := by
  obtain ⟨c0, i0, h0⟩ := u_known hts tn_iw0 (hts _ tn_wm0)
  obtain ⟨c1, i1, h1⟩ := u_known hts tn_iw1 (hts _ tn_wm1)
  obtain ⟨c2, i2, h2⟩ := u_known hts tn_iw2 (hts _ tn_wm2)
  obtain ⟨c3, i3, h3⟩ := u_known hts tn_iw3 (hts _ tn_wm3)
  obtain ⟨c4, i4, h4⟩ := u_known hts tn_iw4 (hts _ tn_wm4)
  obtain ⟨c5, i5, h5⟩ := u_known hts tn_iw5 (hts _ tn_wm5)
  obtain ⟨aI, hI1, hI2⟩ := tn_arr (hts _ tn_wm6)
  obtain ⟨aB, hB1, hB2⟩ := tn_arr (hts _ tn_wm7)
  refine ⟨(fun k => match k with | 0 => c0 | 1 => c1 | 2 => c2 | 3 => c3 | 4 => c4 | _ => c5, fun k => match k with | 0 => i0 | 1 => i1 | 2 => i2 | 3 => i3 | 4 => i4 | _ => i5), fun k => match k with | 0 => aI | _ => aB, fun k q hq => ?_, fun k q hq => ?_⟩
  · match k, hq with
    | 0, hq => cases hq; exact h0
    | 1, hq => cases hq; exact h1
    | 2, hq => cases hq; exact h2
    | 3, hq => cases hq; exact h3
    | 4, hq => cases hq; exact h4
    | 5, hq => cases hq; exact h5
    | k + 6, hq => cases hq
  · match k, hq with
    | 0, hq => cases hq; exact ⟨hI1, hI2⟩
    | 1, hq => cases hq; exact ⟨hB1, hB2⟩
    | k + 2, hq => cases hq
