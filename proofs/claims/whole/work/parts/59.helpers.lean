/-! THE LAW'S HELPERS, laid by wip/whole/gen59.py: each calls one method of the class, keeps its answer in out[0], and tells an exception by its number. -/
theorem tn_wh0 : (.methodLink "TermNetLaw" 7 ⟨"TermNet", "sign", "(I)I"⟩ : Cond) ∈ tn_TS := tn_in 194 (by decide +kernel) (by decide +kernel)
theorem tn_wh1 : (.instanceMethod ⟨"TermNet", "sign", "(I)I"⟩ : Cond) ∈ tn_TS := tn_in 195 (by decide +kernel) (by decide +kernel)
theorem tn_wh2 : (.selects "TermNet" ⟨"TermNet", "sign", "(I)I"⟩ ⟨"TermNet", "sign", "(I)I"⟩ : Cond) ∈ tn_TS := tn_in 196 (by decide +kernel) (by decide +kernel)
theorem tn_wh3 : (.classLink "TermNetLaw" 13 "java/lang/IllegalArgumentException" : Cond) ∈ tn_TS := tn_in 192 (by decide +kernel) (by decide +kernel)
theorem tn_wh4 : (.classLink "TermNetLaw" 15 "java/lang/IndexOutOfBoundsException" : Cond) ∈ tn_TS := tn_in 193 (by decide +kernel) (by decide +kernel)
theorem tn_wh5 : (.methodLink "TermNetLaw" 17 ⟨"TermNet", "unknown", "()I"⟩ : Cond) ∈ tn_TS := tn_in 289 (by decide +kernel) (by decide +kernel)
theorem tn_wh6 : (.instanceMethod ⟨"TermNet", "unknown", "()I"⟩ : Cond) ∈ tn_TS := tn_in 290 (by decide +kernel) (by decide +kernel)
theorem tn_wh7 : (.selects "TermNet" ⟨"TermNet", "unknown", "()I"⟩ ⟨"TermNet", "unknown", "()I"⟩ : Cond) ∈ tn_TS := tn_in 291 (by decide +kernel) (by decide +kernel)
theorem tn_wh8 : (.methodLink "TermNetLaw" 21 ⟨"TermNet", "term", "(IIII)I"⟩ : Cond) ∈ tn_TS := tn_in 309 (by decide +kernel) (by decide +kernel)
theorem tn_wh9 : (.instanceMethod ⟨"TermNet", "term", "(IIII)I"⟩ : Cond) ∈ tn_TS := tn_in 310 (by decide +kernel) (by decide +kernel)
theorem tn_wh10 : (.selects "TermNet" ⟨"TermNet", "term", "(IIII)I"⟩ ⟨"TermNet", "term", "(IIII)I"⟩ : Cond) ∈ tn_TS := tn_in 311 (by decide +kernel) (by decide +kernel)
theorem tn_wh11 : (.methodLink "TermNetLaw" 25 ⟨"TermNet", "equal", "(II)Z"⟩ : Cond) ∈ tn_TS := tn_in 363 (by decide +kernel) (by decide +kernel)
theorem tn_wh12 : (.instanceMethod ⟨"TermNet", "equal", "(II)Z"⟩ : Cond) ∈ tn_TS := tn_in 364 (by decide +kernel) (by decide +kernel)
theorem tn_wh13 : (.selects "TermNet" ⟨"TermNet", "equal", "(II)Z"⟩ ⟨"TermNet", "equal", "(II)Z"⟩ : Cond) ∈ tn_TS := tn_in 365 (by decide +kernel) (by decide +kernel)
theorem tn_wh14 : (.methodLink "TermNetLaw" 29 ⟨"TermNet", "same", "(II)Z"⟩ : Cond) ∈ tn_TS := tn_in 458 (by decide +kernel) (by decide +kernel)
theorem tn_wh15 : (.instanceMethod ⟨"TermNet", "same", "(II)Z"⟩ : Cond) ∈ tn_TS := tn_in 459 (by decide +kernel) (by decide +kernel)
theorem tn_wh16 : (.selects "TermNet" ⟨"TermNet", "same", "(II)Z"⟩ ⟨"TermNet", "same", "(II)Z"⟩ : Cond) ∈ tn_TS := tn_in 460 (by decide +kernel) (by decide +kernel)
theorem tn_wh17 : (.methodLink "TermNetLaw" 32 ⟨"TermNet", "top", "(I)I"⟩ : Cond) ∈ tn_TS := tn_in 466 (by decide +kernel) (by decide +kernel)
theorem tn_wh18 : (.instanceMethod ⟨"TermNet", "top", "(I)I"⟩ : Cond) ∈ tn_TS := tn_in 467 (by decide +kernel) (by decide +kernel)
theorem tn_wh19 : (.selects "TermNet" ⟨"TermNet", "top", "(I)I"⟩ ⟨"TermNet", "top", "(I)I"⟩ : Cond) ∈ tn_TS := tn_in 468 (by decide +kernel) (by decide +kernel)
theorem tn_wh20 : (.methodLink "TermNetLaw" 35 ⟨"TermNet", "part", "(II)I"⟩ : Cond) ∈ tn_TS := tn_in 476 (by decide +kernel) (by decide +kernel)
theorem tn_wh21 : (.instanceMethod ⟨"TermNet", "part", "(II)I"⟩ : Cond) ∈ tn_TS := tn_in 477 (by decide +kernel) (by decide +kernel)
theorem tn_wh22 : (.selects "TermNet" ⟨"TermNet", "part", "(II)I"⟩ ⟨"TermNet", "part", "(II)I"⟩ : Cond) ∈ tn_TS := tn_in 478 (by decide +kernel) (by decide +kernel)
theorem tn_wh23 : (.classLink "TermNetLaw" 39 "java/util/NoSuchElementException" : Cond) ∈ tn_TS := tn_in 475 (by decide +kernel) (by decide +kernel)
theorem tn_wh24 : (.methodLink "TermNetLaw" 41 ⟨"TermNet", "least", "(I)I"⟩ : Cond) ∈ tn_TS := tn_in 501 (by decide +kernel) (by decide +kernel)
theorem tn_wh25 : (.instanceMethod ⟨"TermNet", "least", "(I)I"⟩ : Cond) ∈ tn_TS := tn_in 502 (by decide +kernel) (by decide +kernel)
theorem tn_wh26 : (.selects "TermNet" ⟨"TermNet", "least", "(I)I"⟩ ⟨"TermNet", "least", "(I)I"⟩ : Cond) ∈ tn_TS := tn_in 503 (by decide +kernel) (by decide +kernel)
theorem tn_wh27 : (.methodLink "TermNetLaw" 44 ⟨"TermNet", "size", "(I)I"⟩ : Cond) ∈ tn_TS := tn_in 508 (by decide +kernel) (by decide +kernel)
theorem tn_wh28 : (.instanceMethod ⟨"TermNet", "size", "(I)I"⟩ : Cond) ∈ tn_TS := tn_in 509 (by decide +kernel) (by decide +kernel)
theorem tn_wh29 : (.selects "TermNet" ⟨"TermNet", "size", "(I)I"⟩ ⟨"TermNet", "size", "(I)I"⟩ : Cond) ∈ tn_TS := tn_in 510 (by decide +kernel) (by decide +kernel)
theorem tn_wh30 : (.methodLink "TermNetLaw" 47 ⟨"TermNet", "depth", "(I)I"⟩ : Cond) ∈ tn_TS := tn_in 531 (by decide +kernel) (by decide +kernel)
theorem tn_wh31 : (.instanceMethod ⟨"TermNet", "depth", "(I)I"⟩ : Cond) ∈ tn_TS := tn_in 532 (by decide +kernel) (by decide +kernel)
theorem tn_wh32 : (.selects "TermNet" ⟨"TermNet", "depth", "(I)I"⟩ ⟨"TermNet", "depth", "(I)I"⟩ : Cond) ∈ tn_TS := tn_in 533 (by decide +kernel) (by decide +kernel)
theorem tn_wh33 : (.methodLink "TermNetLaw" 50 ⟨"TermNet", "inside", "(II)Z"⟩ : Cond) ∈ tn_TS := tn_in 547 (by decide +kernel) (by decide +kernel)
theorem tn_wh34 : (.instanceMethod ⟨"TermNet", "inside", "(II)Z"⟩ : Cond) ∈ tn_TS := tn_in 548 (by decide +kernel) (by decide +kernel)
theorem tn_wh35 : (.selects "TermNet" ⟨"TermNet", "inside", "(II)Z"⟩ ⟨"TermNet", "inside", "(II)Z"⟩ : Cond) ∈ tn_TS := tn_in 549 (by decide +kernel) (by decide +kernel)
theorem tn_wh36 : (.methodLink "TermNetLaw" 53 ⟨"TermNet", "unknowns", "(I)I"⟩ : Cond) ∈ tn_TS := tn_in 558 (by decide +kernel) (by decide +kernel)
theorem tn_wh37 : (.instanceMethod ⟨"TermNet", "unknowns", "(I)I"⟩ : Cond) ∈ tn_TS := tn_in 559 (by decide +kernel) (by decide +kernel)
theorem tn_wh38 : (.selects "TermNet" ⟨"TermNet", "unknowns", "(I)I"⟩ ⟨"TermNet", "unknowns", "(I)I"⟩ : Cond) ∈ tn_TS := tn_in 560 (by decide +kernel) (by decide +kernel)
theorem tn_wh39 : (.methodLink "TermNetLaw" 56 ⟨"TermNet", "mark", "()I"⟩ : Cond) ∈ tn_TS := tn_in 570 (by decide +kernel) (by decide +kernel)
theorem tn_wh40 : (.instanceMethod ⟨"TermNet", "mark", "()I"⟩ : Cond) ∈ tn_TS := tn_in 571 (by decide +kernel) (by decide +kernel)
theorem tn_wh41 : (.selects "TermNet" ⟨"TermNet", "mark", "()I"⟩ ⟨"TermNet", "mark", "()I"⟩ : Cond) ∈ tn_TS := tn_in 572 (by decide +kernel) (by decide +kernel)
theorem tn_wh42 : (.methodLink "TermNetLaw" 59 ⟨"TermNet", "back", "()I"⟩ : Cond) ∈ tn_TS := tn_in 578 (by decide +kernel) (by decide +kernel)
theorem tn_wh43 : (.instanceMethod ⟨"TermNet", "back", "()I"⟩ : Cond) ∈ tn_TS := tn_in 579 (by decide +kernel) (by decide +kernel)
theorem tn_wh44 : (.selects "TermNet" ⟨"TermNet", "back", "()I"⟩ ⟨"TermNet", "back", "()I"⟩ : Cond) ∈ tn_TS := tn_in 580 (by decide +kernel) (by decide +kernel)
def tn_WH (ad : Nat → Nat) (ca : Nat → ClassId) (cL : ClassId) (qo : Nat) (f : Nat → Int64) (h : am_S) : va_W := [(qo, .inl (cL, 1, .inr (.inl f)))] ++ am_W tn_X ad ca h
def tn_t3 (ca : Nat → ClassId) (cL : ClassId) : List (ClassId × FieldType) := [(ca 0, .int), (ca 1, .boolean), (cL, .long)]
theorem tn_t3_ty {D : va_G} {cl : List vw_C} {ca : Nat → ClassId} {cL : ClassId} {U : State} (h : va_K D cl (tn_t3 ca cL) U) : va_K D cl (am_ty ca) U := h.sub [0, 1] rfl
/-- an outcome of the class's that the law knows -/
def tn_hkn (cE : String → Nat) (o : am_O) : Prop := (∃ v, o = .inl (some (.int v))) ∨ ∃ E, o = .inr E ∧ 0 < cE E
/-- what a helper makes of it -/
def tn_hou (cE : String → Nat) (bo : Bool) (o : am_O) (k : Int32) (w : Int64) : Prop := (∃ v, o = .inl (some (.int v)) ∧ k = 0 ∧ w = (if bo then (if v = 0 then 0 else 1) else v.toInt64)) ∨ ∃ E, o = .inr E ∧ k = nI (cE E)
def tn_hP (D : va_G) (ad : Nat → Nat) (ca : Nat → ClassId) (cL : ClassId) (qo : Nat) (f : Nat → Int64) (h : am_S) (sz : Nat) (av : List Value) : Array Value → State → Prop := va_Pc av (fun U => U.heap.size = sz ∧ va_P D tn_cl (tn_WH ad ca cL qo f h) U.heap ∧ va_K D tn_cl (tn_t3 ca cL) U ∧ va_D (fun _ => True) (tn_WH ad ca cL qo f h) ∧ (∀ w ∈ tn_NS, va_Nw w U) ∧ tn_EX (va_A (tn_WH ad ca cL qo f h) sz) U U.heap)
def tn_hQ (cE : String → Nat) (bo : Bool) (Q : am_Q) (D : va_G) (ad : Nat → Nat) (ca : Nat → ClassId) (cL : ClassId) (qo : Nat) (A : Nat → Prop) : Array Value → State → Outcome → State → Prop := fun _ st oc t => (∃ (h' : am_S) (o : am_O) (k : Int32) (f' : Nat → Int64), oc = .returned (some (.int k)) ∧ Q h' o ∧ tn_hou cE bo o k (f' 0) ∧ va_P D tn_cl (tn_WH ad ca cL qo f' h') t.heap ∧ va_D A (tn_WH ad ca cL qo f' h')) ∧ va_F A st t
theorem tn_int0 : ∀ v ∈ ([] : List Value), ∃ x : Int32, v = .int x := fun v h => by cases h
theorem tn_intS {x : Int32} {r : List Value} (h : ∀ v ∈ r, ∃ x : Int32, v = .int x) : ∀ v ∈ Value.int x :: r, ∃ x : Int32, v = .int x := fun v hv => by
  rcases List.mem_cons.mp hv with rfl | hv
  · exact ⟨x, rfl⟩
  · exact h v hv
def tn_yh_sign : MethodName := ⟨"TermNetLaw", "sign", "(LTermNet;I[J)I"⟩
theorem tn_dh_sign_0 : decode method_3_code 0 = .ok (.aload_n 2, 1) := by decide +kernel
theorem tn_dh_sign_1 : decode method_3_code 1 = .ok (.iconst 0, 1) := by decide +kernel
theorem tn_dh_sign_2 : decode method_3_code 2 = .ok (.aload_n 0, 1) := by decide +kernel
theorem tn_dh_sign_3 : decode method_3_code 3 = .ok (.iload_n 1, 1) := by decide +kernel
theorem tn_dh_sign_4 : decode method_3_code 4 = .ok (.invokevirtual 7, 3) := by decide +kernel
theorem tn_dh_sign_7 : decode method_3_code 7 = .ok (.i2l, 1) := by decide +kernel
theorem tn_dh_sign_8 : decode method_3_code 8 = .ok (.lastore, 1) := by decide +kernel
theorem tn_dh_sign_9 : decode method_3_code 9 = .ok (.goto 9, 3) := by decide +kernel
theorem tn_dh_sign_12 : decode method_3_code 12 = .ok (.astore_n 3, 1) := by decide +kernel
theorem tn_dh_sign_13 : decode method_3_code 13 = .ok (.iconst 1, 1) := by decide +kernel
theorem tn_dh_sign_14 : decode method_3_code 14 = .ok (.ireturn, 1) := by decide +kernel
theorem tn_dh_sign_15 : decode method_3_code 15 = .ok (.astore_n 3, 1) := by decide +kernel
theorem tn_dh_sign_16 : decode method_3_code 16 = .ok (.iconst 2, 1) := by decide +kernel
theorem tn_dh_sign_17 : decode method_3_code 17 = .ok (.ireturn, 1) := by decide +kernel
theorem tn_dh_sign_18 : decode method_3_code 18 = .ok (.iconst 0, 1) := by decide +kernel
theorem tn_dh_sign_19 : decode method_3_code 19 = .ok (.ireturn, 1) := by decide +kernel
set_option maxHeartbeats 4000000 in
set_option maxRecDepth 100000 in
theorem tn_h_sign {l : Launch} (hl9 : l.stackTraces = false) {D : va_G} {ad : Nat → Nat} {ca : Nat → ClassId} {cL : ClassId} {qo : Nat} {f : Nat → Int64} {h : am_S} {Q : am_Q} (x1 : Int32) (hAW : am_AW tn_G tn_X (39, 0, 0, [some (.ref 0), some (.int x1)], [], h) Q) (hQ : ∀ h1 o, Q h1 o → tn_hkn tn_nS o) (sz : Nat) :
    vx_Met l tn_yh_sign (Cond.codeWith tn_yh_sign method_3_code 4 (some .int) [(0, 9, 12, 13), (0, 9, 15, 15)] :: tn_TS) ({ frames := 7, cells := 1, slots := 6, locals := 111 }) (tn_hP D ad ca cL qo f h sz [.ref (ad 0), .int x1, .ref qo]) (tn_hQ tn_nS false Q D ad ca cL qo (va_A (tn_WH ad ca cL qo f h) sz)) (fun _ _ _ => False) 1 6 (va_A (tn_WH ad ca cL qo f h) sz) := by
  refine vx_ofWH (cc := method_3_code) (maxL := 4) (ret := some .int) (hh := [(0, 9, 12, 13), (0, 9, 15, 15)]) (by decide) rfl ?_
  intro p e s m args below meth c s₁ B hml hv
  obtain ⟨rfl, hsz, hP, hK, hD0, hns, hE⟩ := hv
  have hx := B.exec
  have hb := B.bytes
  have hr := B.returns
  have hat := atoms_spec (ws := Cond.codeWith tn_yh_sign method_3_code 4 (some .int) [(0, 9, 12, 13), (0, 9, 15, 15)] :: tn_TS) B.pre
  have htab := vx_table (x := tn_yh_sign) B (hat _ List.mem_cons_self)
  have hts : ∀ w ∈ tn_TS, w.before _ s = true := fun w hw => hat w (List.mem_cons_of_mem _ hw)
  have hown : s.vm.findClass "TermNetLaw" = some m.cls := findClass_of_methodNamed B.named
  have hlocks := B.notSynchronized
  subst hsz
  have hD := hD0.self (sz := s.heap.size)
  generalize hAe : va_A (tn_WH ad ca cL qo f h) s.heap.size = A at hD hE ⊢
  have hA : ∀ q : Nat, s.heap.size ≤ q → A q := fun q h => by rw [← hAe]; exact Or.inr h
  have hS : va_S A s.heap s.heap [] := va_S.rf
  have hl := lv_entry ([.ref (ad 0), .int x1, .ref qo]) (n := 4) (Nat.le_of_ble_eq_true rfl)
  rw [lg_entry_eq]
  generalize (lg_sl ([.ref (ad 0), .int x1, .ref qo]) ++ List.replicate (4 - (lg_sl ([.ref (ad 0), .int x1, .ref qo])).length) Slot.unset).toArray = ls at hl ⊢
  have hl : lv_has ls 4 [(0, .ref (ad 0)), (1, .int x1), (2, .ref qo)] := hl
  refine lv_aload_n hx hb tn_dh_sign_0 rfl (lv_at hl 2 rfl) ?_
  refine lv_iconst (v := 0) hx hb tn_dh_sign_1 (by decide) ?_
  refine lv_aload_n hx hb tn_dh_sign_2 rfl (lv_at hl 0 rfl) ?_
  refine lv_iload_n hx hb tn_dh_sign_3 rfl (lv_at hl 1 rfl) ?_
  refine tn_cv (μ := 39) (M := tn_m39) rfl (xs := [.int x1]) (rest := [.int 0, .ref qo]) (nL := 4) (tn_sX hl9 hAW) (Nat.le_of_ble_eq_true rfl) (tn_intS tn_int0) hx hb hml hl.1 hown hts hns hE (tn_t3_ty hK) hP hD hS hA tn_X0 rfl tn_wh0 tn_wh1 tn_wh2 (by decide +kernel : (parseMethodDescriptor tn_m39.1.desc).map (fun d => d.parameters.length) = some 1) (Nat.le_of_ble_eq_true rfl) (Nat.le_of_ble_eq_true rfl) (Nat.le_of_ble_eq_true rfl) (Nat.le_of_ble_eq_true rfl) (Nat.le_of_ble_eq_true rfl) tn_dh_sign_4 (fun E ce q9 h1 H1 locs1 hq hP1 hD1 hS1 hce hcv hcl => ?_) (fun r h1 H1 locs1 hq hP1 hD1 hS1 => ?_)
  · have hk := hQ h1 (.inr E) hq
    have hpos : 0 < tn_nS E := by
      rcases hk with ⟨v, hv⟩ | ⟨E9, he, hp⟩
      · cases hv
      · cases he
        exact hp
    refine vx_widen (k := 1) (n := 6) (Nat.le_of_ble_eq_true rfl) (Nat.le_of_ble_eq_true rfl) ?_
    by_cases he0 : E = tn_IAE
    · subst he0
      refine vx_catch (own := "TermNetLaw") (name := tn_IAE) hown [] ({ startPc := 0, endPc := 9, handlerPc := 12, catchType := 13 }) [{ startPc := 0, endPc := 9, handlerPc := 15, catchType := 15 }] htab (fun z hz => by cases hz) (by decide) (by decide) (hts _ tn_wh3) (va_Nw.use rfl (hE.1 _ (List.mem_of_getElem? (i := 3) rfl))) hce hcv hcl ?_
      refine lv_astore_n (i := 3) hx hb tn_dh_sign_12 rfl hl (by decide) rfl (fun ls hl => ?_)
      refine lv_iconst (v := 1) hx hb tn_dh_sign_13 (by decide) ?_
      exact vx_ret (W.iret hx hb hr (fun t ht hW => ⟨⟨h1, .inr tn_IAE, 1, f, rfl, hq, Or.inr ⟨_, rfl, by decide⟩, by rw [ht]; exact hP1, hD1⟩, hS1.F ht⟩) hS1.2.2 tn_dh_sign_14)
    · skip
      by_cases he1 : E = tn_IOE
      · subst he1
        refine vx_catch (own := "TermNetLaw") (name := tn_IOE) hown [{ startPc := 0, endPc := 9, handlerPc := 12, catchType := 13 }] ({ startPc := 0, endPc := 9, handlerPc := 15, catchType := 15 }) [] htab (fun z hz => by
            obtain rfl : z = _ := List.mem_singleton.mp hz
            exact Or.inr ⟨by decide, tn_IAE, hts _ tn_wh3, hE.2.2.2.2.1⟩) (by decide) (by decide) (hts _ tn_wh4) (va_Nw.use rfl (hE.1 _ (List.mem_of_getElem? (i := 4) rfl))) hce hcv hcl ?_
        refine lv_astore_n (i := 3) hx hb tn_dh_sign_15 rfl hl (by decide) rfl (fun ls hl => ?_)
        refine lv_iconst (v := 2) hx hb tn_dh_sign_16 (by decide) ?_
        exact vx_ret (W.iret hx hb hr (fun t ht hW => ⟨⟨h1, .inr tn_IOE, 2, f, rfl, hq, Or.inr ⟨_, rfl, by decide⟩, by rw [ht]; exact hP1, hD1⟩, hS1.F ht⟩) hS1.2.2 tn_dh_sign_17)
      · exfalso
        have h9 : tn_nS E = 0 := by unfold tn_nS; simp only [if_neg (show ¬ E = "java/lang/IllegalArgumentException" from he0), if_neg (show ¬ E = "java/lang/IndexOutOfBoundsException" from he1)]
        omega
  · obtain ⟨v, rfl⟩ : ∃ v, r = some (.int v) := by
      rcases hQ h1 (.inl r) hq with ⟨v, hv⟩ | ⟨E9, he, hp⟩
      · cases hv
        exact ⟨v, rfl⟩
      · cases he
    refine W.widen (k := 1) (n := 6) (Nat.le_of_ble_eq_true rfl) (Nat.le_of_ble_eq_true rfl) ?_
    refine W.eq (g2 := F0 m 7 ls [.int v, .int 0, .ref qo]) rfl ?_
    refine lv_i2l (v := v.toInt64) hx hb tn_dh_sign_7 rfl ?_
    refine va_last (D := D) (cl := tn_cl) (tys := tn_t3 ca cL) (ws := tn_WH ad ca cL qo f h1) hx hb hK hP1 hD1 hS1 0 2 rfl rfl (by unfold vp_in; decide) tn_dh_sign_8 (fun H2 locs2 hP2 hD2 hS2 => ?_)
    have hP2 : va_P D tn_cl (tn_WH ad ca cL qo (vp_updL f 0 (v.toInt64)) h1) H2 := hP2
    have hD2 : va_D A (tn_WH ad ca cL qo (vp_updL f 0 (v.toInt64)) h1) := hD2
    refine lv_goto (tgt := 18) hx hb tn_dh_sign_9 (by decide) ?_
    refine lv_iconst (v := 0) hx hb tn_dh_sign_18 (by decide) ?_
    exact vx_ret (W.iret hx hb hr (fun t ht hW => ⟨⟨h1, .inl (some (.int v)), 0, _, rfl, hq, Or.inl ⟨v, rfl, rfl, by simp [vp_updL]⟩, by rw [ht]; exact hP2, hD2⟩, hS2.F ht⟩) hS2.2.2 tn_dh_sign_19)
def tn_yh_unknown : MethodName := ⟨"TermNetLaw", "unknown", "(LTermNet;[J)I"⟩
theorem tn_dh_unknown_0 : decode method_4_code 0 = .ok (.aload_n 1, 1) := by decide +kernel
theorem tn_dh_unknown_1 : decode method_4_code 1 = .ok (.iconst 0, 1) := by decide +kernel
theorem tn_dh_unknown_2 : decode method_4_code 2 = .ok (.aload_n 0, 1) := by decide +kernel
theorem tn_dh_unknown_3 : decode method_4_code 3 = .ok (.invokevirtual 17, 3) := by decide +kernel
theorem tn_dh_unknown_6 : decode method_4_code 6 = .ok (.i2l, 1) := by decide +kernel
theorem tn_dh_unknown_7 : decode method_4_code 7 = .ok (.lastore, 1) := by decide +kernel
theorem tn_dh_unknown_8 : decode method_4_code 8 = .ok (.goto 6, 3) := by decide +kernel
theorem tn_dh_unknown_11 : decode method_4_code 11 = .ok (.astore_n 2, 1) := by decide +kernel
theorem tn_dh_unknown_12 : decode method_4_code 12 = .ok (.iconst 1, 1) := by decide +kernel
theorem tn_dh_unknown_13 : decode method_4_code 13 = .ok (.ireturn, 1) := by decide +kernel
theorem tn_dh_unknown_14 : decode method_4_code 14 = .ok (.iconst 0, 1) := by decide +kernel
theorem tn_dh_unknown_15 : decode method_4_code 15 = .ok (.ireturn, 1) := by decide +kernel
set_option maxHeartbeats 4000000 in
set_option maxRecDepth 100000 in
theorem tn_h_unknown {l : Launch} (hl9 : l.stackTraces = false) {D : va_G} {ad : Nat → Nat} {ca : Nat → ClassId} {cL : ClassId} {qo : Nat} {f : Nat → Int64} {h : am_S} {Q : am_Q}  (hAW : am_AW tn_G tn_X (40, 0, 0, [some (.ref 0), none], [], h) Q) (hQ : ∀ h1 o, Q h1 o → tn_hkn tn_nU o) (sz : Nat) :
    vx_Met l tn_yh_unknown (Cond.codeWith tn_yh_unknown method_4_code 3 (some .int) [(0, 8, 11, 15)] :: tn_TS) ({ frames := 8, cells := 1, slots := 6, locals := 131 }) (tn_hP D ad ca cL qo f h sz [.ref (ad 0), .ref qo]) (tn_hQ tn_nU false Q D ad ca cL qo (va_A (tn_WH ad ca cL qo f h) sz)) (fun _ _ _ => False) 1 6 (va_A (tn_WH ad ca cL qo f h) sz) := by
  refine vx_ofWH (cc := method_4_code) (maxL := 3) (ret := some .int) (hh := [(0, 8, 11, 15)]) (by decide) rfl ?_
  intro p e s m args below meth c s₁ B hml hv
  obtain ⟨rfl, hsz, hP, hK, hD0, hns, hE⟩ := hv
  have hx := B.exec
  have hb := B.bytes
  have hr := B.returns
  have hat := atoms_spec (ws := Cond.codeWith tn_yh_unknown method_4_code 3 (some .int) [(0, 8, 11, 15)] :: tn_TS) B.pre
  have htab := vx_table (x := tn_yh_unknown) B (hat _ List.mem_cons_self)
  have hts : ∀ w ∈ tn_TS, w.before _ s = true := fun w hw => hat w (List.mem_cons_of_mem _ hw)
  have hown : s.vm.findClass "TermNetLaw" = some m.cls := findClass_of_methodNamed B.named
  have hlocks := B.notSynchronized
  subst hsz
  have hD := hD0.self (sz := s.heap.size)
  generalize hAe : va_A (tn_WH ad ca cL qo f h) s.heap.size = A at hD hE ⊢
  have hA : ∀ q : Nat, s.heap.size ≤ q → A q := fun q h => by rw [← hAe]; exact Or.inr h
  have hS : va_S A s.heap s.heap [] := va_S.rf
  have hl := lv_entry ([.ref (ad 0), .ref qo]) (n := 3) (Nat.le_of_ble_eq_true rfl)
  rw [lg_entry_eq]
  generalize (lg_sl ([.ref (ad 0), .ref qo]) ++ List.replicate (3 - (lg_sl ([.ref (ad 0), .ref qo])).length) Slot.unset).toArray = ls at hl ⊢
  have hl : lv_has ls 3 [(0, .ref (ad 0)), (1, .ref qo)] := hl
  refine lv_aload_n hx hb tn_dh_unknown_0 rfl (lv_at hl 1 rfl) ?_
  refine lv_iconst (v := 0) hx hb tn_dh_unknown_1 (by decide) ?_
  refine lv_aload_n hx hb tn_dh_unknown_2 rfl (lv_at hl 0 rfl) ?_
  refine tn_cv (μ := 40) (M := tn_m40) rfl (xs := []) (rest := [.int 0, .ref qo]) (nL := 3) (tn_sX hl9 hAW) (Nat.le_of_ble_eq_true rfl) tn_int0 hx hb hml hl.1 hown hts hns hE (tn_t3_ty hK) hP hD hS hA tn_X0 rfl tn_wh5 tn_wh6 tn_wh7 (by decide +kernel : (parseMethodDescriptor tn_m40.1.desc).map (fun d => d.parameters.length) = some 0) (Nat.le_of_ble_eq_true rfl) (Nat.le_of_ble_eq_true rfl) (Nat.le_of_ble_eq_true rfl) (Nat.le_of_ble_eq_true rfl) (Nat.le_of_ble_eq_true rfl) tn_dh_unknown_3 (fun E ce q9 h1 H1 locs1 hq hP1 hD1 hS1 hce hcv hcl => ?_) (fun r h1 H1 locs1 hq hP1 hD1 hS1 => ?_)
  · have hk := hQ h1 (.inr E) hq
    have hpos : 0 < tn_nU E := by
      rcases hk with ⟨v, hv⟩ | ⟨E9, he, hp⟩
      · cases hv
      · cases he
        exact hp
    refine vx_widen (k := 1) (n := 6) (Nat.le_of_ble_eq_true rfl) (Nat.le_of_ble_eq_true rfl) ?_
    by_cases he0 : E = tn_IOE
    · subst he0
      refine vx_catch (own := "TermNetLaw") (name := tn_IOE) hown [] ({ startPc := 0, endPc := 8, handlerPc := 11, catchType := 15 }) [] htab (fun z hz => by cases hz) (by decide) (by decide) (hts _ tn_wh4) (va_Nw.use rfl (hE.1 _ (List.mem_of_getElem? (i := 4) rfl))) hce hcv hcl ?_
      refine lv_astore_n (i := 2) hx hb tn_dh_unknown_11 rfl hl (by decide) rfl (fun ls hl => ?_)
      refine lv_iconst (v := 1) hx hb tn_dh_unknown_12 (by decide) ?_
      exact vx_ret (W.iret hx hb hr (fun t ht hW => ⟨⟨h1, .inr tn_IOE, 1, f, rfl, hq, Or.inr ⟨_, rfl, by decide⟩, by rw [ht]; exact hP1, hD1⟩, hS1.F ht⟩) hS1.2.2 tn_dh_unknown_13)
    · exfalso
      have h9 : tn_nU E = 0 := by unfold tn_nU; simp only [if_neg (show ¬ E = "java/lang/IndexOutOfBoundsException" from he0)]
      omega
  · obtain ⟨v, rfl⟩ : ∃ v, r = some (.int v) := by
      rcases hQ h1 (.inl r) hq with ⟨v, hv⟩ | ⟨E9, he, hp⟩
      · cases hv
        exact ⟨v, rfl⟩
      · cases he
    refine W.widen (k := 1) (n := 6) (Nat.le_of_ble_eq_true rfl) (Nat.le_of_ble_eq_true rfl) ?_
    refine W.eq (g2 := F0 m 6 ls [.int v, .int 0, .ref qo]) rfl ?_
    refine lv_i2l (v := v.toInt64) hx hb tn_dh_unknown_6 rfl ?_
    refine va_last (D := D) (cl := tn_cl) (tys := tn_t3 ca cL) (ws := tn_WH ad ca cL qo f h1) hx hb hK hP1 hD1 hS1 0 2 rfl rfl (by unfold vp_in; decide) tn_dh_unknown_7 (fun H2 locs2 hP2 hD2 hS2 => ?_)
    have hP2 : va_P D tn_cl (tn_WH ad ca cL qo (vp_updL f 0 (v.toInt64)) h1) H2 := hP2
    have hD2 : va_D A (tn_WH ad ca cL qo (vp_updL f 0 (v.toInt64)) h1) := hD2
    refine lv_goto (tgt := 14) hx hb tn_dh_unknown_8 (by decide) ?_
    refine lv_iconst (v := 0) hx hb tn_dh_unknown_14 (by decide) ?_
    exact vx_ret (W.iret hx hb hr (fun t ht hW => ⟨⟨h1, .inl (some (.int v)), 0, _, rfl, hq, Or.inl ⟨v, rfl, rfl, by simp [vp_updL]⟩, by rw [ht]; exact hP2, hD2⟩, hS2.F ht⟩) hS2.2.2 tn_dh_unknown_15)
def tn_yh_term : MethodName := ⟨"TermNetLaw", "term", "(LTermNet;IIII[J)I"⟩
theorem tn_dh_term_0 : decode method_5_code 0 = .ok (.aload 5, 2) := by decide +kernel
theorem tn_dh_term_2 : decode method_5_code 2 = .ok (.iconst 0, 1) := by decide +kernel
theorem tn_dh_term_3 : decode method_5_code 3 = .ok (.aload_n 0, 1) := by decide +kernel
theorem tn_dh_term_4 : decode method_5_code 4 = .ok (.iload_n 1, 1) := by decide +kernel
theorem tn_dh_term_5 : decode method_5_code 5 = .ok (.iload_n 2, 1) := by decide +kernel
theorem tn_dh_term_6 : decode method_5_code 6 = .ok (.iload_n 3, 1) := by decide +kernel
theorem tn_dh_term_7 : decode method_5_code 7 = .ok (.iload 4, 2) := by decide +kernel
theorem tn_dh_term_9 : decode method_5_code 9 = .ok (.invokevirtual 21, 3) := by decide +kernel
theorem tn_dh_term_12 : decode method_5_code 12 = .ok (.i2l, 1) := by decide +kernel
theorem tn_dh_term_13 : decode method_5_code 13 = .ok (.lastore, 1) := by decide +kernel
theorem tn_dh_term_14 : decode method_5_code 14 = .ok (.goto 11, 3) := by decide +kernel
theorem tn_dh_term_17 : decode method_5_code 17 = .ok (.astore 6, 2) := by decide +kernel
theorem tn_dh_term_19 : decode method_5_code 19 = .ok (.iconst 1, 1) := by decide +kernel
theorem tn_dh_term_20 : decode method_5_code 20 = .ok (.ireturn, 1) := by decide +kernel
theorem tn_dh_term_21 : decode method_5_code 21 = .ok (.astore 6, 2) := by decide +kernel
theorem tn_dh_term_23 : decode method_5_code 23 = .ok (.iconst 2, 1) := by decide +kernel
theorem tn_dh_term_24 : decode method_5_code 24 = .ok (.ireturn, 1) := by decide +kernel
theorem tn_dh_term_25 : decode method_5_code 25 = .ok (.iconst 0, 1) := by decide +kernel
theorem tn_dh_term_26 : decode method_5_code 26 = .ok (.ireturn, 1) := by decide +kernel
set_option maxHeartbeats 4000000 in
set_option maxRecDepth 100000 in
theorem tn_h_term {l : Launch} (hl9 : l.stackTraces = false) {D : va_G} {ad : Nat → Nat} {ca : Nat → ClassId} {cL : ClassId} {qo : Nat} {f : Nat → Int64} {h : am_S} {Q : am_Q} (x1 : Int32) (x2 : Int32) (x3 : Int32) (x4 : Int32) (hAW : am_AW tn_G tn_X (42, 0, 0, [some (.ref 0), some (.int x1), some (.int x2), some (.int x3), some (.int x4), none], [], h) Q) (hQ : ∀ h1 o, Q h1 o → tn_hkn tn_nS o) (sz : Nat) :
    vx_Met l tn_yh_term (Cond.codeWith tn_yh_term method_5_code 7 (some .int) [(0, 14, 17, 13), (0, 14, 21, 15)] :: tn_TS) ({ frames := 8, cells := 1, slots := 6, locals := 135 }) (tn_hP D ad ca cL qo f h sz [.ref (ad 0), .int x1, .int x2, .int x3, .int x4, .ref qo]) (tn_hQ tn_nS false Q D ad ca cL qo (va_A (tn_WH ad ca cL qo f h) sz)) (fun _ _ _ => False) 1 6 (va_A (tn_WH ad ca cL qo f h) sz) := by
  refine vx_ofWH (cc := method_5_code) (maxL := 7) (ret := some .int) (hh := [(0, 14, 17, 13), (0, 14, 21, 15)]) (by decide) rfl ?_
  intro p e s m args below meth c s₁ B hml hv
  obtain ⟨rfl, hsz, hP, hK, hD0, hns, hE⟩ := hv
  have hx := B.exec
  have hb := B.bytes
  have hr := B.returns
  have hat := atoms_spec (ws := Cond.codeWith tn_yh_term method_5_code 7 (some .int) [(0, 14, 17, 13), (0, 14, 21, 15)] :: tn_TS) B.pre
  have htab := vx_table (x := tn_yh_term) B (hat _ List.mem_cons_self)
  have hts : ∀ w ∈ tn_TS, w.before _ s = true := fun w hw => hat w (List.mem_cons_of_mem _ hw)
  have hown : s.vm.findClass "TermNetLaw" = some m.cls := findClass_of_methodNamed B.named
  have hlocks := B.notSynchronized
  subst hsz
  have hD := hD0.self (sz := s.heap.size)
  generalize hAe : va_A (tn_WH ad ca cL qo f h) s.heap.size = A at hD hE ⊢
  have hA : ∀ q : Nat, s.heap.size ≤ q → A q := fun q h => by rw [← hAe]; exact Or.inr h
  have hS : va_S A s.heap s.heap [] := va_S.rf
  have hl := lv_entry ([.ref (ad 0), .int x1, .int x2, .int x3, .int x4, .ref qo]) (n := 7) (Nat.le_of_ble_eq_true rfl)
  rw [lg_entry_eq]
  generalize (lg_sl ([.ref (ad 0), .int x1, .int x2, .int x3, .int x4, .ref qo]) ++ List.replicate (7 - (lg_sl ([.ref (ad 0), .int x1, .int x2, .int x3, .int x4, .ref qo])).length) Slot.unset).toArray = ls at hl ⊢
  have hl : lv_has ls 7 [(0, .ref (ad 0)), (1, .int x1), (2, .int x2), (3, .int x3), (4, .int x4), (5, .ref qo)] := hl
  refine lv_aload hx hb tn_dh_term_0 (lv_at hl 5 rfl) ?_
  refine lv_iconst (v := 0) hx hb tn_dh_term_2 (by decide) ?_
  refine lv_aload_n hx hb tn_dh_term_3 rfl (lv_at hl 0 rfl) ?_
  refine lv_iload_n hx hb tn_dh_term_4 rfl (lv_at hl 1 rfl) ?_
  refine lv_iload_n hx hb tn_dh_term_5 rfl (lv_at hl 2 rfl) ?_
  refine lv_iload_n hx hb tn_dh_term_6 rfl (lv_at hl 3 rfl) ?_
  refine lv_iload hx hb tn_dh_term_7 (lv_at hl 4 rfl) ?_
  refine tn_cv (μ := 42) (M := tn_m42) rfl (xs := [.int x1, .int x2, .int x3, .int x4]) (rest := [.int 0, .ref qo]) (nL := 7) (tn_sX hl9 hAW) (Nat.le_of_ble_eq_true rfl) (tn_intS (tn_intS (tn_intS (tn_intS tn_int0)))) hx hb hml hl.1 hown hts hns hE (tn_t3_ty hK) hP hD hS hA tn_X0 rfl tn_wh8 tn_wh9 tn_wh10 (by decide +kernel : (parseMethodDescriptor tn_m42.1.desc).map (fun d => d.parameters.length) = some 4) (Nat.le_of_ble_eq_true rfl) (Nat.le_of_ble_eq_true rfl) (Nat.le_of_ble_eq_true rfl) (Nat.le_of_ble_eq_true rfl) (Nat.le_of_ble_eq_true rfl) tn_dh_term_9 (fun E ce q9 h1 H1 locs1 hq hP1 hD1 hS1 hce hcv hcl => ?_) (fun r h1 H1 locs1 hq hP1 hD1 hS1 => ?_)
  · have hk := hQ h1 (.inr E) hq
    have hpos : 0 < tn_nS E := by
      rcases hk with ⟨v, hv⟩ | ⟨E9, he, hp⟩
      · cases hv
      · cases he
        exact hp
    refine vx_widen (k := 1) (n := 6) (Nat.le_of_ble_eq_true rfl) (Nat.le_of_ble_eq_true rfl) ?_
    by_cases he0 : E = tn_IAE
    · subst he0
      refine vx_catch (own := "TermNetLaw") (name := tn_IAE) hown [] ({ startPc := 0, endPc := 14, handlerPc := 17, catchType := 13 }) [{ startPc := 0, endPc := 14, handlerPc := 21, catchType := 15 }] htab (fun z hz => by cases hz) (by decide) (by decide) (hts _ tn_wh3) (va_Nw.use rfl (hE.1 _ (List.mem_of_getElem? (i := 3) rfl))) hce hcv hcl ?_
      refine lv_astore (i := 6) hx hb tn_dh_term_17 hl (by decide) rfl (fun ls hl => ?_)
      refine lv_iconst (v := 1) hx hb tn_dh_term_19 (by decide) ?_
      exact vx_ret (W.iret hx hb hr (fun t ht hW => ⟨⟨h1, .inr tn_IAE, 1, f, rfl, hq, Or.inr ⟨_, rfl, by decide⟩, by rw [ht]; exact hP1, hD1⟩, hS1.F ht⟩) hS1.2.2 tn_dh_term_20)
    · skip
      by_cases he1 : E = tn_IOE
      · subst he1
        refine vx_catch (own := "TermNetLaw") (name := tn_IOE) hown [{ startPc := 0, endPc := 14, handlerPc := 17, catchType := 13 }] ({ startPc := 0, endPc := 14, handlerPc := 21, catchType := 15 }) [] htab (fun z hz => by
            obtain rfl : z = _ := List.mem_singleton.mp hz
            exact Or.inr ⟨by decide, tn_IAE, hts _ tn_wh3, hE.2.2.2.2.1⟩) (by decide) (by decide) (hts _ tn_wh4) (va_Nw.use rfl (hE.1 _ (List.mem_of_getElem? (i := 4) rfl))) hce hcv hcl ?_
        refine lv_astore (i := 6) hx hb tn_dh_term_21 hl (by decide) rfl (fun ls hl => ?_)
        refine lv_iconst (v := 2) hx hb tn_dh_term_23 (by decide) ?_
        exact vx_ret (W.iret hx hb hr (fun t ht hW => ⟨⟨h1, .inr tn_IOE, 2, f, rfl, hq, Or.inr ⟨_, rfl, by decide⟩, by rw [ht]; exact hP1, hD1⟩, hS1.F ht⟩) hS1.2.2 tn_dh_term_24)
      · exfalso
        have h9 : tn_nS E = 0 := by unfold tn_nS; simp only [if_neg (show ¬ E = "java/lang/IllegalArgumentException" from he0), if_neg (show ¬ E = "java/lang/IndexOutOfBoundsException" from he1)]
        omega
  · obtain ⟨v, rfl⟩ : ∃ v, r = some (.int v) := by
      rcases hQ h1 (.inl r) hq with ⟨v, hv⟩ | ⟨E9, he, hp⟩
      · cases hv
        exact ⟨v, rfl⟩
      · cases he
    refine W.widen (k := 1) (n := 6) (Nat.le_of_ble_eq_true rfl) (Nat.le_of_ble_eq_true rfl) ?_
    refine W.eq (g2 := F0 m 12 ls [.int v, .int 0, .ref qo]) rfl ?_
    refine lv_i2l (v := v.toInt64) hx hb tn_dh_term_12 rfl ?_
    refine va_last (D := D) (cl := tn_cl) (tys := tn_t3 ca cL) (ws := tn_WH ad ca cL qo f h1) hx hb hK hP1 hD1 hS1 0 2 rfl rfl (by unfold vp_in; decide) tn_dh_term_13 (fun H2 locs2 hP2 hD2 hS2 => ?_)
    have hP2 : va_P D tn_cl (tn_WH ad ca cL qo (vp_updL f 0 (v.toInt64)) h1) H2 := hP2
    have hD2 : va_D A (tn_WH ad ca cL qo (vp_updL f 0 (v.toInt64)) h1) := hD2
    refine lv_goto (tgt := 25) hx hb tn_dh_term_14 (by decide) ?_
    refine lv_iconst (v := 0) hx hb tn_dh_term_25 (by decide) ?_
    exact vx_ret (W.iret hx hb hr (fun t ht hW => ⟨⟨h1, .inl (some (.int v)), 0, _, rfl, hq, Or.inl ⟨v, rfl, rfl, by simp [vp_updL]⟩, by rw [ht]; exact hP2, hD2⟩, hS2.F ht⟩) hS2.2.2 tn_dh_term_26)
def tn_yh_equal : MethodName := ⟨"TermNetLaw", "equal", "(LTermNet;II[J)I"⟩
theorem tn_dh_equal_0 : decode method_6_code 0 = .ok (.aload_n 3, 1) := by decide +kernel
theorem tn_dh_equal_1 : decode method_6_code 1 = .ok (.iconst 0, 1) := by decide +kernel
theorem tn_dh_equal_2 : decode method_6_code 2 = .ok (.aload_n 0, 1) := by decide +kernel
theorem tn_dh_equal_3 : decode method_6_code 3 = .ok (.iload_n 1, 1) := by decide +kernel
theorem tn_dh_equal_4 : decode method_6_code 4 = .ok (.iload_n 2, 1) := by decide +kernel
theorem tn_dh_equal_5 : decode method_6_code 5 = .ok (.invokevirtual 25, 3) := by decide +kernel
theorem tn_dh_equal_8 : decode method_6_code 8 = .ok (.ifCond .eq 7, 3) := by decide +kernel
theorem tn_dh_equal_11 : decode method_6_code 11 = .ok (.lconst 1, 1) := by decide +kernel
theorem tn_dh_equal_12 : decode method_6_code 12 = .ok (.goto 4, 3) := by decide +kernel
theorem tn_dh_equal_15 : decode method_6_code 15 = .ok (.lconst 0, 1) := by decide +kernel
theorem tn_dh_equal_16 : decode method_6_code 16 = .ok (.lastore, 1) := by decide +kernel
theorem tn_dh_equal_17 : decode method_6_code 17 = .ok (.goto 7, 3) := by decide +kernel
theorem tn_dh_equal_20 : decode method_6_code 20 = .ok (.astore 4, 2) := by decide +kernel
theorem tn_dh_equal_22 : decode method_6_code 22 = .ok (.iconst 1, 1) := by decide +kernel
theorem tn_dh_equal_23 : decode method_6_code 23 = .ok (.ireturn, 1) := by decide +kernel
theorem tn_dh_equal_24 : decode method_6_code 24 = .ok (.iconst 0, 1) := by decide +kernel
theorem tn_dh_equal_25 : decode method_6_code 25 = .ok (.ireturn, 1) := by decide +kernel
set_option maxHeartbeats 4000000 in
set_option maxRecDepth 100000 in
theorem tn_h_equal {l : Launch} (hl9 : l.stackTraces = false) {D : va_G} {ad : Nat → Nat} {ca : Nat → ClassId} {cL : ClassId} {qo : Nat} {f : Nat → Int64} {h : am_S} {Q : am_Q} (x1 : Int32) (x2 : Int32) (hAW : am_AW tn_G tn_X (43, 0, 0, [some (.ref 0), some (.int x1), some (.int x2), none], [], h) Q) (hQ : ∀ h1 o, Q h1 o → tn_hkn tn_nA o) (sz : Nat) :
    vx_Met l tn_yh_equal (Cond.codeWith tn_yh_equal method_6_code 5 (some .int) [(0, 17, 20, 13)] :: tn_TS) ({ frames := 8, cells := 2, slots := 12, locals := 134 }) (tn_hP D ad ca cL qo f h sz [.ref (ad 0), .int x1, .int x2, .ref qo]) (tn_hQ tn_nA true Q D ad ca cL qo (va_A (tn_WH ad ca cL qo f h) sz)) (fun _ _ _ => False) 2 12 (va_A (tn_WH ad ca cL qo f h) sz) := by
  refine vx_ofWH (cc := method_6_code) (maxL := 5) (ret := some .int) (hh := [(0, 17, 20, 13)]) (by decide) rfl ?_
  intro p e s m args below meth c s₁ B hml hv
  obtain ⟨rfl, hsz, hP, hK, hD0, hns, hE⟩ := hv
  have hx := B.exec
  have hb := B.bytes
  have hr := B.returns
  have hat := atoms_spec (ws := Cond.codeWith tn_yh_equal method_6_code 5 (some .int) [(0, 17, 20, 13)] :: tn_TS) B.pre
  have htab := vx_table (x := tn_yh_equal) B (hat _ List.mem_cons_self)
  have hts : ∀ w ∈ tn_TS, w.before _ s = true := fun w hw => hat w (List.mem_cons_of_mem _ hw)
  have hown : s.vm.findClass "TermNetLaw" = some m.cls := findClass_of_methodNamed B.named
  have hlocks := B.notSynchronized
  subst hsz
  have hD := hD0.self (sz := s.heap.size)
  generalize hAe : va_A (tn_WH ad ca cL qo f h) s.heap.size = A at hD hE ⊢
  have hA : ∀ q : Nat, s.heap.size ≤ q → A q := fun q h => by rw [← hAe]; exact Or.inr h
  have hS : va_S A s.heap s.heap [] := va_S.rf
  have hl := lv_entry ([.ref (ad 0), .int x1, .int x2, .ref qo]) (n := 5) (Nat.le_of_ble_eq_true rfl)
  rw [lg_entry_eq]
  generalize (lg_sl ([.ref (ad 0), .int x1, .int x2, .ref qo]) ++ List.replicate (5 - (lg_sl ([.ref (ad 0), .int x1, .int x2, .ref qo])).length) Slot.unset).toArray = ls at hl ⊢
  have hl : lv_has ls 5 [(0, .ref (ad 0)), (1, .int x1), (2, .int x2), (3, .ref qo)] := hl
  refine lv_aload_n hx hb tn_dh_equal_0 rfl (lv_at hl 3 rfl) ?_
  refine lv_iconst (v := 0) hx hb tn_dh_equal_1 (by decide) ?_
  refine lv_aload_n hx hb tn_dh_equal_2 rfl (lv_at hl 0 rfl) ?_
  refine lv_iload_n hx hb tn_dh_equal_3 rfl (lv_at hl 1 rfl) ?_
  refine lv_iload_n hx hb tn_dh_equal_4 rfl (lv_at hl 2 rfl) ?_
  refine tn_cv (μ := 43) (M := tn_m43) rfl (xs := [.int x1, .int x2]) (rest := [.int 0, .ref qo]) (nL := 5) (tn_sX hl9 hAW) (Nat.le_of_ble_eq_true rfl) (tn_intS (tn_intS tn_int0)) hx hb hml hl.1 hown hts hns hE (tn_t3_ty hK) hP hD hS hA tn_X0 rfl tn_wh11 tn_wh12 tn_wh13 (by decide +kernel : (parseMethodDescriptor tn_m43.1.desc).map (fun d => d.parameters.length) = some 2) (Nat.le_of_ble_eq_true rfl) (Nat.le_of_ble_eq_true rfl) (Nat.le_of_ble_eq_true rfl) (Nat.le_of_ble_eq_true rfl) (Nat.le_of_ble_eq_true rfl) tn_dh_equal_5 (fun E ce q9 h1 H1 locs1 hq hP1 hD1 hS1 hce hcv hcl => ?_) (fun r h1 H1 locs1 hq hP1 hD1 hS1 => ?_)
  · have hk := hQ h1 (.inr E) hq
    have hpos : 0 < tn_nA E := by
      rcases hk with ⟨v, hv⟩ | ⟨E9, he, hp⟩
      · cases hv
      · cases he
        exact hp
    refine vx_widen (k := 2) (n := 12) (Nat.le_of_ble_eq_true rfl) (Nat.le_of_ble_eq_true rfl) ?_
    by_cases he0 : E = tn_IAE
    · subst he0
      refine vx_catch (own := "TermNetLaw") (name := tn_IAE) hown [] ({ startPc := 0, endPc := 17, handlerPc := 20, catchType := 13 }) [] htab (fun z hz => by cases hz) (by decide) (by decide) (hts _ tn_wh3) (va_Nw.use rfl (hE.1 _ (List.mem_of_getElem? (i := 3) rfl))) hce hcv hcl ?_
      refine lv_astore (i := 4) hx hb tn_dh_equal_20 hl (by decide) rfl (fun ls hl => ?_)
      refine lv_iconst (v := 1) hx hb tn_dh_equal_22 (by decide) ?_
      exact vx_ret (W.iret hx hb hr (fun t ht hW => ⟨⟨h1, .inr tn_IAE, 1, f, rfl, hq, Or.inr ⟨_, rfl, by decide⟩, by rw [ht]; exact hP1, hD1⟩, hS1.F ht⟩) hS1.2.2 tn_dh_equal_23)
    · exfalso
      have h9 : tn_nA E = 0 := by unfold tn_nA; simp only [if_neg (show ¬ E = "java/lang/IllegalArgumentException" from he0)]
      omega
  · obtain ⟨v, rfl⟩ : ∃ v, r = some (.int v) := by
      rcases hQ h1 (.inl r) hq with ⟨v, hv⟩ | ⟨E9, he, hp⟩
      · cases hv
        exact ⟨v, rfl⟩
      · cases he
    refine W.widen (k := 2) (n := 12) (Nat.le_of_ble_eq_true rfl) (Nat.le_of_ble_eq_true rfl) ?_
    refine W.eq (g2 := F0 m 8 ls [.int v, .int 0, .ref qo]) rfl ?_
    refine lv_if_eq (tgt := 15) hx hb tn_dh_equal_8 (by decide) (fun h0 => ?_) (fun h0 => ?_)
    · refine lv_lconst (v := 0) hx hb tn_dh_equal_15 (by decide) ?_
      refine va_last (D := D) (cl := tn_cl) (tys := tn_t3 ca cL) (ws := tn_WH ad ca cL qo f h1) hx hb hK hP1 hD1 hS1 0 2 rfl rfl (by unfold vp_in; decide) tn_dh_equal_16 (fun H2 locs2 hP2 hD2 hS2 => ?_)
      have hP2 : va_P D tn_cl (tn_WH ad ca cL qo (vp_updL f 0 (0)) h1) H2 := hP2
      have hD2 : va_D A (tn_WH ad ca cL qo (vp_updL f 0 (0)) h1) := hD2
      refine lv_goto (tgt := 24) hx hb tn_dh_equal_17 (by decide) ?_
      refine lv_iconst (v := 0) hx hb tn_dh_equal_24 (by decide) ?_
      exact vx_ret (W.iret hx hb hr (fun t ht hW => ⟨⟨h1, .inl (some (.int v)), 0, _, rfl, hq, Or.inl ⟨v, rfl, rfl, by simp [vp_updL, h0]⟩, by rw [ht]; exact hP2, hD2⟩, hS2.F ht⟩) hS2.2.2 tn_dh_equal_25)
    · refine lv_lconst (v := 1) hx hb tn_dh_equal_11 (by decide) ?_
      refine lv_goto (tgt := 16) hx hb tn_dh_equal_12 (by decide) ?_
      refine va_last (D := D) (cl := tn_cl) (tys := tn_t3 ca cL) (ws := tn_WH ad ca cL qo f h1) hx hb hK hP1 hD1 hS1 0 2 rfl rfl (by unfold vp_in; decide) tn_dh_equal_16 (fun H2 locs2 hP2 hD2 hS2 => ?_)
      have hP2 : va_P D tn_cl (tn_WH ad ca cL qo (vp_updL f 0 (1)) h1) H2 := hP2
      have hD2 : va_D A (tn_WH ad ca cL qo (vp_updL f 0 (1)) h1) := hD2
      refine lv_goto (tgt := 24) hx hb tn_dh_equal_17 (by decide) ?_
      refine lv_iconst (v := 0) hx hb tn_dh_equal_24 (by decide) ?_
      exact vx_ret (W.iret hx hb hr (fun t ht hW => ⟨⟨h1, .inl (some (.int v)), 0, _, rfl, hq, Or.inl ⟨v, rfl, rfl, by simp [vp_updL, h0]⟩, by rw [ht]; exact hP2, hD2⟩, hS2.F ht⟩) hS2.2.2 tn_dh_equal_25)
def tn_yh_same : MethodName := ⟨"TermNetLaw", "same", "(LTermNet;II[J)I"⟩
theorem tn_dh_same_0 : decode method_7_code 0 = .ok (.aload_n 3, 1) := by decide +kernel
theorem tn_dh_same_1 : decode method_7_code 1 = .ok (.iconst 0, 1) := by decide +kernel
theorem tn_dh_same_2 : decode method_7_code 2 = .ok (.aload_n 0, 1) := by decide +kernel
theorem tn_dh_same_3 : decode method_7_code 3 = .ok (.iload_n 1, 1) := by decide +kernel
theorem tn_dh_same_4 : decode method_7_code 4 = .ok (.iload_n 2, 1) := by decide +kernel
theorem tn_dh_same_5 : decode method_7_code 5 = .ok (.invokevirtual 29, 3) := by decide +kernel
theorem tn_dh_same_8 : decode method_7_code 8 = .ok (.ifCond .eq 7, 3) := by decide +kernel
theorem tn_dh_same_11 : decode method_7_code 11 = .ok (.lconst 1, 1) := by decide +kernel
theorem tn_dh_same_12 : decode method_7_code 12 = .ok (.goto 4, 3) := by decide +kernel
theorem tn_dh_same_15 : decode method_7_code 15 = .ok (.lconst 0, 1) := by decide +kernel
theorem tn_dh_same_16 : decode method_7_code 16 = .ok (.lastore, 1) := by decide +kernel
theorem tn_dh_same_17 : decode method_7_code 17 = .ok (.goto 7, 3) := by decide +kernel
theorem tn_dh_same_20 : decode method_7_code 20 = .ok (.astore 4, 2) := by decide +kernel
theorem tn_dh_same_22 : decode method_7_code 22 = .ok (.iconst 1, 1) := by decide +kernel
theorem tn_dh_same_23 : decode method_7_code 23 = .ok (.ireturn, 1) := by decide +kernel
theorem tn_dh_same_24 : decode method_7_code 24 = .ok (.iconst 0, 1) := by decide +kernel
theorem tn_dh_same_25 : decode method_7_code 25 = .ok (.ireturn, 1) := by decide +kernel
set_option maxHeartbeats 4000000 in
set_option maxRecDepth 100000 in
theorem tn_h_same {l : Launch} (hl9 : l.stackTraces = false) {D : va_G} {ad : Nat → Nat} {ca : Nat → ClassId} {cL : ClassId} {qo : Nat} {f : Nat → Int64} {h : am_S} {Q : am_Q} (x1 : Int32) (x2 : Int32) (hAW : am_AW tn_G tn_X (45, 0, 0, [some (.ref 0), some (.int x1), some (.int x2)], [], h) Q) (hQ : ∀ h1 o, Q h1 o → tn_hkn tn_nA o) (sz : Nat) :
    vx_Met l tn_yh_same (Cond.codeWith tn_yh_same method_7_code 5 (some .int) [(0, 17, 20, 13)] :: tn_TS) ({ frames := 8, cells := 2, slots := 12, locals := 133 }) (tn_hP D ad ca cL qo f h sz [.ref (ad 0), .int x1, .int x2, .ref qo]) (tn_hQ tn_nA true Q D ad ca cL qo (va_A (tn_WH ad ca cL qo f h) sz)) (fun _ _ _ => False) 2 12 (va_A (tn_WH ad ca cL qo f h) sz) := by
  refine vx_ofWH (cc := method_7_code) (maxL := 5) (ret := some .int) (hh := [(0, 17, 20, 13)]) (by decide) rfl ?_
  intro p e s m args below meth c s₁ B hml hv
  obtain ⟨rfl, hsz, hP, hK, hD0, hns, hE⟩ := hv
  have hx := B.exec
  have hb := B.bytes
  have hr := B.returns
  have hat := atoms_spec (ws := Cond.codeWith tn_yh_same method_7_code 5 (some .int) [(0, 17, 20, 13)] :: tn_TS) B.pre
  have htab := vx_table (x := tn_yh_same) B (hat _ List.mem_cons_self)
  have hts : ∀ w ∈ tn_TS, w.before _ s = true := fun w hw => hat w (List.mem_cons_of_mem _ hw)
  have hown : s.vm.findClass "TermNetLaw" = some m.cls := findClass_of_methodNamed B.named
  have hlocks := B.notSynchronized
  subst hsz
  have hD := hD0.self (sz := s.heap.size)
  generalize hAe : va_A (tn_WH ad ca cL qo f h) s.heap.size = A at hD hE ⊢
  have hA : ∀ q : Nat, s.heap.size ≤ q → A q := fun q h => by rw [← hAe]; exact Or.inr h
  have hS : va_S A s.heap s.heap [] := va_S.rf
  have hl := lv_entry ([.ref (ad 0), .int x1, .int x2, .ref qo]) (n := 5) (Nat.le_of_ble_eq_true rfl)
  rw [lg_entry_eq]
  generalize (lg_sl ([.ref (ad 0), .int x1, .int x2, .ref qo]) ++ List.replicate (5 - (lg_sl ([.ref (ad 0), .int x1, .int x2, .ref qo])).length) Slot.unset).toArray = ls at hl ⊢
  have hl : lv_has ls 5 [(0, .ref (ad 0)), (1, .int x1), (2, .int x2), (3, .ref qo)] := hl
  refine lv_aload_n hx hb tn_dh_same_0 rfl (lv_at hl 3 rfl) ?_
  refine lv_iconst (v := 0) hx hb tn_dh_same_1 (by decide) ?_
  refine lv_aload_n hx hb tn_dh_same_2 rfl (lv_at hl 0 rfl) ?_
  refine lv_iload_n hx hb tn_dh_same_3 rfl (lv_at hl 1 rfl) ?_
  refine lv_iload_n hx hb tn_dh_same_4 rfl (lv_at hl 2 rfl) ?_
  refine tn_cv (μ := 45) (M := tn_m45) rfl (xs := [.int x1, .int x2]) (rest := [.int 0, .ref qo]) (nL := 5) (tn_sX hl9 hAW) (Nat.le_of_ble_eq_true rfl) (tn_intS (tn_intS tn_int0)) hx hb hml hl.1 hown hts hns hE (tn_t3_ty hK) hP hD hS hA tn_X0 rfl tn_wh14 tn_wh15 tn_wh16 (by decide +kernel : (parseMethodDescriptor tn_m45.1.desc).map (fun d => d.parameters.length) = some 2) (Nat.le_of_ble_eq_true rfl) (Nat.le_of_ble_eq_true rfl) (Nat.le_of_ble_eq_true rfl) (Nat.le_of_ble_eq_true rfl) (Nat.le_of_ble_eq_true rfl) tn_dh_same_5 (fun E ce q9 h1 H1 locs1 hq hP1 hD1 hS1 hce hcv hcl => ?_) (fun r h1 H1 locs1 hq hP1 hD1 hS1 => ?_)
  · have hk := hQ h1 (.inr E) hq
    have hpos : 0 < tn_nA E := by
      rcases hk with ⟨v, hv⟩ | ⟨E9, he, hp⟩
      · cases hv
      · cases he
        exact hp
    refine vx_widen (k := 2) (n := 12) (Nat.le_of_ble_eq_true rfl) (Nat.le_of_ble_eq_true rfl) ?_
    by_cases he0 : E = tn_IAE
    · subst he0
      refine vx_catch (own := "TermNetLaw") (name := tn_IAE) hown [] ({ startPc := 0, endPc := 17, handlerPc := 20, catchType := 13 }) [] htab (fun z hz => by cases hz) (by decide) (by decide) (hts _ tn_wh3) (va_Nw.use rfl (hE.1 _ (List.mem_of_getElem? (i := 3) rfl))) hce hcv hcl ?_
      refine lv_astore (i := 4) hx hb tn_dh_same_20 hl (by decide) rfl (fun ls hl => ?_)
      refine lv_iconst (v := 1) hx hb tn_dh_same_22 (by decide) ?_
      exact vx_ret (W.iret hx hb hr (fun t ht hW => ⟨⟨h1, .inr tn_IAE, 1, f, rfl, hq, Or.inr ⟨_, rfl, by decide⟩, by rw [ht]; exact hP1, hD1⟩, hS1.F ht⟩) hS1.2.2 tn_dh_same_23)
    · exfalso
      have h9 : tn_nA E = 0 := by unfold tn_nA; simp only [if_neg (show ¬ E = "java/lang/IllegalArgumentException" from he0)]
      omega
  · obtain ⟨v, rfl⟩ : ∃ v, r = some (.int v) := by
      rcases hQ h1 (.inl r) hq with ⟨v, hv⟩ | ⟨E9, he, hp⟩
      · cases hv
        exact ⟨v, rfl⟩
      · cases he
    refine W.widen (k := 2) (n := 12) (Nat.le_of_ble_eq_true rfl) (Nat.le_of_ble_eq_true rfl) ?_
    refine W.eq (g2 := F0 m 8 ls [.int v, .int 0, .ref qo]) rfl ?_
    refine lv_if_eq (tgt := 15) hx hb tn_dh_same_8 (by decide) (fun h0 => ?_) (fun h0 => ?_)
    · refine lv_lconst (v := 0) hx hb tn_dh_same_15 (by decide) ?_
      refine va_last (D := D) (cl := tn_cl) (tys := tn_t3 ca cL) (ws := tn_WH ad ca cL qo f h1) hx hb hK hP1 hD1 hS1 0 2 rfl rfl (by unfold vp_in; decide) tn_dh_same_16 (fun H2 locs2 hP2 hD2 hS2 => ?_)
      have hP2 : va_P D tn_cl (tn_WH ad ca cL qo (vp_updL f 0 (0)) h1) H2 := hP2
      have hD2 : va_D A (tn_WH ad ca cL qo (vp_updL f 0 (0)) h1) := hD2
      refine lv_goto (tgt := 24) hx hb tn_dh_same_17 (by decide) ?_
      refine lv_iconst (v := 0) hx hb tn_dh_same_24 (by decide) ?_
      exact vx_ret (W.iret hx hb hr (fun t ht hW => ⟨⟨h1, .inl (some (.int v)), 0, _, rfl, hq, Or.inl ⟨v, rfl, rfl, by simp [vp_updL, h0]⟩, by rw [ht]; exact hP2, hD2⟩, hS2.F ht⟩) hS2.2.2 tn_dh_same_25)
    · refine lv_lconst (v := 1) hx hb tn_dh_same_11 (by decide) ?_
      refine lv_goto (tgt := 16) hx hb tn_dh_same_12 (by decide) ?_
      refine va_last (D := D) (cl := tn_cl) (tys := tn_t3 ca cL) (ws := tn_WH ad ca cL qo f h1) hx hb hK hP1 hD1 hS1 0 2 rfl rfl (by unfold vp_in; decide) tn_dh_same_16 (fun H2 locs2 hP2 hD2 hS2 => ?_)
      have hP2 : va_P D tn_cl (tn_WH ad ca cL qo (vp_updL f 0 (1)) h1) H2 := hP2
      have hD2 : va_D A (tn_WH ad ca cL qo (vp_updL f 0 (1)) h1) := hD2
      refine lv_goto (tgt := 24) hx hb tn_dh_same_17 (by decide) ?_
      refine lv_iconst (v := 0) hx hb tn_dh_same_24 (by decide) ?_
      exact vx_ret (W.iret hx hb hr (fun t ht hW => ⟨⟨h1, .inl (some (.int v)), 0, _, rfl, hq, Or.inl ⟨v, rfl, rfl, by simp [vp_updL, h0]⟩, by rw [ht]; exact hP2, hD2⟩, hS2.F ht⟩) hS2.2.2 tn_dh_same_25)
def tn_yh_top : MethodName := ⟨"TermNetLaw", "top", "(LTermNet;I[J)I"⟩
theorem tn_dh_top_0 : decode method_8_code 0 = .ok (.aload_n 2, 1) := by decide +kernel
theorem tn_dh_top_1 : decode method_8_code 1 = .ok (.iconst 0, 1) := by decide +kernel
theorem tn_dh_top_2 : decode method_8_code 2 = .ok (.aload_n 0, 1) := by decide +kernel
theorem tn_dh_top_3 : decode method_8_code 3 = .ok (.iload_n 1, 1) := by decide +kernel
theorem tn_dh_top_4 : decode method_8_code 4 = .ok (.invokevirtual 32, 3) := by decide +kernel
theorem tn_dh_top_7 : decode method_8_code 7 = .ok (.i2l, 1) := by decide +kernel
theorem tn_dh_top_8 : decode method_8_code 8 = .ok (.lastore, 1) := by decide +kernel
theorem tn_dh_top_9 : decode method_8_code 9 = .ok (.goto 6, 3) := by decide +kernel
theorem tn_dh_top_12 : decode method_8_code 12 = .ok (.astore_n 3, 1) := by decide +kernel
theorem tn_dh_top_13 : decode method_8_code 13 = .ok (.iconst 1, 1) := by decide +kernel
theorem tn_dh_top_14 : decode method_8_code 14 = .ok (.ireturn, 1) := by decide +kernel
theorem tn_dh_top_15 : decode method_8_code 15 = .ok (.iconst 0, 1) := by decide +kernel
theorem tn_dh_top_16 : decode method_8_code 16 = .ok (.ireturn, 1) := by decide +kernel
set_option maxHeartbeats 4000000 in
set_option maxRecDepth 100000 in
theorem tn_h_top {l : Launch} (hl9 : l.stackTraces = false) {D : va_G} {ad : Nat → Nat} {ca : Nat → ClassId} {cL : ClassId} {qo : Nat} {f : Nat → Int64} {h : am_S} {Q : am_Q} (x1 : Int32) (hAW : am_AW tn_G tn_X (46, 0, 0, [some (.ref 0), some (.int x1)], [], h) Q) (hQ : ∀ h1 o, Q h1 o → tn_hkn tn_nA o) (sz : Nat) :
    vx_Met l tn_yh_top (Cond.codeWith tn_yh_top method_8_code 4 (some .int) [(0, 9, 12, 13)] :: tn_TS) ({ frames := 8, cells := 1, slots := 6, locals := 132 }) (tn_hP D ad ca cL qo f h sz [.ref (ad 0), .int x1, .ref qo]) (tn_hQ tn_nA false Q D ad ca cL qo (va_A (tn_WH ad ca cL qo f h) sz)) (fun _ _ _ => False) 1 6 (va_A (tn_WH ad ca cL qo f h) sz) := by
  refine vx_ofWH (cc := method_8_code) (maxL := 4) (ret := some .int) (hh := [(0, 9, 12, 13)]) (by decide) rfl ?_
  intro p e s m args below meth c s₁ B hml hv
  obtain ⟨rfl, hsz, hP, hK, hD0, hns, hE⟩ := hv
  have hx := B.exec
  have hb := B.bytes
  have hr := B.returns
  have hat := atoms_spec (ws := Cond.codeWith tn_yh_top method_8_code 4 (some .int) [(0, 9, 12, 13)] :: tn_TS) B.pre
  have htab := vx_table (x := tn_yh_top) B (hat _ List.mem_cons_self)
  have hts : ∀ w ∈ tn_TS, w.before _ s = true := fun w hw => hat w (List.mem_cons_of_mem _ hw)
  have hown : s.vm.findClass "TermNetLaw" = some m.cls := findClass_of_methodNamed B.named
  have hlocks := B.notSynchronized
  subst hsz
  have hD := hD0.self (sz := s.heap.size)
  generalize hAe : va_A (tn_WH ad ca cL qo f h) s.heap.size = A at hD hE ⊢
  have hA : ∀ q : Nat, s.heap.size ≤ q → A q := fun q h => by rw [← hAe]; exact Or.inr h
  have hS : va_S A s.heap s.heap [] := va_S.rf
  have hl := lv_entry ([.ref (ad 0), .int x1, .ref qo]) (n := 4) (Nat.le_of_ble_eq_true rfl)
  rw [lg_entry_eq]
  generalize (lg_sl ([.ref (ad 0), .int x1, .ref qo]) ++ List.replicate (4 - (lg_sl ([.ref (ad 0), .int x1, .ref qo])).length) Slot.unset).toArray = ls at hl ⊢
  have hl : lv_has ls 4 [(0, .ref (ad 0)), (1, .int x1), (2, .ref qo)] := hl
  refine lv_aload_n hx hb tn_dh_top_0 rfl (lv_at hl 2 rfl) ?_
  refine lv_iconst (v := 0) hx hb tn_dh_top_1 (by decide) ?_
  refine lv_aload_n hx hb tn_dh_top_2 rfl (lv_at hl 0 rfl) ?_
  refine lv_iload_n hx hb tn_dh_top_3 rfl (lv_at hl 1 rfl) ?_
  refine tn_cv (μ := 46) (M := tn_m46) rfl (xs := [.int x1]) (rest := [.int 0, .ref qo]) (nL := 4) (tn_sX hl9 hAW) (Nat.le_of_ble_eq_true rfl) (tn_intS tn_int0) hx hb hml hl.1 hown hts hns hE (tn_t3_ty hK) hP hD hS hA tn_X0 rfl tn_wh17 tn_wh18 tn_wh19 (by decide +kernel : (parseMethodDescriptor tn_m46.1.desc).map (fun d => d.parameters.length) = some 1) (Nat.le_of_ble_eq_true rfl) (Nat.le_of_ble_eq_true rfl) (Nat.le_of_ble_eq_true rfl) (Nat.le_of_ble_eq_true rfl) (Nat.le_of_ble_eq_true rfl) tn_dh_top_4 (fun E ce q9 h1 H1 locs1 hq hP1 hD1 hS1 hce hcv hcl => ?_) (fun r h1 H1 locs1 hq hP1 hD1 hS1 => ?_)
  · have hk := hQ h1 (.inr E) hq
    have hpos : 0 < tn_nA E := by
      rcases hk with ⟨v, hv⟩ | ⟨E9, he, hp⟩
      · cases hv
      · cases he
        exact hp
    refine vx_widen (k := 1) (n := 6) (Nat.le_of_ble_eq_true rfl) (Nat.le_of_ble_eq_true rfl) ?_
    by_cases he0 : E = tn_IAE
    · subst he0
      refine vx_catch (own := "TermNetLaw") (name := tn_IAE) hown [] ({ startPc := 0, endPc := 9, handlerPc := 12, catchType := 13 }) [] htab (fun z hz => by cases hz) (by decide) (by decide) (hts _ tn_wh3) (va_Nw.use rfl (hE.1 _ (List.mem_of_getElem? (i := 3) rfl))) hce hcv hcl ?_
      refine lv_astore_n (i := 3) hx hb tn_dh_top_12 rfl hl (by decide) rfl (fun ls hl => ?_)
      refine lv_iconst (v := 1) hx hb tn_dh_top_13 (by decide) ?_
      exact vx_ret (W.iret hx hb hr (fun t ht hW => ⟨⟨h1, .inr tn_IAE, 1, f, rfl, hq, Or.inr ⟨_, rfl, by decide⟩, by rw [ht]; exact hP1, hD1⟩, hS1.F ht⟩) hS1.2.2 tn_dh_top_14)
    · exfalso
      have h9 : tn_nA E = 0 := by unfold tn_nA; simp only [if_neg (show ¬ E = "java/lang/IllegalArgumentException" from he0)]
      omega
  · obtain ⟨v, rfl⟩ : ∃ v, r = some (.int v) := by
      rcases hQ h1 (.inl r) hq with ⟨v, hv⟩ | ⟨E9, he, hp⟩
      · cases hv
        exact ⟨v, rfl⟩
      · cases he
    refine W.widen (k := 1) (n := 6) (Nat.le_of_ble_eq_true rfl) (Nat.le_of_ble_eq_true rfl) ?_
    refine W.eq (g2 := F0 m 7 ls [.int v, .int 0, .ref qo]) rfl ?_
    refine lv_i2l (v := v.toInt64) hx hb tn_dh_top_7 rfl ?_
    refine va_last (D := D) (cl := tn_cl) (tys := tn_t3 ca cL) (ws := tn_WH ad ca cL qo f h1) hx hb hK hP1 hD1 hS1 0 2 rfl rfl (by unfold vp_in; decide) tn_dh_top_8 (fun H2 locs2 hP2 hD2 hS2 => ?_)
    have hP2 : va_P D tn_cl (tn_WH ad ca cL qo (vp_updL f 0 (v.toInt64)) h1) H2 := hP2
    have hD2 : va_D A (tn_WH ad ca cL qo (vp_updL f 0 (v.toInt64)) h1) := hD2
    refine lv_goto (tgt := 15) hx hb tn_dh_top_9 (by decide) ?_
    refine lv_iconst (v := 0) hx hb tn_dh_top_15 (by decide) ?_
    exact vx_ret (W.iret hx hb hr (fun t ht hW => ⟨⟨h1, .inl (some (.int v)), 0, _, rfl, hq, Or.inl ⟨v, rfl, rfl, by simp [vp_updL]⟩, by rw [ht]; exact hP2, hD2⟩, hS2.F ht⟩) hS2.2.2 tn_dh_top_16)
def tn_yh_part : MethodName := ⟨"TermNetLaw", "part", "(LTermNet;II[J)I"⟩
theorem tn_dh_part_0 : decode method_9_code 0 = .ok (.aload_n 3, 1) := by decide +kernel
theorem tn_dh_part_1 : decode method_9_code 1 = .ok (.iconst 0, 1) := by decide +kernel
theorem tn_dh_part_2 : decode method_9_code 2 = .ok (.aload_n 0, 1) := by decide +kernel
theorem tn_dh_part_3 : decode method_9_code 3 = .ok (.iload_n 1, 1) := by decide +kernel
theorem tn_dh_part_4 : decode method_9_code 4 = .ok (.iload_n 2, 1) := by decide +kernel
theorem tn_dh_part_5 : decode method_9_code 5 = .ok (.invokevirtual 35, 3) := by decide +kernel
theorem tn_dh_part_8 : decode method_9_code 8 = .ok (.i2l, 1) := by decide +kernel
theorem tn_dh_part_9 : decode method_9_code 9 = .ok (.lastore, 1) := by decide +kernel
theorem tn_dh_part_10 : decode method_9_code 10 = .ok (.goto 11, 3) := by decide +kernel
theorem tn_dh_part_13 : decode method_9_code 13 = .ok (.astore 4, 2) := by decide +kernel
theorem tn_dh_part_15 : decode method_9_code 15 = .ok (.iconst 1, 1) := by decide +kernel
theorem tn_dh_part_16 : decode method_9_code 16 = .ok (.ireturn, 1) := by decide +kernel
theorem tn_dh_part_17 : decode method_9_code 17 = .ok (.astore 4, 2) := by decide +kernel
theorem tn_dh_part_19 : decode method_9_code 19 = .ok (.iconst 2, 1) := by decide +kernel
theorem tn_dh_part_20 : decode method_9_code 20 = .ok (.ireturn, 1) := by decide +kernel
theorem tn_dh_part_21 : decode method_9_code 21 = .ok (.iconst 0, 1) := by decide +kernel
theorem tn_dh_part_22 : decode method_9_code 22 = .ok (.ireturn, 1) := by decide +kernel
set_option maxHeartbeats 4000000 in
set_option maxRecDepth 100000 in
theorem tn_h_part {l : Launch} (hl9 : l.stackTraces = false) {D : va_G} {ad : Nat → Nat} {ca : Nat → ClassId} {cL : ClassId} {qo : Nat} {f : Nat → Int64} {h : am_S} {Q : am_Q} (x1 : Int32) (x2 : Int32) (hAW : am_AW tn_G tn_X (47, 0, 0, [some (.ref 0), some (.int x1), some (.int x2)], [], h) Q) (hQ : ∀ h1 o, Q h1 o → tn_hkn tn_nP o) (sz : Nat) :
    vx_Met l tn_yh_part (Cond.codeWith tn_yh_part method_9_code 5 (some .int) [(0, 10, 13, 13), (0, 10, 17, 39)] :: tn_TS) ({ frames := 8, cells := 2, slots := 12, locals := 133 }) (tn_hP D ad ca cL qo f h sz [.ref (ad 0), .int x1, .int x2, .ref qo]) (tn_hQ tn_nP false Q D ad ca cL qo (va_A (tn_WH ad ca cL qo f h) sz)) (fun _ _ _ => False) 2 12 (va_A (tn_WH ad ca cL qo f h) sz) := by
  refine vx_ofWH (cc := method_9_code) (maxL := 5) (ret := some .int) (hh := [(0, 10, 13, 13), (0, 10, 17, 39)]) (by decide) rfl ?_
  intro p e s m args below meth c s₁ B hml hv
  obtain ⟨rfl, hsz, hP, hK, hD0, hns, hE⟩ := hv
  have hx := B.exec
  have hb := B.bytes
  have hr := B.returns
  have hat := atoms_spec (ws := Cond.codeWith tn_yh_part method_9_code 5 (some .int) [(0, 10, 13, 13), (0, 10, 17, 39)] :: tn_TS) B.pre
  have htab := vx_table (x := tn_yh_part) B (hat _ List.mem_cons_self)
  have hts : ∀ w ∈ tn_TS, w.before _ s = true := fun w hw => hat w (List.mem_cons_of_mem _ hw)
  have hown : s.vm.findClass "TermNetLaw" = some m.cls := findClass_of_methodNamed B.named
  have hlocks := B.notSynchronized
  subst hsz
  have hD := hD0.self (sz := s.heap.size)
  generalize hAe : va_A (tn_WH ad ca cL qo f h) s.heap.size = A at hD hE ⊢
  have hA : ∀ q : Nat, s.heap.size ≤ q → A q := fun q h => by rw [← hAe]; exact Or.inr h
  have hS : va_S A s.heap s.heap [] := va_S.rf
  have hl := lv_entry ([.ref (ad 0), .int x1, .int x2, .ref qo]) (n := 5) (Nat.le_of_ble_eq_true rfl)
  rw [lg_entry_eq]
  generalize (lg_sl ([.ref (ad 0), .int x1, .int x2, .ref qo]) ++ List.replicate (5 - (lg_sl ([.ref (ad 0), .int x1, .int x2, .ref qo])).length) Slot.unset).toArray = ls at hl ⊢
  have hl : lv_has ls 5 [(0, .ref (ad 0)), (1, .int x1), (2, .int x2), (3, .ref qo)] := hl
  refine lv_aload_n hx hb tn_dh_part_0 rfl (lv_at hl 3 rfl) ?_
  refine lv_iconst (v := 0) hx hb tn_dh_part_1 (by decide) ?_
  refine lv_aload_n hx hb tn_dh_part_2 rfl (lv_at hl 0 rfl) ?_
  refine lv_iload_n hx hb tn_dh_part_3 rfl (lv_at hl 1 rfl) ?_
  refine lv_iload_n hx hb tn_dh_part_4 rfl (lv_at hl 2 rfl) ?_
  refine tn_cv (μ := 47) (M := tn_m47) rfl (xs := [.int x1, .int x2]) (rest := [.int 0, .ref qo]) (nL := 5) (tn_sX hl9 hAW) (Nat.le_of_ble_eq_true rfl) (tn_intS (tn_intS tn_int0)) hx hb hml hl.1 hown hts hns hE (tn_t3_ty hK) hP hD hS hA tn_X0 rfl tn_wh20 tn_wh21 tn_wh22 (by decide +kernel : (parseMethodDescriptor tn_m47.1.desc).map (fun d => d.parameters.length) = some 2) (Nat.le_of_ble_eq_true rfl) (Nat.le_of_ble_eq_true rfl) (Nat.le_of_ble_eq_true rfl) (Nat.le_of_ble_eq_true rfl) (Nat.le_of_ble_eq_true rfl) tn_dh_part_5 (fun E ce q9 h1 H1 locs1 hq hP1 hD1 hS1 hce hcv hcl => ?_) (fun r h1 H1 locs1 hq hP1 hD1 hS1 => ?_)
  · have hk := hQ h1 (.inr E) hq
    have hpos : 0 < tn_nP E := by
      rcases hk with ⟨v, hv⟩ | ⟨E9, he, hp⟩
      · cases hv
      · cases he
        exact hp
    refine vx_widen (k := 2) (n := 12) (Nat.le_of_ble_eq_true rfl) (Nat.le_of_ble_eq_true rfl) ?_
    by_cases he0 : E = tn_IAE
    · subst he0
      refine vx_catch (own := "TermNetLaw") (name := tn_IAE) hown [] ({ startPc := 0, endPc := 10, handlerPc := 13, catchType := 13 }) [{ startPc := 0, endPc := 10, handlerPc := 17, catchType := 39 }] htab (fun z hz => by cases hz) (by decide) (by decide) (hts _ tn_wh3) (va_Nw.use rfl (hE.1 _ (List.mem_of_getElem? (i := 3) rfl))) hce hcv hcl ?_
      refine lv_astore (i := 4) hx hb tn_dh_part_13 hl (by decide) rfl (fun ls hl => ?_)
      refine lv_iconst (v := 1) hx hb tn_dh_part_15 (by decide) ?_
      exact vx_ret (W.iret hx hb hr (fun t ht hW => ⟨⟨h1, .inr tn_IAE, 1, f, rfl, hq, Or.inr ⟨_, rfl, by decide⟩, by rw [ht]; exact hP1, hD1⟩, hS1.F ht⟩) hS1.2.2 tn_dh_part_16)
    · skip
      by_cases he1 : E = tn_NSE
      · subst he1
        refine vx_catch (own := "TermNetLaw") (name := tn_NSE) hown [{ startPc := 0, endPc := 10, handlerPc := 13, catchType := 13 }] ({ startPc := 0, endPc := 10, handlerPc := 17, catchType := 39 }) [] htab (fun z hz => by
            obtain rfl : z = _ := List.mem_singleton.mp hz
            exact Or.inr ⟨by decide, tn_IAE, hts _ tn_wh3, hE.2.2.2.2.2⟩) (by decide) (by decide) (hts _ tn_wh23) (va_Nw.use rfl (hE.1 _ (List.mem_of_getElem? (i := 5) rfl))) hce hcv hcl ?_
        refine lv_astore (i := 4) hx hb tn_dh_part_17 hl (by decide) rfl (fun ls hl => ?_)
        refine lv_iconst (v := 2) hx hb tn_dh_part_19 (by decide) ?_
        exact vx_ret (W.iret hx hb hr (fun t ht hW => ⟨⟨h1, .inr tn_NSE, 2, f, rfl, hq, Or.inr ⟨_, rfl, by decide⟩, by rw [ht]; exact hP1, hD1⟩, hS1.F ht⟩) hS1.2.2 tn_dh_part_20)
      · exfalso
        have h9 : tn_nP E = 0 := by unfold tn_nP; simp only [if_neg (show ¬ E = "java/lang/IllegalArgumentException" from he0), if_neg (show ¬ E = "java/util/NoSuchElementException" from he1)]
        omega
  · obtain ⟨v, rfl⟩ : ∃ v, r = some (.int v) := by
      rcases hQ h1 (.inl r) hq with ⟨v, hv⟩ | ⟨E9, he, hp⟩
      · cases hv
        exact ⟨v, rfl⟩
      · cases he
    refine W.widen (k := 2) (n := 12) (Nat.le_of_ble_eq_true rfl) (Nat.le_of_ble_eq_true rfl) ?_
    refine W.eq (g2 := F0 m 8 ls [.int v, .int 0, .ref qo]) rfl ?_
    refine lv_i2l (v := v.toInt64) hx hb tn_dh_part_8 rfl ?_
    refine va_last (D := D) (cl := tn_cl) (tys := tn_t3 ca cL) (ws := tn_WH ad ca cL qo f h1) hx hb hK hP1 hD1 hS1 0 2 rfl rfl (by unfold vp_in; decide) tn_dh_part_9 (fun H2 locs2 hP2 hD2 hS2 => ?_)
    have hP2 : va_P D tn_cl (tn_WH ad ca cL qo (vp_updL f 0 (v.toInt64)) h1) H2 := hP2
    have hD2 : va_D A (tn_WH ad ca cL qo (vp_updL f 0 (v.toInt64)) h1) := hD2
    refine lv_goto (tgt := 21) hx hb tn_dh_part_10 (by decide) ?_
    refine lv_iconst (v := 0) hx hb tn_dh_part_21 (by decide) ?_
    exact vx_ret (W.iret hx hb hr (fun t ht hW => ⟨⟨h1, .inl (some (.int v)), 0, _, rfl, hq, Or.inl ⟨v, rfl, rfl, by simp [vp_updL]⟩, by rw [ht]; exact hP2, hD2⟩, hS2.F ht⟩) hS2.2.2 tn_dh_part_22)
def tn_yh_least : MethodName := ⟨"TermNetLaw", "least", "(LTermNet;I[J)I"⟩
theorem tn_dh_least_0 : decode method_10_code 0 = .ok (.aload_n 2, 1) := by decide +kernel
theorem tn_dh_least_1 : decode method_10_code 1 = .ok (.iconst 0, 1) := by decide +kernel
theorem tn_dh_least_2 : decode method_10_code 2 = .ok (.aload_n 0, 1) := by decide +kernel
theorem tn_dh_least_3 : decode method_10_code 3 = .ok (.iload_n 1, 1) := by decide +kernel
theorem tn_dh_least_4 : decode method_10_code 4 = .ok (.invokevirtual 41, 3) := by decide +kernel
theorem tn_dh_least_7 : decode method_10_code 7 = .ok (.i2l, 1) := by decide +kernel
theorem tn_dh_least_8 : decode method_10_code 8 = .ok (.lastore, 1) := by decide +kernel
theorem tn_dh_least_9 : decode method_10_code 9 = .ok (.goto 6, 3) := by decide +kernel
theorem tn_dh_least_12 : decode method_10_code 12 = .ok (.astore_n 3, 1) := by decide +kernel
theorem tn_dh_least_13 : decode method_10_code 13 = .ok (.iconst 1, 1) := by decide +kernel
theorem tn_dh_least_14 : decode method_10_code 14 = .ok (.ireturn, 1) := by decide +kernel
theorem tn_dh_least_15 : decode method_10_code 15 = .ok (.iconst 0, 1) := by decide +kernel
theorem tn_dh_least_16 : decode method_10_code 16 = .ok (.ireturn, 1) := by decide +kernel
set_option maxHeartbeats 4000000 in
set_option maxRecDepth 100000 in
theorem tn_h_least {l : Launch} (hl9 : l.stackTraces = false) {D : va_G} {ad : Nat → Nat} {ca : Nat → ClassId} {cL : ClassId} {qo : Nat} {f : Nat → Int64} {h : am_S} {Q : am_Q} (x1 : Int32) (hAW : am_AW tn_G tn_X (48, 0, 0, [some (.ref 0), some (.int x1)], [], h) Q) (hQ : ∀ h1 o, Q h1 o → tn_hkn tn_nA o) (sz : Nat) :
    vx_Met l tn_yh_least (Cond.codeWith tn_yh_least method_10_code 4 (some .int) [(0, 9, 12, 13)] :: tn_TS) ({ frames := 8, cells := 1, slots := 6, locals := 132 }) (tn_hP D ad ca cL qo f h sz [.ref (ad 0), .int x1, .ref qo]) (tn_hQ tn_nA false Q D ad ca cL qo (va_A (tn_WH ad ca cL qo f h) sz)) (fun _ _ _ => False) 1 6 (va_A (tn_WH ad ca cL qo f h) sz) := by
  refine vx_ofWH (cc := method_10_code) (maxL := 4) (ret := some .int) (hh := [(0, 9, 12, 13)]) (by decide) rfl ?_
  intro p e s m args below meth c s₁ B hml hv
  obtain ⟨rfl, hsz, hP, hK, hD0, hns, hE⟩ := hv
  have hx := B.exec
  have hb := B.bytes
  have hr := B.returns
  have hat := atoms_spec (ws := Cond.codeWith tn_yh_least method_10_code 4 (some .int) [(0, 9, 12, 13)] :: tn_TS) B.pre
  have htab := vx_table (x := tn_yh_least) B (hat _ List.mem_cons_self)
  have hts : ∀ w ∈ tn_TS, w.before _ s = true := fun w hw => hat w (List.mem_cons_of_mem _ hw)
  have hown : s.vm.findClass "TermNetLaw" = some m.cls := findClass_of_methodNamed B.named
  have hlocks := B.notSynchronized
  subst hsz
  have hD := hD0.self (sz := s.heap.size)
  generalize hAe : va_A (tn_WH ad ca cL qo f h) s.heap.size = A at hD hE ⊢
  have hA : ∀ q : Nat, s.heap.size ≤ q → A q := fun q h => by rw [← hAe]; exact Or.inr h
  have hS : va_S A s.heap s.heap [] := va_S.rf
  have hl := lv_entry ([.ref (ad 0), .int x1, .ref qo]) (n := 4) (Nat.le_of_ble_eq_true rfl)
  rw [lg_entry_eq]
  generalize (lg_sl ([.ref (ad 0), .int x1, .ref qo]) ++ List.replicate (4 - (lg_sl ([.ref (ad 0), .int x1, .ref qo])).length) Slot.unset).toArray = ls at hl ⊢
  have hl : lv_has ls 4 [(0, .ref (ad 0)), (1, .int x1), (2, .ref qo)] := hl
  refine lv_aload_n hx hb tn_dh_least_0 rfl (lv_at hl 2 rfl) ?_
  refine lv_iconst (v := 0) hx hb tn_dh_least_1 (by decide) ?_
  refine lv_aload_n hx hb tn_dh_least_2 rfl (lv_at hl 0 rfl) ?_
  refine lv_iload_n hx hb tn_dh_least_3 rfl (lv_at hl 1 rfl) ?_
  refine tn_cv (μ := 48) (M := tn_m48) rfl (xs := [.int x1]) (rest := [.int 0, .ref qo]) (nL := 4) (tn_sX hl9 hAW) (Nat.le_of_ble_eq_true rfl) (tn_intS tn_int0) hx hb hml hl.1 hown hts hns hE (tn_t3_ty hK) hP hD hS hA tn_X0 rfl tn_wh24 tn_wh25 tn_wh26 (by decide +kernel : (parseMethodDescriptor tn_m48.1.desc).map (fun d => d.parameters.length) = some 1) (Nat.le_of_ble_eq_true rfl) (Nat.le_of_ble_eq_true rfl) (Nat.le_of_ble_eq_true rfl) (Nat.le_of_ble_eq_true rfl) (Nat.le_of_ble_eq_true rfl) tn_dh_least_4 (fun E ce q9 h1 H1 locs1 hq hP1 hD1 hS1 hce hcv hcl => ?_) (fun r h1 H1 locs1 hq hP1 hD1 hS1 => ?_)
  · have hk := hQ h1 (.inr E) hq
    have hpos : 0 < tn_nA E := by
      rcases hk with ⟨v, hv⟩ | ⟨E9, he, hp⟩
      · cases hv
      · cases he
        exact hp
    refine vx_widen (k := 1) (n := 6) (Nat.le_of_ble_eq_true rfl) (Nat.le_of_ble_eq_true rfl) ?_
    by_cases he0 : E = tn_IAE
    · subst he0
      refine vx_catch (own := "TermNetLaw") (name := tn_IAE) hown [] ({ startPc := 0, endPc := 9, handlerPc := 12, catchType := 13 }) [] htab (fun z hz => by cases hz) (by decide) (by decide) (hts _ tn_wh3) (va_Nw.use rfl (hE.1 _ (List.mem_of_getElem? (i := 3) rfl))) hce hcv hcl ?_
      refine lv_astore_n (i := 3) hx hb tn_dh_least_12 rfl hl (by decide) rfl (fun ls hl => ?_)
      refine lv_iconst (v := 1) hx hb tn_dh_least_13 (by decide) ?_
      exact vx_ret (W.iret hx hb hr (fun t ht hW => ⟨⟨h1, .inr tn_IAE, 1, f, rfl, hq, Or.inr ⟨_, rfl, by decide⟩, by rw [ht]; exact hP1, hD1⟩, hS1.F ht⟩) hS1.2.2 tn_dh_least_14)
    · exfalso
      have h9 : tn_nA E = 0 := by unfold tn_nA; simp only [if_neg (show ¬ E = "java/lang/IllegalArgumentException" from he0)]
      omega
  · obtain ⟨v, rfl⟩ : ∃ v, r = some (.int v) := by
      rcases hQ h1 (.inl r) hq with ⟨v, hv⟩ | ⟨E9, he, hp⟩
      · cases hv
        exact ⟨v, rfl⟩
      · cases he
    refine W.widen (k := 1) (n := 6) (Nat.le_of_ble_eq_true rfl) (Nat.le_of_ble_eq_true rfl) ?_
    refine W.eq (g2 := F0 m 7 ls [.int v, .int 0, .ref qo]) rfl ?_
    refine lv_i2l (v := v.toInt64) hx hb tn_dh_least_7 rfl ?_
    refine va_last (D := D) (cl := tn_cl) (tys := tn_t3 ca cL) (ws := tn_WH ad ca cL qo f h1) hx hb hK hP1 hD1 hS1 0 2 rfl rfl (by unfold vp_in; decide) tn_dh_least_8 (fun H2 locs2 hP2 hD2 hS2 => ?_)
    have hP2 : va_P D tn_cl (tn_WH ad ca cL qo (vp_updL f 0 (v.toInt64)) h1) H2 := hP2
    have hD2 : va_D A (tn_WH ad ca cL qo (vp_updL f 0 (v.toInt64)) h1) := hD2
    refine lv_goto (tgt := 15) hx hb tn_dh_least_9 (by decide) ?_
    refine lv_iconst (v := 0) hx hb tn_dh_least_15 (by decide) ?_
    exact vx_ret (W.iret hx hb hr (fun t ht hW => ⟨⟨h1, .inl (some (.int v)), 0, _, rfl, hq, Or.inl ⟨v, rfl, rfl, by simp [vp_updL]⟩, by rw [ht]; exact hP2, hD2⟩, hS2.F ht⟩) hS2.2.2 tn_dh_least_16)
def tn_yh_size : MethodName := ⟨"TermNetLaw", "size", "(LTermNet;I[J)I"⟩
theorem tn_dh_size_0 : decode method_11_code 0 = .ok (.aload_n 2, 1) := by decide +kernel
theorem tn_dh_size_1 : decode method_11_code 1 = .ok (.iconst 0, 1) := by decide +kernel
theorem tn_dh_size_2 : decode method_11_code 2 = .ok (.aload_n 0, 1) := by decide +kernel
theorem tn_dh_size_3 : decode method_11_code 3 = .ok (.iload_n 1, 1) := by decide +kernel
theorem tn_dh_size_4 : decode method_11_code 4 = .ok (.invokevirtual 44, 3) := by decide +kernel
theorem tn_dh_size_7 : decode method_11_code 7 = .ok (.i2l, 1) := by decide +kernel
theorem tn_dh_size_8 : decode method_11_code 8 = .ok (.lastore, 1) := by decide +kernel
theorem tn_dh_size_9 : decode method_11_code 9 = .ok (.goto 6, 3) := by decide +kernel
theorem tn_dh_size_12 : decode method_11_code 12 = .ok (.astore_n 3, 1) := by decide +kernel
theorem tn_dh_size_13 : decode method_11_code 13 = .ok (.iconst 1, 1) := by decide +kernel
theorem tn_dh_size_14 : decode method_11_code 14 = .ok (.ireturn, 1) := by decide +kernel
theorem tn_dh_size_15 : decode method_11_code 15 = .ok (.iconst 0, 1) := by decide +kernel
theorem tn_dh_size_16 : decode method_11_code 16 = .ok (.ireturn, 1) := by decide +kernel
set_option maxHeartbeats 4000000 in
set_option maxRecDepth 100000 in
theorem tn_h_size {l : Launch} (hl9 : l.stackTraces = false) {D : va_G} {ad : Nat → Nat} {ca : Nat → ClassId} {cL : ClassId} {qo : Nat} {f : Nat → Int64} {h : am_S} {Q : am_Q} (x1 : Int32) (hAW : am_AW tn_G tn_X (49, 0, 0, [some (.ref 0), some (.int x1)], [], h) Q) (hQ : ∀ h1 o, Q h1 o → tn_hkn tn_nA o) (sz : Nat) :
    vx_Met l tn_yh_size (Cond.codeWith tn_yh_size method_11_code 4 (some .int) [(0, 9, 12, 13)] :: tn_TS) ({ frames := 8, cells := 1, slots := 6, locals := 152 }) (tn_hP D ad ca cL qo f h sz [.ref (ad 0), .int x1, .ref qo]) (tn_hQ tn_nA false Q D ad ca cL qo (va_A (tn_WH ad ca cL qo f h) sz)) (fun _ _ _ => False) 1 6 (va_A (tn_WH ad ca cL qo f h) sz) := by
  refine vx_ofWH (cc := method_11_code) (maxL := 4) (ret := some .int) (hh := [(0, 9, 12, 13)]) (by decide) rfl ?_
  intro p e s m args below meth c s₁ B hml hv
  obtain ⟨rfl, hsz, hP, hK, hD0, hns, hE⟩ := hv
  have hx := B.exec
  have hb := B.bytes
  have hr := B.returns
  have hat := atoms_spec (ws := Cond.codeWith tn_yh_size method_11_code 4 (some .int) [(0, 9, 12, 13)] :: tn_TS) B.pre
  have htab := vx_table (x := tn_yh_size) B (hat _ List.mem_cons_self)
  have hts : ∀ w ∈ tn_TS, w.before _ s = true := fun w hw => hat w (List.mem_cons_of_mem _ hw)
  have hown : s.vm.findClass "TermNetLaw" = some m.cls := findClass_of_methodNamed B.named
  have hlocks := B.notSynchronized
  subst hsz
  have hD := hD0.self (sz := s.heap.size)
  generalize hAe : va_A (tn_WH ad ca cL qo f h) s.heap.size = A at hD hE ⊢
  have hA : ∀ q : Nat, s.heap.size ≤ q → A q := fun q h => by rw [← hAe]; exact Or.inr h
  have hS : va_S A s.heap s.heap [] := va_S.rf
  have hl := lv_entry ([.ref (ad 0), .int x1, .ref qo]) (n := 4) (Nat.le_of_ble_eq_true rfl)
  rw [lg_entry_eq]
  generalize (lg_sl ([.ref (ad 0), .int x1, .ref qo]) ++ List.replicate (4 - (lg_sl ([.ref (ad 0), .int x1, .ref qo])).length) Slot.unset).toArray = ls at hl ⊢
  have hl : lv_has ls 4 [(0, .ref (ad 0)), (1, .int x1), (2, .ref qo)] := hl
  refine lv_aload_n hx hb tn_dh_size_0 rfl (lv_at hl 2 rfl) ?_
  refine lv_iconst (v := 0) hx hb tn_dh_size_1 (by decide) ?_
  refine lv_aload_n hx hb tn_dh_size_2 rfl (lv_at hl 0 rfl) ?_
  refine lv_iload_n hx hb tn_dh_size_3 rfl (lv_at hl 1 rfl) ?_
  refine tn_cv (μ := 49) (M := tn_m49) rfl (xs := [.int x1]) (rest := [.int 0, .ref qo]) (nL := 4) (tn_sX hl9 hAW) (Nat.le_of_ble_eq_true rfl) (tn_intS tn_int0) hx hb hml hl.1 hown hts hns hE (tn_t3_ty hK) hP hD hS hA tn_X0 rfl tn_wh27 tn_wh28 tn_wh29 (by decide +kernel : (parseMethodDescriptor tn_m49.1.desc).map (fun d => d.parameters.length) = some 1) (Nat.le_of_ble_eq_true rfl) (Nat.le_of_ble_eq_true rfl) (Nat.le_of_ble_eq_true rfl) (Nat.le_of_ble_eq_true rfl) (Nat.le_of_ble_eq_true rfl) tn_dh_size_4 (fun E ce q9 h1 H1 locs1 hq hP1 hD1 hS1 hce hcv hcl => ?_) (fun r h1 H1 locs1 hq hP1 hD1 hS1 => ?_)
  · have hk := hQ h1 (.inr E) hq
    have hpos : 0 < tn_nA E := by
      rcases hk with ⟨v, hv⟩ | ⟨E9, he, hp⟩
      · cases hv
      · cases he
        exact hp
    refine vx_widen (k := 1) (n := 6) (Nat.le_of_ble_eq_true rfl) (Nat.le_of_ble_eq_true rfl) ?_
    by_cases he0 : E = tn_IAE
    · subst he0
      refine vx_catch (own := "TermNetLaw") (name := tn_IAE) hown [] ({ startPc := 0, endPc := 9, handlerPc := 12, catchType := 13 }) [] htab (fun z hz => by cases hz) (by decide) (by decide) (hts _ tn_wh3) (va_Nw.use rfl (hE.1 _ (List.mem_of_getElem? (i := 3) rfl))) hce hcv hcl ?_
      refine lv_astore_n (i := 3) hx hb tn_dh_size_12 rfl hl (by decide) rfl (fun ls hl => ?_)
      refine lv_iconst (v := 1) hx hb tn_dh_size_13 (by decide) ?_
      exact vx_ret (W.iret hx hb hr (fun t ht hW => ⟨⟨h1, .inr tn_IAE, 1, f, rfl, hq, Or.inr ⟨_, rfl, by decide⟩, by rw [ht]; exact hP1, hD1⟩, hS1.F ht⟩) hS1.2.2 tn_dh_size_14)
    · exfalso
      have h9 : tn_nA E = 0 := by unfold tn_nA; simp only [if_neg (show ¬ E = "java/lang/IllegalArgumentException" from he0)]
      omega
  · obtain ⟨v, rfl⟩ : ∃ v, r = some (.int v) := by
      rcases hQ h1 (.inl r) hq with ⟨v, hv⟩ | ⟨E9, he, hp⟩
      · cases hv
        exact ⟨v, rfl⟩
      · cases he
    refine W.widen (k := 1) (n := 6) (Nat.le_of_ble_eq_true rfl) (Nat.le_of_ble_eq_true rfl) ?_
    refine W.eq (g2 := F0 m 7 ls [.int v, .int 0, .ref qo]) rfl ?_
    refine lv_i2l (v := v.toInt64) hx hb tn_dh_size_7 rfl ?_
    refine va_last (D := D) (cl := tn_cl) (tys := tn_t3 ca cL) (ws := tn_WH ad ca cL qo f h1) hx hb hK hP1 hD1 hS1 0 2 rfl rfl (by unfold vp_in; decide) tn_dh_size_8 (fun H2 locs2 hP2 hD2 hS2 => ?_)
    have hP2 : va_P D tn_cl (tn_WH ad ca cL qo (vp_updL f 0 (v.toInt64)) h1) H2 := hP2
    have hD2 : va_D A (tn_WH ad ca cL qo (vp_updL f 0 (v.toInt64)) h1) := hD2
    refine lv_goto (tgt := 15) hx hb tn_dh_size_9 (by decide) ?_
    refine lv_iconst (v := 0) hx hb tn_dh_size_15 (by decide) ?_
    exact vx_ret (W.iret hx hb hr (fun t ht hW => ⟨⟨h1, .inl (some (.int v)), 0, _, rfl, hq, Or.inl ⟨v, rfl, rfl, by simp [vp_updL]⟩, by rw [ht]; exact hP2, hD2⟩, hS2.F ht⟩) hS2.2.2 tn_dh_size_16)
def tn_yh_depth : MethodName := ⟨"TermNetLaw", "depth", "(LTermNet;I[J)I"⟩
theorem tn_dh_depth_0 : decode method_12_code 0 = .ok (.aload_n 2, 1) := by decide +kernel
theorem tn_dh_depth_1 : decode method_12_code 1 = .ok (.iconst 0, 1) := by decide +kernel
theorem tn_dh_depth_2 : decode method_12_code 2 = .ok (.aload_n 0, 1) := by decide +kernel
theorem tn_dh_depth_3 : decode method_12_code 3 = .ok (.iload_n 1, 1) := by decide +kernel
theorem tn_dh_depth_4 : decode method_12_code 4 = .ok (.invokevirtual 47, 3) := by decide +kernel
theorem tn_dh_depth_7 : decode method_12_code 7 = .ok (.i2l, 1) := by decide +kernel
theorem tn_dh_depth_8 : decode method_12_code 8 = .ok (.lastore, 1) := by decide +kernel
theorem tn_dh_depth_9 : decode method_12_code 9 = .ok (.goto 6, 3) := by decide +kernel
theorem tn_dh_depth_12 : decode method_12_code 12 = .ok (.astore_n 3, 1) := by decide +kernel
theorem tn_dh_depth_13 : decode method_12_code 13 = .ok (.iconst 1, 1) := by decide +kernel
theorem tn_dh_depth_14 : decode method_12_code 14 = .ok (.ireturn, 1) := by decide +kernel
theorem tn_dh_depth_15 : decode method_12_code 15 = .ok (.iconst 0, 1) := by decide +kernel
theorem tn_dh_depth_16 : decode method_12_code 16 = .ok (.ireturn, 1) := by decide +kernel
set_option maxHeartbeats 4000000 in
set_option maxRecDepth 100000 in
theorem tn_h_depth {l : Launch} (hl9 : l.stackTraces = false) {D : va_G} {ad : Nat → Nat} {ca : Nat → ClassId} {cL : ClassId} {qo : Nat} {f : Nat → Int64} {h : am_S} {Q : am_Q} (x1 : Int32) (hAW : am_AW tn_G tn_X (50, 0, 0, [some (.ref 0), some (.int x1)], [], h) Q) (hQ : ∀ h1 o, Q h1 o → tn_hkn tn_nA o) (sz : Nat) :
    vx_Met l tn_yh_depth (Cond.codeWith tn_yh_depth method_12_code 4 (some .int) [(0, 9, 12, 13)] :: tn_TS) ({ frames := 8, cells := 1, slots := 6, locals := 152 }) (tn_hP D ad ca cL qo f h sz [.ref (ad 0), .int x1, .ref qo]) (tn_hQ tn_nA false Q D ad ca cL qo (va_A (tn_WH ad ca cL qo f h) sz)) (fun _ _ _ => False) 1 6 (va_A (tn_WH ad ca cL qo f h) sz) := by
  refine vx_ofWH (cc := method_12_code) (maxL := 4) (ret := some .int) (hh := [(0, 9, 12, 13)]) (by decide) rfl ?_
  intro p e s m args below meth c s₁ B hml hv
  obtain ⟨rfl, hsz, hP, hK, hD0, hns, hE⟩ := hv
  have hx := B.exec
  have hb := B.bytes
  have hr := B.returns
  have hat := atoms_spec (ws := Cond.codeWith tn_yh_depth method_12_code 4 (some .int) [(0, 9, 12, 13)] :: tn_TS) B.pre
  have htab := vx_table (x := tn_yh_depth) B (hat _ List.mem_cons_self)
  have hts : ∀ w ∈ tn_TS, w.before _ s = true := fun w hw => hat w (List.mem_cons_of_mem _ hw)
  have hown : s.vm.findClass "TermNetLaw" = some m.cls := findClass_of_methodNamed B.named
  have hlocks := B.notSynchronized
  subst hsz
  have hD := hD0.self (sz := s.heap.size)
  generalize hAe : va_A (tn_WH ad ca cL qo f h) s.heap.size = A at hD hE ⊢
  have hA : ∀ q : Nat, s.heap.size ≤ q → A q := fun q h => by rw [← hAe]; exact Or.inr h
  have hS : va_S A s.heap s.heap [] := va_S.rf
  have hl := lv_entry ([.ref (ad 0), .int x1, .ref qo]) (n := 4) (Nat.le_of_ble_eq_true rfl)
  rw [lg_entry_eq]
  generalize (lg_sl ([.ref (ad 0), .int x1, .ref qo]) ++ List.replicate (4 - (lg_sl ([.ref (ad 0), .int x1, .ref qo])).length) Slot.unset).toArray = ls at hl ⊢
  have hl : lv_has ls 4 [(0, .ref (ad 0)), (1, .int x1), (2, .ref qo)] := hl
  refine lv_aload_n hx hb tn_dh_depth_0 rfl (lv_at hl 2 rfl) ?_
  refine lv_iconst (v := 0) hx hb tn_dh_depth_1 (by decide) ?_
  refine lv_aload_n hx hb tn_dh_depth_2 rfl (lv_at hl 0 rfl) ?_
  refine lv_iload_n hx hb tn_dh_depth_3 rfl (lv_at hl 1 rfl) ?_
  refine tn_cv (μ := 50) (M := tn_m50) rfl (xs := [.int x1]) (rest := [.int 0, .ref qo]) (nL := 4) (tn_sX hl9 hAW) (Nat.le_of_ble_eq_true rfl) (tn_intS tn_int0) hx hb hml hl.1 hown hts hns hE (tn_t3_ty hK) hP hD hS hA tn_X0 rfl tn_wh30 tn_wh31 tn_wh32 (by decide +kernel : (parseMethodDescriptor tn_m50.1.desc).map (fun d => d.parameters.length) = some 1) (Nat.le_of_ble_eq_true rfl) (Nat.le_of_ble_eq_true rfl) (Nat.le_of_ble_eq_true rfl) (Nat.le_of_ble_eq_true rfl) (Nat.le_of_ble_eq_true rfl) tn_dh_depth_4 (fun E ce q9 h1 H1 locs1 hq hP1 hD1 hS1 hce hcv hcl => ?_) (fun r h1 H1 locs1 hq hP1 hD1 hS1 => ?_)
  · have hk := hQ h1 (.inr E) hq
    have hpos : 0 < tn_nA E := by
      rcases hk with ⟨v, hv⟩ | ⟨E9, he, hp⟩
      · cases hv
      · cases he
        exact hp
    refine vx_widen (k := 1) (n := 6) (Nat.le_of_ble_eq_true rfl) (Nat.le_of_ble_eq_true rfl) ?_
    by_cases he0 : E = tn_IAE
    · subst he0
      refine vx_catch (own := "TermNetLaw") (name := tn_IAE) hown [] ({ startPc := 0, endPc := 9, handlerPc := 12, catchType := 13 }) [] htab (fun z hz => by cases hz) (by decide) (by decide) (hts _ tn_wh3) (va_Nw.use rfl (hE.1 _ (List.mem_of_getElem? (i := 3) rfl))) hce hcv hcl ?_
      refine lv_astore_n (i := 3) hx hb tn_dh_depth_12 rfl hl (by decide) rfl (fun ls hl => ?_)
      refine lv_iconst (v := 1) hx hb tn_dh_depth_13 (by decide) ?_
      exact vx_ret (W.iret hx hb hr (fun t ht hW => ⟨⟨h1, .inr tn_IAE, 1, f, rfl, hq, Or.inr ⟨_, rfl, by decide⟩, by rw [ht]; exact hP1, hD1⟩, hS1.F ht⟩) hS1.2.2 tn_dh_depth_14)
    · exfalso
      have h9 : tn_nA E = 0 := by unfold tn_nA; simp only [if_neg (show ¬ E = "java/lang/IllegalArgumentException" from he0)]
      omega
  · obtain ⟨v, rfl⟩ : ∃ v, r = some (.int v) := by
      rcases hQ h1 (.inl r) hq with ⟨v, hv⟩ | ⟨E9, he, hp⟩
      · cases hv
        exact ⟨v, rfl⟩
      · cases he
    refine W.widen (k := 1) (n := 6) (Nat.le_of_ble_eq_true rfl) (Nat.le_of_ble_eq_true rfl) ?_
    refine W.eq (g2 := F0 m 7 ls [.int v, .int 0, .ref qo]) rfl ?_
    refine lv_i2l (v := v.toInt64) hx hb tn_dh_depth_7 rfl ?_
    refine va_last (D := D) (cl := tn_cl) (tys := tn_t3 ca cL) (ws := tn_WH ad ca cL qo f h1) hx hb hK hP1 hD1 hS1 0 2 rfl rfl (by unfold vp_in; decide) tn_dh_depth_8 (fun H2 locs2 hP2 hD2 hS2 => ?_)
    have hP2 : va_P D tn_cl (tn_WH ad ca cL qo (vp_updL f 0 (v.toInt64)) h1) H2 := hP2
    have hD2 : va_D A (tn_WH ad ca cL qo (vp_updL f 0 (v.toInt64)) h1) := hD2
    refine lv_goto (tgt := 15) hx hb tn_dh_depth_9 (by decide) ?_
    refine lv_iconst (v := 0) hx hb tn_dh_depth_15 (by decide) ?_
    exact vx_ret (W.iret hx hb hr (fun t ht hW => ⟨⟨h1, .inl (some (.int v)), 0, _, rfl, hq, Or.inl ⟨v, rfl, rfl, by simp [vp_updL]⟩, by rw [ht]; exact hP2, hD2⟩, hS2.F ht⟩) hS2.2.2 tn_dh_depth_16)
def tn_yh_inside : MethodName := ⟨"TermNetLaw", "inside", "(LTermNet;II[J)I"⟩
theorem tn_dh_inside_0 : decode method_13_code 0 = .ok (.aload_n 3, 1) := by decide +kernel
theorem tn_dh_inside_1 : decode method_13_code 1 = .ok (.iconst 0, 1) := by decide +kernel
theorem tn_dh_inside_2 : decode method_13_code 2 = .ok (.aload_n 0, 1) := by decide +kernel
theorem tn_dh_inside_3 : decode method_13_code 3 = .ok (.iload_n 1, 1) := by decide +kernel
theorem tn_dh_inside_4 : decode method_13_code 4 = .ok (.iload_n 2, 1) := by decide +kernel
theorem tn_dh_inside_5 : decode method_13_code 5 = .ok (.invokevirtual 50, 3) := by decide +kernel
theorem tn_dh_inside_8 : decode method_13_code 8 = .ok (.ifCond .eq 7, 3) := by decide +kernel
theorem tn_dh_inside_11 : decode method_13_code 11 = .ok (.lconst 1, 1) := by decide +kernel
theorem tn_dh_inside_12 : decode method_13_code 12 = .ok (.goto 4, 3) := by decide +kernel
theorem tn_dh_inside_15 : decode method_13_code 15 = .ok (.lconst 0, 1) := by decide +kernel
theorem tn_dh_inside_16 : decode method_13_code 16 = .ok (.lastore, 1) := by decide +kernel
theorem tn_dh_inside_17 : decode method_13_code 17 = .ok (.goto 7, 3) := by decide +kernel
theorem tn_dh_inside_20 : decode method_13_code 20 = .ok (.astore 4, 2) := by decide +kernel
theorem tn_dh_inside_22 : decode method_13_code 22 = .ok (.iconst 1, 1) := by decide +kernel
theorem tn_dh_inside_23 : decode method_13_code 23 = .ok (.ireturn, 1) := by decide +kernel
theorem tn_dh_inside_24 : decode method_13_code 24 = .ok (.iconst 0, 1) := by decide +kernel
theorem tn_dh_inside_25 : decode method_13_code 25 = .ok (.ireturn, 1) := by decide +kernel
set_option maxHeartbeats 4000000 in
set_option maxRecDepth 100000 in
theorem tn_h_inside {l : Launch} (hl9 : l.stackTraces = false) {D : va_G} {ad : Nat → Nat} {ca : Nat → ClassId} {cL : ClassId} {qo : Nat} {f : Nat → Int64} {h : am_S} {Q : am_Q} (x1 : Int32) (x2 : Int32) (hAW : am_AW tn_G tn_X (51, 0, 0, [some (.ref 0), some (.int x1), some (.int x2)], [], h) Q) (hQ : ∀ h1 o, Q h1 o → tn_hkn tn_nA o) (sz : Nat) :
    vx_Met l tn_yh_inside (Cond.codeWith tn_yh_inside method_13_code 5 (some .int) [(0, 17, 20, 13)] :: tn_TS) ({ frames := 8, cells := 2, slots := 12, locals := 153 }) (tn_hP D ad ca cL qo f h sz [.ref (ad 0), .int x1, .int x2, .ref qo]) (tn_hQ tn_nA true Q D ad ca cL qo (va_A (tn_WH ad ca cL qo f h) sz)) (fun _ _ _ => False) 2 12 (va_A (tn_WH ad ca cL qo f h) sz) := by
  refine vx_ofWH (cc := method_13_code) (maxL := 5) (ret := some .int) (hh := [(0, 17, 20, 13)]) (by decide) rfl ?_
  intro p e s m args below meth c s₁ B hml hv
  obtain ⟨rfl, hsz, hP, hK, hD0, hns, hE⟩ := hv
  have hx := B.exec
  have hb := B.bytes
  have hr := B.returns
  have hat := atoms_spec (ws := Cond.codeWith tn_yh_inside method_13_code 5 (some .int) [(0, 17, 20, 13)] :: tn_TS) B.pre
  have htab := vx_table (x := tn_yh_inside) B (hat _ List.mem_cons_self)
  have hts : ∀ w ∈ tn_TS, w.before _ s = true := fun w hw => hat w (List.mem_cons_of_mem _ hw)
  have hown : s.vm.findClass "TermNetLaw" = some m.cls := findClass_of_methodNamed B.named
  have hlocks := B.notSynchronized
  subst hsz
  have hD := hD0.self (sz := s.heap.size)
  generalize hAe : va_A (tn_WH ad ca cL qo f h) s.heap.size = A at hD hE ⊢
  have hA : ∀ q : Nat, s.heap.size ≤ q → A q := fun q h => by rw [← hAe]; exact Or.inr h
  have hS : va_S A s.heap s.heap [] := va_S.rf
  have hl := lv_entry ([.ref (ad 0), .int x1, .int x2, .ref qo]) (n := 5) (Nat.le_of_ble_eq_true rfl)
  rw [lg_entry_eq]
  generalize (lg_sl ([.ref (ad 0), .int x1, .int x2, .ref qo]) ++ List.replicate (5 - (lg_sl ([.ref (ad 0), .int x1, .int x2, .ref qo])).length) Slot.unset).toArray = ls at hl ⊢
  have hl : lv_has ls 5 [(0, .ref (ad 0)), (1, .int x1), (2, .int x2), (3, .ref qo)] := hl
  refine lv_aload_n hx hb tn_dh_inside_0 rfl (lv_at hl 3 rfl) ?_
  refine lv_iconst (v := 0) hx hb tn_dh_inside_1 (by decide) ?_
  refine lv_aload_n hx hb tn_dh_inside_2 rfl (lv_at hl 0 rfl) ?_
  refine lv_iload_n hx hb tn_dh_inside_3 rfl (lv_at hl 1 rfl) ?_
  refine lv_iload_n hx hb tn_dh_inside_4 rfl (lv_at hl 2 rfl) ?_
  refine tn_cv (μ := 51) (M := tn_m51) rfl (xs := [.int x1, .int x2]) (rest := [.int 0, .ref qo]) (nL := 5) (tn_sX hl9 hAW) (Nat.le_of_ble_eq_true rfl) (tn_intS (tn_intS tn_int0)) hx hb hml hl.1 hown hts hns hE (tn_t3_ty hK) hP hD hS hA tn_X0 rfl tn_wh33 tn_wh34 tn_wh35 (by decide +kernel : (parseMethodDescriptor tn_m51.1.desc).map (fun d => d.parameters.length) = some 2) (Nat.le_of_ble_eq_true rfl) (Nat.le_of_ble_eq_true rfl) (Nat.le_of_ble_eq_true rfl) (Nat.le_of_ble_eq_true rfl) (Nat.le_of_ble_eq_true rfl) tn_dh_inside_5 (fun E ce q9 h1 H1 locs1 hq hP1 hD1 hS1 hce hcv hcl => ?_) (fun r h1 H1 locs1 hq hP1 hD1 hS1 => ?_)
  · have hk := hQ h1 (.inr E) hq
    have hpos : 0 < tn_nA E := by
      rcases hk with ⟨v, hv⟩ | ⟨E9, he, hp⟩
      · cases hv
      · cases he
        exact hp
    refine vx_widen (k := 2) (n := 12) (Nat.le_of_ble_eq_true rfl) (Nat.le_of_ble_eq_true rfl) ?_
    by_cases he0 : E = tn_IAE
    · subst he0
      refine vx_catch (own := "TermNetLaw") (name := tn_IAE) hown [] ({ startPc := 0, endPc := 17, handlerPc := 20, catchType := 13 }) [] htab (fun z hz => by cases hz) (by decide) (by decide) (hts _ tn_wh3) (va_Nw.use rfl (hE.1 _ (List.mem_of_getElem? (i := 3) rfl))) hce hcv hcl ?_
      refine lv_astore (i := 4) hx hb tn_dh_inside_20 hl (by decide) rfl (fun ls hl => ?_)
      refine lv_iconst (v := 1) hx hb tn_dh_inside_22 (by decide) ?_
      exact vx_ret (W.iret hx hb hr (fun t ht hW => ⟨⟨h1, .inr tn_IAE, 1, f, rfl, hq, Or.inr ⟨_, rfl, by decide⟩, by rw [ht]; exact hP1, hD1⟩, hS1.F ht⟩) hS1.2.2 tn_dh_inside_23)
    · exfalso
      have h9 : tn_nA E = 0 := by unfold tn_nA; simp only [if_neg (show ¬ E = "java/lang/IllegalArgumentException" from he0)]
      omega
  · obtain ⟨v, rfl⟩ : ∃ v, r = some (.int v) := by
      rcases hQ h1 (.inl r) hq with ⟨v, hv⟩ | ⟨E9, he, hp⟩
      · cases hv
        exact ⟨v, rfl⟩
      · cases he
    refine W.widen (k := 2) (n := 12) (Nat.le_of_ble_eq_true rfl) (Nat.le_of_ble_eq_true rfl) ?_
    refine W.eq (g2 := F0 m 8 ls [.int v, .int 0, .ref qo]) rfl ?_
    refine lv_if_eq (tgt := 15) hx hb tn_dh_inside_8 (by decide) (fun h0 => ?_) (fun h0 => ?_)
    · refine lv_lconst (v := 0) hx hb tn_dh_inside_15 (by decide) ?_
      refine va_last (D := D) (cl := tn_cl) (tys := tn_t3 ca cL) (ws := tn_WH ad ca cL qo f h1) hx hb hK hP1 hD1 hS1 0 2 rfl rfl (by unfold vp_in; decide) tn_dh_inside_16 (fun H2 locs2 hP2 hD2 hS2 => ?_)
      have hP2 : va_P D tn_cl (tn_WH ad ca cL qo (vp_updL f 0 (0)) h1) H2 := hP2
      have hD2 : va_D A (tn_WH ad ca cL qo (vp_updL f 0 (0)) h1) := hD2
      refine lv_goto (tgt := 24) hx hb tn_dh_inside_17 (by decide) ?_
      refine lv_iconst (v := 0) hx hb tn_dh_inside_24 (by decide) ?_
      exact vx_ret (W.iret hx hb hr (fun t ht hW => ⟨⟨h1, .inl (some (.int v)), 0, _, rfl, hq, Or.inl ⟨v, rfl, rfl, by simp [vp_updL, h0]⟩, by rw [ht]; exact hP2, hD2⟩, hS2.F ht⟩) hS2.2.2 tn_dh_inside_25)
    · refine lv_lconst (v := 1) hx hb tn_dh_inside_11 (by decide) ?_
      refine lv_goto (tgt := 16) hx hb tn_dh_inside_12 (by decide) ?_
      refine va_last (D := D) (cl := tn_cl) (tys := tn_t3 ca cL) (ws := tn_WH ad ca cL qo f h1) hx hb hK hP1 hD1 hS1 0 2 rfl rfl (by unfold vp_in; decide) tn_dh_inside_16 (fun H2 locs2 hP2 hD2 hS2 => ?_)
      have hP2 : va_P D tn_cl (tn_WH ad ca cL qo (vp_updL f 0 (1)) h1) H2 := hP2
      have hD2 : va_D A (tn_WH ad ca cL qo (vp_updL f 0 (1)) h1) := hD2
      refine lv_goto (tgt := 24) hx hb tn_dh_inside_17 (by decide) ?_
      refine lv_iconst (v := 0) hx hb tn_dh_inside_24 (by decide) ?_
      exact vx_ret (W.iret hx hb hr (fun t ht hW => ⟨⟨h1, .inl (some (.int v)), 0, _, rfl, hq, Or.inl ⟨v, rfl, rfl, by simp [vp_updL, h0]⟩, by rw [ht]; exact hP2, hD2⟩, hS2.F ht⟩) hS2.2.2 tn_dh_inside_25)
def tn_yh_unknowns : MethodName := ⟨"TermNetLaw", "unknowns", "(LTermNet;I[J)I"⟩
theorem tn_dh_unknowns_0 : decode method_14_code 0 = .ok (.aload_n 2, 1) := by decide +kernel
theorem tn_dh_unknowns_1 : decode method_14_code 1 = .ok (.iconst 0, 1) := by decide +kernel
theorem tn_dh_unknowns_2 : decode method_14_code 2 = .ok (.aload_n 0, 1) := by decide +kernel
theorem tn_dh_unknowns_3 : decode method_14_code 3 = .ok (.iload_n 1, 1) := by decide +kernel
theorem tn_dh_unknowns_4 : decode method_14_code 4 = .ok (.invokevirtual 53, 3) := by decide +kernel
theorem tn_dh_unknowns_7 : decode method_14_code 7 = .ok (.i2l, 1) := by decide +kernel
theorem tn_dh_unknowns_8 : decode method_14_code 8 = .ok (.lastore, 1) := by decide +kernel
theorem tn_dh_unknowns_9 : decode method_14_code 9 = .ok (.goto 6, 3) := by decide +kernel
theorem tn_dh_unknowns_12 : decode method_14_code 12 = .ok (.astore_n 3, 1) := by decide +kernel
theorem tn_dh_unknowns_13 : decode method_14_code 13 = .ok (.iconst 1, 1) := by decide +kernel
theorem tn_dh_unknowns_14 : decode method_14_code 14 = .ok (.ireturn, 1) := by decide +kernel
theorem tn_dh_unknowns_15 : decode method_14_code 15 = .ok (.iconst 0, 1) := by decide +kernel
theorem tn_dh_unknowns_16 : decode method_14_code 16 = .ok (.ireturn, 1) := by decide +kernel
set_option maxHeartbeats 4000000 in
set_option maxRecDepth 100000 in
theorem tn_h_unknowns {l : Launch} (hl9 : l.stackTraces = false) {D : va_G} {ad : Nat → Nat} {ca : Nat → ClassId} {cL : ClassId} {qo : Nat} {f : Nat → Int64} {h : am_S} {Q : am_Q} (x1 : Int32) (hAW : am_AW tn_G tn_X (52, 0, 0, [some (.ref 0), some (.int x1)], [], h) Q) (hQ : ∀ h1 o, Q h1 o → tn_hkn tn_nA o) (sz : Nat) :
    vx_Met l tn_yh_unknowns (Cond.codeWith tn_yh_unknowns method_14_code 4 (some .int) [(0, 9, 12, 13)] :: tn_TS) ({ frames := 8, cells := 1, slots := 6, locals := 153 }) (tn_hP D ad ca cL qo f h sz [.ref (ad 0), .int x1, .ref qo]) (tn_hQ tn_nA false Q D ad ca cL qo (va_A (tn_WH ad ca cL qo f h) sz)) (fun _ _ _ => False) 1 6 (va_A (tn_WH ad ca cL qo f h) sz) := by
  refine vx_ofWH (cc := method_14_code) (maxL := 4) (ret := some .int) (hh := [(0, 9, 12, 13)]) (by decide) rfl ?_
  intro p e s m args below meth c s₁ B hml hv
  obtain ⟨rfl, hsz, hP, hK, hD0, hns, hE⟩ := hv
  have hx := B.exec
  have hb := B.bytes
  have hr := B.returns
  have hat := atoms_spec (ws := Cond.codeWith tn_yh_unknowns method_14_code 4 (some .int) [(0, 9, 12, 13)] :: tn_TS) B.pre
  have htab := vx_table (x := tn_yh_unknowns) B (hat _ List.mem_cons_self)
  have hts : ∀ w ∈ tn_TS, w.before _ s = true := fun w hw => hat w (List.mem_cons_of_mem _ hw)
  have hown : s.vm.findClass "TermNetLaw" = some m.cls := findClass_of_methodNamed B.named
  have hlocks := B.notSynchronized
  subst hsz
  have hD := hD0.self (sz := s.heap.size)
  generalize hAe : va_A (tn_WH ad ca cL qo f h) s.heap.size = A at hD hE ⊢
  have hA : ∀ q : Nat, s.heap.size ≤ q → A q := fun q h => by rw [← hAe]; exact Or.inr h
  have hS : va_S A s.heap s.heap [] := va_S.rf
  have hl := lv_entry ([.ref (ad 0), .int x1, .ref qo]) (n := 4) (Nat.le_of_ble_eq_true rfl)
  rw [lg_entry_eq]
  generalize (lg_sl ([.ref (ad 0), .int x1, .ref qo]) ++ List.replicate (4 - (lg_sl ([.ref (ad 0), .int x1, .ref qo])).length) Slot.unset).toArray = ls at hl ⊢
  have hl : lv_has ls 4 [(0, .ref (ad 0)), (1, .int x1), (2, .ref qo)] := hl
  refine lv_aload_n hx hb tn_dh_unknowns_0 rfl (lv_at hl 2 rfl) ?_
  refine lv_iconst (v := 0) hx hb tn_dh_unknowns_1 (by decide) ?_
  refine lv_aload_n hx hb tn_dh_unknowns_2 rfl (lv_at hl 0 rfl) ?_
  refine lv_iload_n hx hb tn_dh_unknowns_3 rfl (lv_at hl 1 rfl) ?_
  refine tn_cv (μ := 52) (M := tn_m52) rfl (xs := [.int x1]) (rest := [.int 0, .ref qo]) (nL := 4) (tn_sX hl9 hAW) (Nat.le_of_ble_eq_true rfl) (tn_intS tn_int0) hx hb hml hl.1 hown hts hns hE (tn_t3_ty hK) hP hD hS hA tn_X0 rfl tn_wh36 tn_wh37 tn_wh38 (by decide +kernel : (parseMethodDescriptor tn_m52.1.desc).map (fun d => d.parameters.length) = some 1) (Nat.le_of_ble_eq_true rfl) (Nat.le_of_ble_eq_true rfl) (Nat.le_of_ble_eq_true rfl) (Nat.le_of_ble_eq_true rfl) (Nat.le_of_ble_eq_true rfl) tn_dh_unknowns_4 (fun E ce q9 h1 H1 locs1 hq hP1 hD1 hS1 hce hcv hcl => ?_) (fun r h1 H1 locs1 hq hP1 hD1 hS1 => ?_)
  · have hk := hQ h1 (.inr E) hq
    have hpos : 0 < tn_nA E := by
      rcases hk with ⟨v, hv⟩ | ⟨E9, he, hp⟩
      · cases hv
      · cases he
        exact hp
    refine vx_widen (k := 1) (n := 6) (Nat.le_of_ble_eq_true rfl) (Nat.le_of_ble_eq_true rfl) ?_
    by_cases he0 : E = tn_IAE
    · subst he0
      refine vx_catch (own := "TermNetLaw") (name := tn_IAE) hown [] ({ startPc := 0, endPc := 9, handlerPc := 12, catchType := 13 }) [] htab (fun z hz => by cases hz) (by decide) (by decide) (hts _ tn_wh3) (va_Nw.use rfl (hE.1 _ (List.mem_of_getElem? (i := 3) rfl))) hce hcv hcl ?_
      refine lv_astore_n (i := 3) hx hb tn_dh_unknowns_12 rfl hl (by decide) rfl (fun ls hl => ?_)
      refine lv_iconst (v := 1) hx hb tn_dh_unknowns_13 (by decide) ?_
      exact vx_ret (W.iret hx hb hr (fun t ht hW => ⟨⟨h1, .inr tn_IAE, 1, f, rfl, hq, Or.inr ⟨_, rfl, by decide⟩, by rw [ht]; exact hP1, hD1⟩, hS1.F ht⟩) hS1.2.2 tn_dh_unknowns_14)
    · exfalso
      have h9 : tn_nA E = 0 := by unfold tn_nA; simp only [if_neg (show ¬ E = "java/lang/IllegalArgumentException" from he0)]
      omega
  · obtain ⟨v, rfl⟩ : ∃ v, r = some (.int v) := by
      rcases hQ h1 (.inl r) hq with ⟨v, hv⟩ | ⟨E9, he, hp⟩
      · cases hv
        exact ⟨v, rfl⟩
      · cases he
    refine W.widen (k := 1) (n := 6) (Nat.le_of_ble_eq_true rfl) (Nat.le_of_ble_eq_true rfl) ?_
    refine W.eq (g2 := F0 m 7 ls [.int v, .int 0, .ref qo]) rfl ?_
    refine lv_i2l (v := v.toInt64) hx hb tn_dh_unknowns_7 rfl ?_
    refine va_last (D := D) (cl := tn_cl) (tys := tn_t3 ca cL) (ws := tn_WH ad ca cL qo f h1) hx hb hK hP1 hD1 hS1 0 2 rfl rfl (by unfold vp_in; decide) tn_dh_unknowns_8 (fun H2 locs2 hP2 hD2 hS2 => ?_)
    have hP2 : va_P D tn_cl (tn_WH ad ca cL qo (vp_updL f 0 (v.toInt64)) h1) H2 := hP2
    have hD2 : va_D A (tn_WH ad ca cL qo (vp_updL f 0 (v.toInt64)) h1) := hD2
    refine lv_goto (tgt := 15) hx hb tn_dh_unknowns_9 (by decide) ?_
    refine lv_iconst (v := 0) hx hb tn_dh_unknowns_15 (by decide) ?_
    exact vx_ret (W.iret hx hb hr (fun t ht hW => ⟨⟨h1, .inl (some (.int v)), 0, _, rfl, hq, Or.inl ⟨v, rfl, rfl, by simp [vp_updL]⟩, by rw [ht]; exact hP2, hD2⟩, hS2.F ht⟩) hS2.2.2 tn_dh_unknowns_16)
def tn_yh_mark : MethodName := ⟨"TermNetLaw", "mark", "(LTermNet;[J)I"⟩
theorem tn_dh_mark_0 : decode method_15_code 0 = .ok (.aload_n 1, 1) := by decide +kernel
theorem tn_dh_mark_1 : decode method_15_code 1 = .ok (.iconst 0, 1) := by decide +kernel
theorem tn_dh_mark_2 : decode method_15_code 2 = .ok (.aload_n 0, 1) := by decide +kernel
theorem tn_dh_mark_3 : decode method_15_code 3 = .ok (.invokevirtual 56, 3) := by decide +kernel
theorem tn_dh_mark_6 : decode method_15_code 6 = .ok (.i2l, 1) := by decide +kernel
theorem tn_dh_mark_7 : decode method_15_code 7 = .ok (.lastore, 1) := by decide +kernel
theorem tn_dh_mark_8 : decode method_15_code 8 = .ok (.goto 6, 3) := by decide +kernel
theorem tn_dh_mark_11 : decode method_15_code 11 = .ok (.astore_n 2, 1) := by decide +kernel
theorem tn_dh_mark_12 : decode method_15_code 12 = .ok (.iconst 1, 1) := by decide +kernel
theorem tn_dh_mark_13 : decode method_15_code 13 = .ok (.ireturn, 1) := by decide +kernel
theorem tn_dh_mark_14 : decode method_15_code 14 = .ok (.iconst 0, 1) := by decide +kernel
theorem tn_dh_mark_15 : decode method_15_code 15 = .ok (.ireturn, 1) := by decide +kernel
set_option maxHeartbeats 4000000 in
set_option maxRecDepth 100000 in
theorem tn_h_mark {l : Launch} (hl9 : l.stackTraces = false) {D : va_G} {ad : Nat → Nat} {ca : Nat → ClassId} {cL : ClassId} {qo : Nat} {f : Nat → Int64} {h : am_S} {Q : am_Q}  (hAW : am_AW tn_G tn_X (53, 0, 0, [some (.ref 0)], [], h) Q) (hQ : ∀ h1 o, Q h1 o → tn_hkn tn_nU o) (sz : Nat) :
    vx_Met l tn_yh_mark (Cond.codeWith tn_yh_mark method_15_code 3 (some .int) [(0, 8, 11, 15)] :: tn_TS) ({ frames := 7, cells := 1, slots := 6, locals := 110 }) (tn_hP D ad ca cL qo f h sz [.ref (ad 0), .ref qo]) (tn_hQ tn_nU false Q D ad ca cL qo (va_A (tn_WH ad ca cL qo f h) sz)) (fun _ _ _ => False) 1 6 (va_A (tn_WH ad ca cL qo f h) sz) := by
  refine vx_ofWH (cc := method_15_code) (maxL := 3) (ret := some .int) (hh := [(0, 8, 11, 15)]) (by decide) rfl ?_
  intro p e s m args below meth c s₁ B hml hv
  obtain ⟨rfl, hsz, hP, hK, hD0, hns, hE⟩ := hv
  have hx := B.exec
  have hb := B.bytes
  have hr := B.returns
  have hat := atoms_spec (ws := Cond.codeWith tn_yh_mark method_15_code 3 (some .int) [(0, 8, 11, 15)] :: tn_TS) B.pre
  have htab := vx_table (x := tn_yh_mark) B (hat _ List.mem_cons_self)
  have hts : ∀ w ∈ tn_TS, w.before _ s = true := fun w hw => hat w (List.mem_cons_of_mem _ hw)
  have hown : s.vm.findClass "TermNetLaw" = some m.cls := findClass_of_methodNamed B.named
  have hlocks := B.notSynchronized
  subst hsz
  have hD := hD0.self (sz := s.heap.size)
  generalize hAe : va_A (tn_WH ad ca cL qo f h) s.heap.size = A at hD hE ⊢
  have hA : ∀ q : Nat, s.heap.size ≤ q → A q := fun q h => by rw [← hAe]; exact Or.inr h
  have hS : va_S A s.heap s.heap [] := va_S.rf
  have hl := lv_entry ([.ref (ad 0), .ref qo]) (n := 3) (Nat.le_of_ble_eq_true rfl)
  rw [lg_entry_eq]
  generalize (lg_sl ([.ref (ad 0), .ref qo]) ++ List.replicate (3 - (lg_sl ([.ref (ad 0), .ref qo])).length) Slot.unset).toArray = ls at hl ⊢
  have hl : lv_has ls 3 [(0, .ref (ad 0)), (1, .ref qo)] := hl
  refine lv_aload_n hx hb tn_dh_mark_0 rfl (lv_at hl 1 rfl) ?_
  refine lv_iconst (v := 0) hx hb tn_dh_mark_1 (by decide) ?_
  refine lv_aload_n hx hb tn_dh_mark_2 rfl (lv_at hl 0 rfl) ?_
  refine tn_cv (μ := 53) (M := tn_m53) rfl (xs := []) (rest := [.int 0, .ref qo]) (nL := 3) (tn_sX hl9 hAW) (Nat.le_of_ble_eq_true rfl) tn_int0 hx hb hml hl.1 hown hts hns hE (tn_t3_ty hK) hP hD hS hA tn_X0 rfl tn_wh39 tn_wh40 tn_wh41 (by decide +kernel : (parseMethodDescriptor tn_m53.1.desc).map (fun d => d.parameters.length) = some 0) (Nat.le_of_ble_eq_true rfl) (Nat.le_of_ble_eq_true rfl) (Nat.le_of_ble_eq_true rfl) (Nat.le_of_ble_eq_true rfl) (Nat.le_of_ble_eq_true rfl) tn_dh_mark_3 (fun E ce q9 h1 H1 locs1 hq hP1 hD1 hS1 hce hcv hcl => ?_) (fun r h1 H1 locs1 hq hP1 hD1 hS1 => ?_)
  · have hk := hQ h1 (.inr E) hq
    have hpos : 0 < tn_nU E := by
      rcases hk with ⟨v, hv⟩ | ⟨E9, he, hp⟩
      · cases hv
      · cases he
        exact hp
    refine vx_widen (k := 1) (n := 6) (Nat.le_of_ble_eq_true rfl) (Nat.le_of_ble_eq_true rfl) ?_
    by_cases he0 : E = tn_IOE
    · subst he0
      refine vx_catch (own := "TermNetLaw") (name := tn_IOE) hown [] ({ startPc := 0, endPc := 8, handlerPc := 11, catchType := 15 }) [] htab (fun z hz => by cases hz) (by decide) (by decide) (hts _ tn_wh4) (va_Nw.use rfl (hE.1 _ (List.mem_of_getElem? (i := 4) rfl))) hce hcv hcl ?_
      refine lv_astore_n (i := 2) hx hb tn_dh_mark_11 rfl hl (by decide) rfl (fun ls hl => ?_)
      refine lv_iconst (v := 1) hx hb tn_dh_mark_12 (by decide) ?_
      exact vx_ret (W.iret hx hb hr (fun t ht hW => ⟨⟨h1, .inr tn_IOE, 1, f, rfl, hq, Or.inr ⟨_, rfl, by decide⟩, by rw [ht]; exact hP1, hD1⟩, hS1.F ht⟩) hS1.2.2 tn_dh_mark_13)
    · exfalso
      have h9 : tn_nU E = 0 := by unfold tn_nU; simp only [if_neg (show ¬ E = "java/lang/IndexOutOfBoundsException" from he0)]
      omega
  · obtain ⟨v, rfl⟩ : ∃ v, r = some (.int v) := by
      rcases hQ h1 (.inl r) hq with ⟨v, hv⟩ | ⟨E9, he, hp⟩
      · cases hv
        exact ⟨v, rfl⟩
      · cases he
    refine W.widen (k := 1) (n := 6) (Nat.le_of_ble_eq_true rfl) (Nat.le_of_ble_eq_true rfl) ?_
    refine W.eq (g2 := F0 m 6 ls [.int v, .int 0, .ref qo]) rfl ?_
    refine lv_i2l (v := v.toInt64) hx hb tn_dh_mark_6 rfl ?_
    refine va_last (D := D) (cl := tn_cl) (tys := tn_t3 ca cL) (ws := tn_WH ad ca cL qo f h1) hx hb hK hP1 hD1 hS1 0 2 rfl rfl (by unfold vp_in; decide) tn_dh_mark_7 (fun H2 locs2 hP2 hD2 hS2 => ?_)
    have hP2 : va_P D tn_cl (tn_WH ad ca cL qo (vp_updL f 0 (v.toInt64)) h1) H2 := hP2
    have hD2 : va_D A (tn_WH ad ca cL qo (vp_updL f 0 (v.toInt64)) h1) := hD2
    refine lv_goto (tgt := 14) hx hb tn_dh_mark_8 (by decide) ?_
    refine lv_iconst (v := 0) hx hb tn_dh_mark_14 (by decide) ?_
    exact vx_ret (W.iret hx hb hr (fun t ht hW => ⟨⟨h1, .inl (some (.int v)), 0, _, rfl, hq, Or.inl ⟨v, rfl, rfl, by simp [vp_updL]⟩, by rw [ht]; exact hP2, hD2⟩, hS2.F ht⟩) hS2.2.2 tn_dh_mark_15)
def tn_yh_back : MethodName := ⟨"TermNetLaw", "back", "(LTermNet;[J)I"⟩
theorem tn_dh_back_0 : decode method_16_code 0 = .ok (.aload_n 1, 1) := by decide +kernel
theorem tn_dh_back_1 : decode method_16_code 1 = .ok (.iconst 0, 1) := by decide +kernel
theorem tn_dh_back_2 : decode method_16_code 2 = .ok (.aload_n 0, 1) := by decide +kernel
theorem tn_dh_back_3 : decode method_16_code 3 = .ok (.invokevirtual 59, 3) := by decide +kernel
theorem tn_dh_back_6 : decode method_16_code 6 = .ok (.i2l, 1) := by decide +kernel
theorem tn_dh_back_7 : decode method_16_code 7 = .ok (.lastore, 1) := by decide +kernel
theorem tn_dh_back_8 : decode method_16_code 8 = .ok (.goto 6, 3) := by decide +kernel
theorem tn_dh_back_11 : decode method_16_code 11 = .ok (.astore_n 2, 1) := by decide +kernel
theorem tn_dh_back_12 : decode method_16_code 12 = .ok (.iconst 1, 1) := by decide +kernel
theorem tn_dh_back_13 : decode method_16_code 13 = .ok (.ireturn, 1) := by decide +kernel
theorem tn_dh_back_14 : decode method_16_code 14 = .ok (.iconst 0, 1) := by decide +kernel
theorem tn_dh_back_15 : decode method_16_code 15 = .ok (.ireturn, 1) := by decide +kernel
set_option maxHeartbeats 4000000 in
set_option maxRecDepth 100000 in
theorem tn_h_back {l : Launch} (hl9 : l.stackTraces = false) {D : va_G} {ad : Nat → Nat} {ca : Nat → ClassId} {cL : ClassId} {qo : Nat} {f : Nat → Int64} {h : am_S} {Q : am_Q}  (hAW : am_AW tn_G tn_X (54, 0, 0, [some (.ref 0)], [], h) Q) (hQ : ∀ h1 o, Q h1 o → tn_hkn tn_nK o) (sz : Nat) :
    vx_Met l tn_yh_back (Cond.codeWith tn_yh_back method_16_code 3 (some .int) [(0, 8, 11, 39)] :: tn_TS) ({ frames := 7, cells := 1, slots := 6, locals := 110 }) (tn_hP D ad ca cL qo f h sz [.ref (ad 0), .ref qo]) (tn_hQ tn_nK false Q D ad ca cL qo (va_A (tn_WH ad ca cL qo f h) sz)) (fun _ _ _ => False) 1 6 (va_A (tn_WH ad ca cL qo f h) sz) := by
  refine vx_ofWH (cc := method_16_code) (maxL := 3) (ret := some .int) (hh := [(0, 8, 11, 39)]) (by decide) rfl ?_
  intro p e s m args below meth c s₁ B hml hv
  obtain ⟨rfl, hsz, hP, hK, hD0, hns, hE⟩ := hv
  have hx := B.exec
  have hb := B.bytes
  have hr := B.returns
  have hat := atoms_spec (ws := Cond.codeWith tn_yh_back method_16_code 3 (some .int) [(0, 8, 11, 39)] :: tn_TS) B.pre
  have htab := vx_table (x := tn_yh_back) B (hat _ List.mem_cons_self)
  have hts : ∀ w ∈ tn_TS, w.before _ s = true := fun w hw => hat w (List.mem_cons_of_mem _ hw)
  have hown : s.vm.findClass "TermNetLaw" = some m.cls := findClass_of_methodNamed B.named
  have hlocks := B.notSynchronized
  subst hsz
  have hD := hD0.self (sz := s.heap.size)
  generalize hAe : va_A (tn_WH ad ca cL qo f h) s.heap.size = A at hD hE ⊢
  have hA : ∀ q : Nat, s.heap.size ≤ q → A q := fun q h => by rw [← hAe]; exact Or.inr h
  have hS : va_S A s.heap s.heap [] := va_S.rf
  have hl := lv_entry ([.ref (ad 0), .ref qo]) (n := 3) (Nat.le_of_ble_eq_true rfl)
  rw [lg_entry_eq]
  generalize (lg_sl ([.ref (ad 0), .ref qo]) ++ List.replicate (3 - (lg_sl ([.ref (ad 0), .ref qo])).length) Slot.unset).toArray = ls at hl ⊢
  have hl : lv_has ls 3 [(0, .ref (ad 0)), (1, .ref qo)] := hl
  refine lv_aload_n hx hb tn_dh_back_0 rfl (lv_at hl 1 rfl) ?_
  refine lv_iconst (v := 0) hx hb tn_dh_back_1 (by decide) ?_
  refine lv_aload_n hx hb tn_dh_back_2 rfl (lv_at hl 0 rfl) ?_
  refine tn_cv (μ := 54) (M := tn_m54) rfl (xs := []) (rest := [.int 0, .ref qo]) (nL := 3) (tn_sX hl9 hAW) (Nat.le_of_ble_eq_true rfl) tn_int0 hx hb hml hl.1 hown hts hns hE (tn_t3_ty hK) hP hD hS hA tn_X0 rfl tn_wh42 tn_wh43 tn_wh44 (by decide +kernel : (parseMethodDescriptor tn_m54.1.desc).map (fun d => d.parameters.length) = some 0) (Nat.le_of_ble_eq_true rfl) (Nat.le_of_ble_eq_true rfl) (Nat.le_of_ble_eq_true rfl) (Nat.le_of_ble_eq_true rfl) (Nat.le_of_ble_eq_true rfl) tn_dh_back_3 (fun E ce q9 h1 H1 locs1 hq hP1 hD1 hS1 hce hcv hcl => ?_) (fun r h1 H1 locs1 hq hP1 hD1 hS1 => ?_)
  · have hk := hQ h1 (.inr E) hq
    have hpos : 0 < tn_nK E := by
      rcases hk with ⟨v, hv⟩ | ⟨E9, he, hp⟩
      · cases hv
      · cases he
        exact hp
    refine vx_widen (k := 1) (n := 6) (Nat.le_of_ble_eq_true rfl) (Nat.le_of_ble_eq_true rfl) ?_
    by_cases he0 : E = tn_NSE
    · subst he0
      refine vx_catch (own := "TermNetLaw") (name := tn_NSE) hown [] ({ startPc := 0, endPc := 8, handlerPc := 11, catchType := 39 }) [] htab (fun z hz => by cases hz) (by decide) (by decide) (hts _ tn_wh23) (va_Nw.use rfl (hE.1 _ (List.mem_of_getElem? (i := 5) rfl))) hce hcv hcl ?_
      refine lv_astore_n (i := 2) hx hb tn_dh_back_11 rfl hl (by decide) rfl (fun ls hl => ?_)
      refine lv_iconst (v := 1) hx hb tn_dh_back_12 (by decide) ?_
      exact vx_ret (W.iret hx hb hr (fun t ht hW => ⟨⟨h1, .inr tn_NSE, 1, f, rfl, hq, Or.inr ⟨_, rfl, by decide⟩, by rw [ht]; exact hP1, hD1⟩, hS1.F ht⟩) hS1.2.2 tn_dh_back_13)
    · exfalso
      have h9 : tn_nK E = 0 := by unfold tn_nK; simp only [if_neg (show ¬ E = "java/util/NoSuchElementException" from he0)]
      omega
  · obtain ⟨v, rfl⟩ : ∃ v, r = some (.int v) := by
      rcases hQ h1 (.inl r) hq with ⟨v, hv⟩ | ⟨E9, he, hp⟩
      · cases hv
        exact ⟨v, rfl⟩
      · cases he
    refine W.widen (k := 1) (n := 6) (Nat.le_of_ble_eq_true rfl) (Nat.le_of_ble_eq_true rfl) ?_
    refine W.eq (g2 := F0 m 6 ls [.int v, .int 0, .ref qo]) rfl ?_
    refine lv_i2l (v := v.toInt64) hx hb tn_dh_back_6 rfl ?_
    refine va_last (D := D) (cl := tn_cl) (tys := tn_t3 ca cL) (ws := tn_WH ad ca cL qo f h1) hx hb hK hP1 hD1 hS1 0 2 rfl rfl (by unfold vp_in; decide) tn_dh_back_7 (fun H2 locs2 hP2 hD2 hS2 => ?_)
    have hP2 : va_P D tn_cl (tn_WH ad ca cL qo (vp_updL f 0 (v.toInt64)) h1) H2 := hP2
    have hD2 : va_D A (tn_WH ad ca cL qo (vp_updL f 0 (v.toInt64)) h1) := hD2
    refine lv_goto (tgt := 14) hx hb tn_dh_back_8 (by decide) ?_
    refine lv_iconst (v := 0) hx hb tn_dh_back_14 (by decide) ?_
    exact vx_ret (W.iret hx hb hr (fun t ht hW => ⟨⟨h1, .inl (some (.int v)), 0, _, rfl, hq, Or.inl ⟨v, rfl, rfl, by simp [vp_updL]⟩, by rw [ht]; exact hP2, hD2⟩, hS2.F ht⟩) hS2.2.2 tn_dh_back_15)
