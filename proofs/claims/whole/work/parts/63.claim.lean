/-! THE LAW FROM ITS ENTRY, AND THE CLAIM (from kit/laws/SKELETON.whole.lean.txt), laid by wip/whole/gen63.py. -/
theorem tn_wn0 : (.classLink "TermNetLaw" 8 "TermNet" : Cond) ∈ tn_TS := tn_in 37 (by decide +kernel) (by decide +kernel)
theorem tn_wn1 : (.instantiable "TermNet" 9 : Cond) ∈ tn_TS := tn_in 38 (by decide +kernel) (by decide +kernel)
theorem tn_wn2 : (.initialized "TermNet" : Cond) ∈ tn_TS := tn_in 23 (by decide +kernel) (by decide +kernel)
theorem tn_wn3 : (.methodLink "TermNetLaw" 62 ⟨"TermNet", "<init>", "()V"⟩ : Cond) ∈ tn_TS := tn_in 39 (by decide +kernel) (by decide +kernel)
theorem tn_wn4 : (.instanceMethod ⟨"TermNet", "<init>", "()V"⟩ : Cond) ∈ tn_TS := tn_in 40 (by decide +kernel) (by decide +kernel)
theorem tn_wn5 : (.classLink "TermNetLaw" 63 "TermNetModel" : Cond) ∈ tn_TS := tn_in 583 (by decide +kernel) (by decide +kernel)
theorem tn_wn6 : (.instantiable "TermNetModel" 18 : Cond) ∈ tn_TS := tn_in 584 (by decide +kernel) (by decide +kernel)
theorem tn_wn7 : (.initialized "TermNetModel" : Cond) ∈ tn_TS := tn_in 28 (by decide +kernel) (by decide +kernel)
theorem tn_wn8 : (.methodLink "TermNetLaw" 65 ⟨"TermNetModel", "<init>", "()V"⟩ : Cond) ∈ tn_TS := tn_in 585 (by decide +kernel) (by decide +kernel)
theorem tn_wn9 : (.instanceMethod ⟨"TermNetModel", "<init>", "()V"⟩ : Cond) ∈ tn_TS := tn_in 586 (by decide +kernel) (by decide +kernel)
theorem tn_wn10 : (.arrayClass .long : Cond) ∈ tn_TS := tn_in 734 (by decide +kernel) (by decide +kernel)
def R_law : String := "TermNetLaw"
def lw_P (b : Addr) (xs : List Int32) (args : Array Value) (s : State) : Prop := args = #[.ref b] ∧ s.IntsAt b xs ∧ xs.length ≤ 2560 ∧ (Jvm.Cond.and given_1 narrow_1).before args s = true
def lw_Q (_ : Array Value) (s : State) (o : Outcome) (t : State) : Prop := o = .returned (some (.int 1)) ∧ Framed s o t [] 1070 27272
def lw_Z (below : List Frame) (a : Array Value) (s : State) : State → Prop := fun t => ∃ o, t.status = .running ∧ Ended t below o ∧ lw_Q a s o t
/-- the law's own end, with 1 on the stack, nothing written that was there before, its room as the claim has it -/
theorem lw_ret {p : Program} {l : Launch} {e : Env} {s : State} {m : MethodId} {below : List Frame} {meth : Method} {c : Code} {b : Nat} (hx : p.tables.exec = Jvm.exec) (hb : c.code = code) (hr : meth.sig.returnType = ret) (hlocks : meth.locks = false) {pc : Nat} {H : Heap} {ls : Array Slot} (hdg : decode code pc = .ok (.ireturn, 1)) : W p l e room_1 s m #[Value.ref b] below meth c H [] 1070 27272 (lw_Z below #[Value.ref b] s) (F0 m pc ls [.int 1]) := by
  intro T hT X
  obtain ⟨fs, hret, hrun, hended, hW, hframe⟩ := X.leave (v := some (.int 1)) (hlocks := hlocks) (fun h => by rw [hr] at h; cases h)
  have hmeth' : T.vm.method? m = some meth := X.method'
  refine ⟨T.setFrames fs, ?_, .returned (some (.int 1)), hrun, hended, rfl, ⟨_, rfl⟩, hW, hframe⟩
  jvm_step X.here [X.here.top, hx, hb, hdg, hmeth', hr, ret, narrow_b1]
  (try refine ⟨rfl, ?_⟩); (try refine ⟨rfl, ?_⟩)
  first | (intro acts; rw [hret _ acts rfl rfl rfl]) | rw [hret _ _ rfl rfl rfl]
  exact Steps.refl _
/-- what holds at the law's entry: the machine, the code, the tables' words (any of lw_tbl by 'hts w (by decide +kernel)'), the script of L ints xs at the cell b, what the Statement gives of the start (any of its parts by flat_of_before) -/
def lw_At (p : Program) (s : State) (m : MethodId) (meth : Method) (c : Code) (b L : Nat) (xs : Nat → Int32) : Prop :=
  p.tables.exec = Jvm.exec ∧ c.code = code ∧ meth.sig.returnType = ret ∧ c.maxLocals = 7 ∧ s.vm.findClass R_law = some m.cls ∧ (∀ w ∈ lw_tbl, w.before #[Value.ref b] s = true) ∧ va_X b L xs s s.heap ∧ b < s.heap.size ∧ meth.locks = false ∧ (Jvm.Cond.and given_1 narrow_1).before #[Value.ref b] s = true
set_option maxHeartbeats 4000000 in
set_option maxRecDepth 100000 in
/-- from the entry, for every script of at most 2560 ints, the law comes to its end with true -/
theorem whole_start {p : Program} {e : Env} {s : State} {m : MethodId} {below : List Frame} {meth : Method} {c : Code} (l : Launch) (hl9 : l.stackTraces = false) {b L : Nat} {xs : Nat → Int32} (hL : L ≤ 2560) (C0 : lw_At p s m meth c b L xs) : W p l e room_1 s m #[Value.ref b] below meth c s.heap [] 0 0 (lw_Z below #[Value.ref b] s) (entryFrame m ([Value.ref b] : List Value).toArray 7) := by
  obtain ⟨hx, hb, hr, hml, hown, htb, hsc, hbl, hlocks, hgv⟩ := C0
  have hown : s.vm.findClass "TermNetLaw" = some m.cls := hown
  have hts : ∀ w ∈ tn_TS, w.before #[Value.ref b] s = true := fun w hw => htb w (List.mem_filter.mp hw).1
  have hns : ∀ w ∈ tn_NS, va_Nw w s := fun w hw => va_Nw.of (tn_NS_tab w hw) (htb w (tn_NS_in w hw))
  have hnw : va_Nw (.methodLinkNest tn_R4 9 tn_y1 tn_R4) s := va_Nw.of rfl (htb _ tn_z_nest)
  obtain ⟨A, hAe⟩ : ∃ A : Nat → Prop, A = fun q => s.heap.size ≤ q := ⟨_, rfl⟩
  have hA : ∀ q : Nat, s.heap.size ≤ q → A q := fun q h => by rw [hAe]; exact h
  have hA' : ∀ q : Nat, A q → s.heap.size ≤ q := fun q h => by rw [hAe] at h; exact h
  have hE : tn_EX A s s.heap := tn_EX_start htb hgv (fun a ha h => absurd (hA' a h) (by omega))
  obtain ⟨D, ca, hK⟩ := tn_K_start hts
  have hP : va_P D tn_cl [] s.heap := fun k q h => by cases h
  have hD : va_D A [] := ⟨fun i j p q h => (by cases h), fun k q h => (by cases h)⟩
  have hS : va_S A s.heap s.heap [] := va_S.rf
  have hl := lv_entry ([.ref b]) (n := 7) (Nat.le_of_ble_eq_true rfl)
  rw [lg_entry_eq]
  generalize (lg_sl ([.ref b]) ++ List.replicate (7 - (lg_sl ([.ref b])).length) Slot.unset).toArray = ls at hl ⊢
  have hl : lv_has ls 7 [(0, .ref b)] := hl
  refine va_new (D := D) (ci := 4) (fs := [.null, .null, .null, .null, .null, .null, .null, .int 0, .int 0]) (C := tn_R4) (T := tn_T4) (N := 9) hx hb hts tn_iw4 tn_ty4 tn_to4 hown (hts (.classLink "TermNetLaw" 8 "TermNet") tn_wn0) (hts (.instantiable "TermNet" 9) tn_wn1) (hts (.initialized "TermNet") tn_wn2) hK hP hD hS hA rfl (by decide) (Nat.le_of_ble_eq_true rfl) (Nat.le_of_ble_eq_true rfl) tn_de_0 (fun q1 H hP hD hS => ?_)
  have hP : va_P D tn_cl ([] ++ [(q1, .inr (4, [.null, .null, .null, .null, .null, .null, .null, .int 0, .int 0]))]) H := hP
  have hD : va_D A ([] ++ [(q1, .inr (4, [.null, .null, .null, .null, .null, .null, .null, .int 0, .int 0]))]) := hD
  refine lv_dup hx hb tn_de_3 rfl ?_
  have hF1 := tn_AA hD hS hA
  refine va_callv (va_runI (As := []) (rest := [.ref q1]) ⟨hx, hb, hml, hown, hts⟩ (tn_c4_init l D ca q1 H.size) (cwI 0 hts (tn_gi tn_y4_cd) rfl rfl rfl (hts (.initialized "TermNet") tn_wn2) (hts (.methodLink "TermNetLaw" 62 ⟨"TermNet", "<init>", "()V"⟩) tn_wn3) (hts (.instanceMethod ⟨"TermNet", "<init>", "()V"⟩) tn_wn4) rfl (by decide +kernel) ⟨Nat.le_of_ble_eq_true rfl, Nat.le_of_ble_eq_true rfl⟩) ⟨fun a U g mk q => by obtain ⟨q0, q1, qP, qK, qD, qn⟩ := q; exact ⟨q0, q1, qP, va_K.moved (u := U) (U := U.calling g mk a) (Vm.Alike.refl U.vm) qK, qD, va_Nw.warmM (U := U.calling g mk a) (State.WarmedH.refl U) qn⟩, fun U hU hW => ⟨rfl, by rw [hU], by rw [hU]; exact hP, va_K.moved hW.alike hK, hD.weaken (fun _ _ _ _ => trivial), va_Nw.warmM hW hnw⟩⟩ rfl rfl hl.1 rfl (lv_room (Nat.le_of_ble_eq_true rfl)) tn_de_4 ⟨Nat.le_of_ble_eq_true rfl, Nat.le_of_ble_eq_true rfl⟩) hS (fun q _ h => hF1 q h) hF1 (fun adX t H1 locs1 ht hvm hq1 hB hz1 hk1 hS => ?_)
  subst hq1
  obtain ⟨hP1, hD1⟩ := hB
  rw [ht] at hP1
  obtain ⟨hP, hD⟩ := tn_join hP hD hk1 hF1 hP1 hD1
  rw [List.nil_append] at hP hD
  refine W.widen (k := 23) (n := 6533) (Nat.le_of_ble_eq_true rfl) (Nat.le_of_ble_eq_true rfl) ?_
  refine lv_astore_n (i := 1) (lv' := [(1, .ref (adX 0)), (0, .ref b)]) hx hb tn_de_7 rfl hl (by decide) rfl (fun ls hl => ?_)
  refine va_new (D := D) (ci := 5) (fs := [.null, .null, .null, .int 0, .int 0, .int 0, .int 0, .int 0, .null, .null, .null, .null, .null, .null, .null, .null, .null, .null]) (C := tn_R5) (T := tn_T5) (N := 18) hx hb hts tn_iw5 tn_ty5 tn_to5 hown (hts (.classLink "TermNetLaw" 63 "TermNetModel") tn_wn5) (hts (.instantiable "TermNetModel" 18) tn_wn6) (hts (.initialized "TermNetModel") tn_wn7) hK hP hD hS hA rfl (by decide) (Nat.le_of_ble_eq_true rfl) (Nat.le_of_ble_eq_true rfl) tn_de_8 (fun q2 H2 hP hD hS => ?_)
  refine lv_dup hx hb tn_de_11 rfl ?_
  have hF2 := tn_AA hD hS hA
  refine va_callv (va_runI (As := []) (rest := [.ref q2]) ⟨hx, hb, hml, hown, hts⟩ (tn_c5_init l D ca q2 H2.size) (cwI 0 hts (tn_gi tn_y5_cd) rfl rfl rfl (hts (.initialized "TermNetModel") tn_wn7) (hts (.methodLink "TermNetLaw" 65 ⟨"TermNetModel", "<init>", "()V"⟩) tn_wn8) (hts (.instanceMethod ⟨"TermNetModel", "<init>", "()V"⟩) tn_wn9) rfl (by decide +kernel) ⟨Nat.le_of_ble_eq_true rfl, Nat.le_of_ble_eq_true rfl⟩) ⟨fun a U g mk q => by obtain ⟨q0, q1, qP, qK, qD⟩ := q; exact ⟨q0, q1, qP, va_K.moved (u := U) (U := U.calling g mk a) (Vm.Alike.refl U.vm) qK, qD⟩, fun U hU hW => ⟨rfl, by rw [hU], by rw [hU]; exact tn_apR hP, va_K.moved hW.alike hK, (tn_adR hD).weaken (fun _ _ _ _ => trivial)⟩⟩ rfl rfl hl.1 rfl (lv_room (Nat.le_of_ble_eq_true rfl)) tn_de_12 ⟨Nat.le_of_ble_eq_true rfl, Nat.le_of_ble_eq_true rfl⟩) hS (fun q _ h => hF2 q h) hF2 (fun adY t2 H3 locs3 ht2 hvm2 hq2 hB2 hz2 hk2 hS => ?_)
  subst hq2
  obtain ⟨hP3, hD3⟩ := hB2
  rw [ht2] at hP3
  obtain ⟨hP, hD⟩ := tn_join hP hD hk2 hF2 hP3 hD3
  refine W.widen (k := 37) (n := 19031) (Nat.le_of_ble_eq_true rfl) (Nat.le_of_ble_eq_true rfl) ?_
  refine lv_astore_n (i := 2) (lv' := [(2, .ref (adY 0)), (1, .ref (adX 0)), (0, .ref b)]) hx hb tn_de_15 rfl hl (by decide) rfl (fun ls hl => ?_)
  refine lv_iconst (v := 1) hx hb tn_de_16 (by decide) ?_
  refine va_newa (atype := .long) (a0 := (1, .inr (.inl (fun _ => 0)))) (N' := 1) hx hb (hts (.arrayClass .long) tn_wn10) (ty := .long) rfl hK hP hD hS hA (fun _ => rfl) (by decide) (by decide) (by decide) (Nat.le_of_ble_eq_true rfl) (Nat.le_of_ble_eq_true rfl) tn_de_17 (fun qo cL H4 hK4 hP hD hS => ?_)
  have hK4 : va_K D tn_cl (tn_t3 ca cL) s := hK4
  have hP : va_P D tn_cl (tn_LW adX adY ca cL qo (fun _ => 0) tn_z tn_z) H4 := by
    have h9 := tn_comP hP
    rw [← List.append_assoc] at h9
    exact h9
  have hD : va_D A (tn_LW adX adY ca cL qo (fun _ => 0) tn_z tn_z) := by
    have h9 := tn_comD hD
    rw [← List.append_assoc] at h9
    exact h9
  refine W.widen (k := 38) (n := 19032) (Nat.le_of_ble_eq_true rfl) (Nat.le_of_ble_eq_true rfl) ?_
  refine lv_astore_n (i := 3) (lv' := [(3, .ref qo), (2, .ref (adY 0)), (1, .ref (adX 0)), (0, .ref b)]) hx hb tn_de_19 rfl hl (by decide) rfl (fun ls hl => ?_)
  refine lv_iconst (v := 0) hx hb tn_de_20 (by decide) ?_
  refine lv_istore (i := 4) (lv' := [(4, .int 0), (3, .ref qo), (2, .ref (adY 0)), (1, .ref (adX 0)), (0, .ref b)]) hx hb tn_de_21 hl (by decide) rfl (fun ls hl => ?_)
  have C : tn_lc l p s m #[Value.ref b] c b L xs A D ca cL := ⟨hl9, hx, hb, hml, hown, hts, hns, hE, hK4, hA, hsc, hbl, fun h => absurd (hA' b h) (by omega), hL⟩
  refine tn_loop (adX := adX) (adY := adY) (qo := qo) C (fun H locs cells slots ls hS hc hs => ?_) (L / 5) 0 (by omega) (by omega) H4 _ ls tn_z tn_z (fun _ => 0) tn_R_zero hP hD hS (lv_sub hl [4, 3, 2, 1, 0] rfl)
  refine va_forget (fun q hq => hA' _ (hS.2.2 q hq)) ?_
  refine W.widen (k := 1070) (n := 27272) hc hs ?_
  refine lv_iconst (v := 1) hx hb tn_de_996 (by decide) ?_
  exact lw_ret hx hb hr hlocks tn_de_997
set_option maxHeartbeats 4000000 in
theorem lw_walk (l : Launch) (hl9 : l.stackTraces = false) (b : Addr) (xs : List Int32) : MetFree l x (headSpec (Jvm.Cond.code x code maxLocals ret :: tables_1) room_1) (lw_P b xs) (fun _ _ _ _ _ => True) lw_Q := by
  refine MetFree.of_bodyS (code := code) (maxLocals := maxLocals) (ret := ret) (by decide) ?_ ?_
  · intro args s m h hn
    obtain ⟨meth, c, h1, h2, h3, h4, h5, h6, -, -⟩ := Cond.code_spec hn (atoms_spec (ws := Jvm.Cond.code x code maxLocals ret :: tables_1) h _ List.mem_cons_self)
    exact ⟨meth, c, h1, h2, h3, h4, h5, h6⟩
  · intro p e s m args below meth c s₁ B hml0 hP _
    obtain ⟨rfl, hx, hbd, hgv⟩ := hP
    obtain ⟨scr, harrAt, hlist, hof, hsmall⟩ := hx
    obtain ⟨hcb, hkn, -, -⟩ := State.arrayAt?_spec harrAt
    have hown : s.vm.findClass R_law = some m.cls := findClass_of_methodNamed B.named
    have hts0 : ∀ c ∈ (Jvm.Cond.code x code maxLocals ret :: tables_1), c.before #[Value.ref b] s = true := atoms_spec (ws := Jvm.Cond.code x code maxLocals ret :: tables_1) B.pre
    have hts : ∀ w ∈ lw_tbl, w.before #[Value.ref b] s = true := k2_hts_sels lw_privs (fun w hw => hts0 w (List.mem_cons_of_mem _ hw)) lw_privs_ok
    have hml : c.maxLocals = 7 := B.maxLocals_eq (hts0 _ List.mem_cons_self)
    have X₀ : Stand p l e room_1 s m #[Value.ref b] below meth c s₁ [] 0 0 := Stand.of_body B
    have hh0 : s₁.heap = s.heap := by rw [B.state]; rfl
    have hsz : scr.slots.size = xs.length := by rw [← Array.length_toList, hlist, List.length_map]
    have hval : ∀ j : Nat, j < xs.length → scr.slots[j]? = some (.int (xs.getD j 0)) := fun j hj => by
      rw [← Array.getElem?_toList, hlist]
      simp [hj]
    have hbl : b < s.heap.size := (Array.getElem?_eq_some_iff.mp hcb).1
    have hX : va_X b xs.length (fun j => xs.getD j 0) s s.heap := ⟨scr, hcb, hof, hkn, hsz, hval⟩
    have K : W p l e room_1 s m #[Value.ref b] below meth c s₁.heap [] 0 0 (lw_Z below #[Value.ref b] s) (entryFrame m ([Value.ref b] : List Value).toArray 7) := by
      rw [hh0]
      exact whole_start l hl9 hbd ⟨B.exec, B.bytes, B.returns, hml, hown, hts, hX, hbl, B.notSynchronized, hgv⟩
    obtain ⟨t, a1, o, b1, b2, b3⟩ := K s₁ rfl X₀
    exact ⟨t, o, a1, b1, b2, b3⟩
theorem lw_pre_spec {args : Array Value} {s : State} (h : (Jvm.Cond.and given_1 narrow_1).before args s = true) (hr : rest_1_c.before args s = true) : ∃ (b : Addr) (xs : List Int32), lw_P b xs args s := by
  have hs := flat_of_before _ h
  have hq := flat_of_before _ hr
  have hc : (Cond.count 1).before args s = true := hs _ (by decide +kernel)
  have harr : (Cond.arrayOf (.arg 0) .int).before args s = true := hs _ (by decide +kernel)
  have hle : (Cond.le (.length (.arg 0)) (.int 2560)).before args s = true := hs _ (by decide +kernel)
  have hlen : (Cond.isInt (.length (.arg 0))).before args s = true := hq _ (by decide +kernel)
  have hall : (Cond.all (.arg 0) (.isInt (.elem (.arg 0) (.index 0)))).before args s = true := hq _ (by decide +kernel)
  obtain ⟨b, xs, hb, hx⟩ := State.ints_of_pre rfl harr hlen hall
  have hsm : xs.length < 2 ^ 31 := hx.choose_spec.2.2.2
  have hev : (Term.length (.arg 0)).eval args s none [] s = some (.int xs.length.toInt32) := hx.length_eval hb
  have hv := Cond.le_ints hev (show (Term.int 2560).eval args s none [] s = some (.int 2560) from rfl)
  have hd : xs.length.toInt32 ≤ 2560 := by
    simpa [Cond.before, Cond.holds, hv] using hle
  have hN : xs.length ≤ 2560 := (Int32.ofNat_le_ofNat hsm (by decide)).mp (show Int32.ofNat xs.length ≤ Int32.ofNat 2560 from hd)
  exact ⟨b, xs, Cond.one_arg hc (show args[0]? = some (.ref b) from hb), hx, hN, h⟩
theorem lw_comes (l : Launch) (hl9 : l.stackTraces = false) : Comes l x (Jvm.Cond.code x code maxLocals ret :: tables_1) room_1 (fun tb e args s => Calls_1 tb e args s ∧ rest_1 tb e args s ∧ Pre_1 tb e args s)
    (fun _ _ args s o t => lw_Q args s o t) := by
  intro p e ha hc hk s m args below hf hfit hheap happ hpre
  obtain ⟨b, xs, hP⟩ := lw_pre_spec hpre.2.2 hpre.2.1
  obtain ⟨k, o, h1, h2, h3, hQ⟩ := lw_walk l hl9 b xs p e ha hc hk s m args below hf ((Spec.applies_iff_loose hf).mp happ).1 hP trivial
  exact ⟨k, o, h1, h2, h3, hQ⟩
theorem lw_frame {s t : State} {o : Outcome} {args : Array Value} (h : Framed s o t [] 1070 27272) :
    Framed s o t (fieldLocs frame_1_writes args s ++ arrayLocs frame_1_arrays args s ++ staticLocs frame_1_statics s) 1070 27272 := h
theorem tn_notrace {l : Launch} (h : l.flags = flags0) : l.stackTraces = false := by
  unfold Launch.stackTraces
  rw [h]
  decide +kernel
theorem lw_limb (L : Cond) (hL : ∀ (args : Array Value) (s t : State), L.after args s (.returned (some (.int 1))) t = true) :
    ArmFor flags0 classFile x code maxLocals ret World_1 tables_1 room_1 Calls_1 rest_1 Pre_1
      (fun tb e a s o t => postC L tb e a s o t ∧ Framed s o t (fieldLocs frame_1_writes a s ++ arrayLocs frame_1_arrays a s ++ staticLocs frame_1_statics s) 1070 27272) := by
  intro l hfl _ _ p e ha hc hk s m args below hf hfit hheap happ hpre
  obtain ⟨k, o, h1, h2, h3, rfl, hF⟩ := lw_comes l (tn_notrace hfl) p e ha hc hk s m args below hf hfit hheap happ hpre
  exact ⟨k, _, h1, h2, h3, hL args s _, lw_frame hF⟩
theorem i_vc : Claimed_1_1 ∧ Claimed_1_2 := ⟨lw_limb limb_1_1 (fun args s t => by simp [limb_1_1, Cond.after, Cond.holds, Cond.value]), lw_limb limb_1_2 (fun args s t => Cond.after_iff.mpr (by
  first | (rw [show limb_1_2 = Cond.eq .result (.int 1) from rfl, Cond.eq_ints (x := 1) (y := 1) rfl rfl]; simp; done) | (simp [limb_1_2, Cond.value, Term.eval]; done)))⟩
