/-! THE THROWS: what a throw needs is carried along (tn_EX); the eight places where the class throws. -/
def tn_rx : ByteArray := ⟨#[0x2a, 0x2b, 0xb7, 0x00, 0x0d, 0xb1]⟩
theorem tn_rx0 : decode tn_rx 0 = .ok (.aload_n 0, 1) := by decide +kernel
theorem tn_rx1 : decode tn_rx 1 = .ok (.aload_n 1, 1) := by decide +kernel
theorem tn_rx2 : decode tn_rx 2 = .ok (.invokespecial 13, 3) := by decide +kernel
theorem tn_rx5 : decode tn_rx 5 = .ok (.return_, 1) := by decide +kernel
/-- the words of a throw of a class whose constructor has the bytes rx and links its parent Y's at ix -/
def tn_ownX (own : String) (ic : Nat) (X : String) (ix : Nat) (rx : ByteArray) (Y : String) (r : List String) : List Cond :=
  (Bundle.throwableAtoms ++ Bundle.throwableSAtoms) ++ ((Bundle.passSAtoms X Y ix rx ++ Bundle.chainSAtoms Y r) ++
  [.instantiable X 6, .methodLink own ic (Bundle.initS X), .castable X X, .selects X Bundle.tFill Bundle.tFill, .selects X Bundle.tFill0 Bundle.tFill0,
   .lays X Bundle.tN "stackTrace" Bundle.steD, .lays X Bundle.tN "cause" "Ljava/lang/Throwable;", .lays X Bundle.tN "detailMessage" "Ljava/lang/String;", .lays X Bundle.tN "suppressedExceptions" Bundle.listD, .lays X Bundle.tN "backtrace" "Ljava/lang/Object;",
   .lays Bundle.tN Bundle.tN "backtrace" "Ljava/lang/Object;", .fieldLink Bundle.tN 198 Bundle.tN "backtrace" "Ljava/lang/Object;",
   .isRef (.static Bundle.tN "UNASSIGNED_STACK" Bundle.steD), .isRef (.static Bundle.tN "SUPPRESSED_SENTINEL" Bundle.listD)])
theorem tn_chainX {args : Array Value} {s : State} {pl : Platform} (hpl : pl.magicAccessors = ({} : Platform).magicAccessors) {top : MethodId} (htop : s.methodNamed? (Bundle.initS Bundle.tN) = some top)
    {ix : Nat} {rx : ByteArray} (x0 : decode rx 0 = .ok (.aload_n 0, 1)) (x1 : decode rx 1 = .ok (.aload_n 1, 1)) (x2 : decode rx 2 = .ok (.invokespecial ix, 3)) (x5 : decode rx 5 = .ok (.return_, 1)) {X Y : String} {r : List String}
    (hX : Bundle.fit X = true) (hY : Bundle.fit Y = true) (hr : ∀ n ∈ r, Bundle.fit n = true) (h1 : ∀ c ∈ Bundle.passSAtoms X Y ix rx, c.before args s = true) (h2 : ∀ c ∈ Bundle.chainSAtoms Y r, c.before args s = true) :
    ∃ (P1 : PassC) (Ps : List PassC), Ps.length = r.length + 1 ∧ P1.LinksS pl s ∧ (∀ P, P ∈ Ps → P.LinksS pl s) ∧ s.methodNamed? (Bundle.initS X) = some P1.m ∧ P1.sup = firstOf top (Ps.map (·.toPassT)) ∧ PassesOn top (Ps.map (·.toPassT)) := by
  obtain ⟨P', Ps, k1, k2, k3, k4, k5, k6⟩ := Bundle.chainS (args := args) hpl htop r Y hY hr h2
  obtain ⟨P, g1, g2, g3⟩ := PassC.ofS_atoms (args := args) (s := s) hpl (X := X) (Y := Y) (Bundle.fit_spec hX).1 (Bundle.fit_spec hY).2 x0 x1 x2 x5 h1
  refine ⟨P, P' :: Ps, by rw [List.length_cons, k1], g1, fun Q hQ => ?_, g2, Option.some.inj (g3.symm.trans k4), k5, k6⟩
  rcases List.mem_cons.mp hQ with rfl | hQ
  · exact k2
  · exact k3 Q hQ
set_option maxHeartbeats 1000000 in
/-- a constructor whose own file links its parent's at another place: the new object is thrown, of its class -/
theorem tn_ctorX {p : Program} {l : Launch} {e : Env} {R : Room} {s : State} {m0 : MethodId} {args : Array Value} {below : List Frame} {meth : Method} {c : Code} {V : State} {locs : List Loc} {cells slots : Nat}
    (X : Stand p l e R s m0 args below meth c V locs cells slots) (hexec : p.tables.exec = Jvm.exec) (htr : e.platform.stackTraces = false) {own cls par : String} {up : List String} {ic : Nat}
    {ix : Nat} {rx : ByteArray} (x0 : decode rx 0 = .ok (.aload_n 0, 1)) (x1 : decode rx 1 = .ok (.aload_n 1, 1)) (x2 : decode rx 2 = .ok (.invokespecial ix, 3)) (x5 : decode rx 5 = .ok (.return_, 1))
    (hown : s.vm.findClass own = some m0.cls) (hcls : Bundle.fit cls = true) (hpar : Bundle.fit par = true) (hup : ∀ n ∈ up, Bundle.fit n = true)
    (h : ∀ a ∈ tn_ownX own ic cls ix rx par up, a.before args s = true)
    (hlocs : ∀ x ∈ locs, ∀ cell, s.heap[x.base]? = some cell → cell.vm.isStatics = false)
    {a : Addr} {cX : ClassId} {kX : Class} (hfoundX : s.vm.findClass cls = some cX) (hkX : s.vm.classes[cX]? = some kX) (hcell : V.heap[a]? = some (freshCell cX kX)) (hnew : s.heap.size ≤ a)
    {msg : Value} (hmsg : msg.isRef = true)
    {g : JFrame} (hg : g.method = m0) (hsize : g.locals.size = c.maxLocals) (hlocked : g.locked = none) (hentered : g.entered = []) {rest : List Value} (hstack : g.stack = msg :: .ref a :: .ref a :: rest)
    (hd6 : decode c.code g.pc = .ok (.invokespecial ic, 3)) (hd9 : decode c.code (g.pc + 3) = .ok (.athrow, 1)) (hout : ∀ x ∈ c.exceptionTable.toList, covers x (g.pc + 3) = false)
    (hRframes : (up.length + 1) + 3 < R.frames) (hRlocals : 2 * g.monitorRoom + ((Value.ref a :: rest).map fun v => v.category).sum + (13 * ((up.length + 1) + 1) + 42) ≤ R.locals) (hlocks : meth.locks = false) :
    ∃ U : State, Steps p.tables e below (V.setTop g) U ∧ U.status = .running ∧ Ended U below (.threw a) ∧ s.WarmedH U.vm ∧ s.sameButNew ({ U with vm := s.vm } : State) locs cells slots ∧
      ∃ ce, U.heap[a]? = some ce ∧ ce.vm = .none ∧ s.vm.findClass cls = some ce.cls := by
  have hpl : e.platform.magicAccessors = ({} : Platform).magicAccessors := by rw [X.admits.platform]
  have aw : ∀ x, x ∈ tn_ownX own ic cls ix rx par up → x.holds args s none s [] = true := fun x hx => h x hx
  obtain ⟨T, Z0, L, -, Y⟩ := ThrowableC.of_atoms (args := args) (by rw [X.admits.platform]) (by rw [X.admits.platform]) hpl (fun x hx => h x (by simp [tn_ownX, hx]))
  obtain ⟨Z, M, LZ, LM, hnZ⟩ := Init0T.ofS_atoms (args := args) hpl L Y (fun x hx => h x (by simp [tn_ownX, hx]))
  obtain ⟨P1, Ps, hlen, L1, hL, hP1m, hlink1, hlink⟩ := tn_chainX (args := args) hpl hnZ x0 x1 x2 x5 hcls hpar hup (fun x hx => h x (by simp [tn_ownX, hx])) (fun x hx => h x (by simp [tn_ownX, hx]))
  have hfound : s.vm.findClass cls = some P1.m.cls := findClass_of_methodNamed hP1m
  cases Option.some.inj (hfoundX.symm.trans hfound)
  obtain ⟨c1, kX', hc1, hk, hord, -, -, hn6⟩ := Cond.instantiable_spec (aw (.instantiable cls 6) (by simp [tn_ownX]))
  cases Option.some.inj (hc1.symm.trans hfound)
  cases Option.some.inj (hkX.symm.trans hk)
  have sel : ∀ (y : MethodName) (mf : MethodId), Cond.selects cls y y ∈ tn_ownX own ic cls ix rx par up → s.methodNamed? y = some mf → s.methodFound? y.cls y.name y.desc = some mf → selectMethod e.platform s.vm P1.m.cls mf = .method mf := by
    intro y mf hy h1 h2
    obtain ⟨c2, r2, m2, q1, q2, q3, q4, -⟩ := Cond.selects_spec (aw _ hy)
    cases Option.some.inj (q1.symm.trans hfound)
    cases Option.some.inj (q2.symm.trans h2)
    cases Option.some.inj (q3.symm.trans h1)
    rw [Launch.admits_selectMethod X.admits]
    exact q4
  have hsel0 := sel Bundle.tFill0 T.fill0 (by simp [tn_ownX]) Y.fill0 (State.methodFound?_of_named Y.fill0 (by decide))
  have hselF := sel Bundle.tFill T.fill (by simp [tn_ownX]) Y.fill (State.methodFound?_of_named Y.fill (by decide))
  obtain ⟨cellS0, hcS0, hiss⟩ := Y.statics
  obtain ⟨u0, hu0⟩ := Cond.staticRefV Y.unassigned L.unassignedStatic L.statics hcS0 hiss (aw (.isRef (.static Bundle.tN "UNASSIGNED_STACK" Bundle.steD)) (by simp [tn_ownX]))
  obtain ⟨sen, hsen⟩ := Cond.staticRefV Y.sentinel L.sentinelStatic L.statics hcS0 hiss (aw (.isRef (.static Bundle.tN "SUPPRESSED_SENTINEL" Bundle.listD)) (by simp [tn_ownX]))
  obtain ⟨ci198, i198, fB, hk198, hg198, ha198, hsB, -, hnB, htB, hffB⟩ := Cond.ownField (t := .object "java/lang/Object") Y.found L.cls (by decide +kernel) (aw (.fieldLink Bundle.tN 198 Bundle.tN "backtrace" "Ljava/lang/Object;") (by simp [tn_ownX])) (aw (.lays Bundle.tN Bundle.tN "backtrace" "Ljava/lang/Object;") (by simp [tn_ownX])) e.platform hpl
  obtain ⟨cellS, hcS', heS, -, hkeep⟩ := X.same.2.2.2.2.2 T.aS cellS0 hcS0
  have hcellS : V.heap[T.aS]? = some cellS := hcS'
  have hout' : ∀ i, (⟨T.aS, i⟩ : Loc) ∉ locs := fun i hmem => by
    have h9 := hlocs _ hmem cellS0 hcS0
    rw [hiss] at h9
    cases h9
  have hknownS : cellS.vm ≠ .unknown := by
    rw [heS]
    intro hu
    rw [show cellS0.vm = .unknown from hu] at hiss
    cases hiss
  have hneS : T.aS ≠ a := Nat.ne_of_lt (Nat.lt_of_lt_of_le (Array.getElem?_eq_some_iff.mp hcS0).1 hnew)
  obtain ⟨iM, hffM⟩ := Y.msg
  obtain ⟨tyC, dC, hdC, hdnC⟩ := Cond.laysAt hfound hk Y.cause (aw (.lays cls Bundle.tN "cause" "Ljava/lang/Throwable;") (by simp [tn_ownX]))
  obtain ⟨tyS, dS, hdS, hdnS⟩ := Cond.laysAt hfound hk Y.stack (aw (.lays cls Bundle.tN "stackTrace" Bundle.steD) (by simp [tn_ownX]))
  obtain ⟨tyP, dP, hdP, hdnP⟩ := Cond.laysAt hfound hk Y.supp (aw (.lays cls Bundle.tN "suppressedExceptions" Bundle.listD) (by simp [tn_ownX]))
  obtain ⟨tyM, dM, hdM, hdnM⟩ := Cond.laysAt hfound hk hffM (aw (.lays cls Bundle.tN "detailMessage" "Ljava/lang/String;") (by simp [tn_ownX]))
  obtain ⟨tyB, dB, hdB, hdnB⟩ := Cond.laysAt hfound hk hffB (aw (.lays cls Bundle.tN "backtrace" "Ljava/lang/Object;") (by simp [tn_ownX]))
  have bC := Cond.laysApart hdB hdC hdnB hdnC (by rw [hnB, Y.causeName]; decide)
  have bS := Cond.laysApart hdB hdS hdnB hdnS (by rw [hnB, Y.stackName]; decide)
  have bP := Cond.laysApart hdB hdP hdnB hdnP (by rw [hnB, Y.suppName]; decide)
  have hskip : SkipFacts T e.platform s (fun u => u) u0 ((preparedCellV T.toThrowableT (freshCell P1.m.cls kX) a u0 sen).withEntry V.cur) :=
    ⟨{ ci198 := ci198, i198 := i198, fBack := fB }, ⟨hk198, hg198, ha198, hsB⟩, by
      have h9 := fresh_default (c := P1.m.cls) tyB
      rw [htB] at h9
      simpa [preparedCellV, Cell.setSlot, Cell.withEntry, Array.getElem?_setIfInBounds, bC, bS, bP, bC.symm, bS.symm, bP.symm, defaultValue] using h9, fun _ _ => rfl⟩
  obtain ⟨tm, methC, cdC, kC, vm1, hnC, -, -, -, -, -, -, -, hW1, st1⟩ := Steps.initColdS (tb := p.tables) (e := e) (below := below) (s := s) (U := V) X.here hexec X.warmed hpl hown (t := Bundle.initS cls) rfl rfl (Bundle.fit_spec hcls).2
    (aw (.methodLink own ic (Bundle.initS cls)) (by simp [tn_ownX])) (h (.instanceMethod (Bundle.initS cls)) (by simp [tn_ownX, Bundle.passSAtoms])) (bytes := rx) (maxL := 2) (h (.code (Bundle.initS cls) rx 2 none) (by simp [tn_ownX, Bundle.passSAtoms]))
    (f := g) hg (a := a) (msg := msg) (rest := .ref a :: rest) hstack hd6
  cases Option.some.inj (hnC.symm.trans hP1m)
  obtain ⟨vm2, X2, st2⟩ := (X.noted hW1).ctorMessageOffV hexec (g := { g with stack := .ref a :: rest }) hg hsize T L Z LZ M LM (P1 :: Ps)
    (fun P hP => by rcases List.mem_cons.mp hP with rfl | hP; exact L1; exact hL P hP) ⟨hlink1, hlink⟩ (u0 := u0) (sen := sen) (self := a) hmsg (cell := freshCell P1.m.cls kX) (cellS := cellS)
    hcell (fun _ => by simp) (by simp) rfl rfl hsel0 hselF hcellS hneS hknownS (by rw [hkeep _ (hout' _)]; exact hu0) (by rw [hkeep _ (hout' _)]; exact hsen)
    (Takes.of_laid hk hord tyC (by rw [Y.causeType]; rfl)) (Takes.of_laid hk hord tyS (by rw [Y.stackType]; exact fits_refV_array _ u0)) (Takes.of_laid hk hord tyP (by rw [Y.suppType]; exact fits_refV_object _ sen))
    (Takes.of_laid hk hord tyM (by rw [Y.msgType]; exact fits_refV_object _ ⟨msg, hmsg⟩)) Y.objLocals hskip htr [] hd6
    (by simp only [List.length_cons, hlen]; omega) (by simp only [List.length_cons, hlen]; exact hRlocals)
  obtain ⟨hwalk, hrun, hended, hWU, hsame⟩ := X2.athrowLeaves hexec (g := { g with stack := .ref a :: rest, pc := g.pc + 3 }) hg hlocked hentered hout (a := a) (rest := rest) rfl hd9
  have hlt : a < ((V.setVm vm1).setVm vm2).heap.size := (Array.getElem?_eq_some_iff.mp hcell).1
  have hU := heapAt_setCell_self (s := (V.setVm vm1).setVm vm2) (plainBareV T.toThrowableT (freshCell P1.m.cls kX) a u0 sen msg) hlt
  refine ⟨_, st1 _ (fun acts => ?_), hrun, hended, hWU, hsame.weaken (fun y hy hlt' => ?_) (Nat.le_refl _) (Nat.le_refl _), _, hU, rfl, hfound⟩
  · rw [doInvoke_state]
    exact st2 _ hwalk
  · rcases List.mem_append.mp hy with h1 | h1
    · exact h1
    · exfalso
      have hb : y.base = a := by
        simp only [List.mem_cons, List.not_mem_nil, or_false] at h1
        rcases h1 with rfl | rfl | rfl | rfl | rfl <;> rfl
      rw [hb] at hlt'
      exact Nat.not_lt.mpr hnew hlt'
def tn_atX (own : String) (ic : Nat) (X : String) (ix : Nat) (rx : ByteArray) (par : String) (up : List String) : List Cond := (tn_ownX own ic X ix rx par up).filter vx_no
set_option maxHeartbeats 1000000 in
/-- 'throw new E("text")' of such a class -/
theorem tn_throwX {p : Program} {l : Launch} {e : Env} {R : Room} {s : State} {m : MethodId} {args : Array Value} {below : List Frame} {meth : Method} {c : Code} {H : Heap} {locs : List Loc} {cells slots : Nat} {free : Addr → Prop} {ls : Array Slot} {rest : List Value} {Qc : Array Value → State → Outcome → State → Prop} {XC : String → State → State → Prop}
    {cc : ByteArray} {pc : Nat} (hexec : p.tables.exec = Jvm.exec) (hb : c.code = cc) (hl : l.stackTraces = false) {own cls text par : String} {up : List String} {ik is ic ix mc ms sa : Nat} {rx : ByteArray} {A : Nat → Prop}
    (x0 : decode rx 0 = .ok (.aload_n 0, 1)) (x1 : decode rx 1 = .ok (.aload_n 1, 1)) (x2 : decode rx 2 = .ok (.invokespecial ix, 3)) (x5 : decode rx 5 = .ok (.return_, 1))
    (hown : s.vm.findClass own = some m.cls) (hcls : Bundle.fit cls = true) (hpar : Bundle.fit par = true) (hup : ∀ n ∈ up, Bundle.fit n = true)
    (hk : (Cond.classLink own ik cls).before args s = true) (hini : (Cond.initialized cls).before args s = true) (hstr : vk_R own is text sa s) (hat : ∀ w ∈ tn_atX own ic cls ix rx par up, w.before args s = true)
    (hgood : ∀ w ∈ Cond.classLink own ik cls :: Cond.initialized cls :: tn_atX own ic cls ix rx par up, vx_ot w = true)
    (hU : vx_Zq Bundle.tN "UNASSIGNED_STACK" Bundle.steD A s s.heap) (hN : vx_Zq Bundle.tN "SUPPRESSED_SENTINEL" Bundle.listD A s s.heap) (hS : va_S A s.heap H locs) (hsize : ls.size = c.maxLocals)
    (d0 : decode cc pc = .ok (.new ik, 3)) (d3 : decode cc (pc + 3) = .ok (.dup, 1)) (d4 : decode cc (pc + 4) = .ok (.ldc is, 2)) (d6 : decode cc (pc + 6) = .ok (.invokespecial ic, 3)) (d9 : decode cc (pc + 9) = .ok (.athrow, 1))
    (hout : ∀ x ∈ c.exceptionTable.toList, covers x (pc + 9) = false)
    (hRframes : (up.length + 1) + 3 < R.frames) (hRlocals : (rest.map fun v => v.category).sum + (13 * ((up.length + 1) + 1) + 43) ≤ R.locals) (hRcells : cells + 1 ≤ R.cells) (hRslots : slots + 6 ≤ R.slots) (hlocks : meth.locks = false)
    (hx : ∀ t : State, s.vm.Alike t.vm → H.size ≤ t.heap.size → (∀ q : Nat, q < H.size → t.heap[q]? = H[q]?) → XC cls s t)
    (hf : ∀ z ∈ locs, free z.base) (hc : cells + 1 ≤ mc) (hs : slots + 6 ≤ ms) :
    W p l e R s m args below meth c H locs cells slots (vx_MQ below Qc XC args s mc ms free) (F0 m pc ls rest) := by
  intro T hT X
  have htr : e.platform.stackTraces = false := (show e.platform.stackTraces = l.stackTraces by rw [X.admits.platform]).trans hl
  have Y := vx_rebase X (R' := { frames := R.frames, locals := R.locals, cells := 1, slots := 6 }) (Nat.le_refl _) (Nat.le_refl _) hRcells hRslots
  obtain ⟨s', hA⟩ : ∃ z, z = (T.setVm s.vm).setFrames (.invoking m args :: below) := ⟨_, rfl⟩
  rw [← hA] at Y
  have hvm : s'.vm = s.vm := by rw [hA]; rfl
  have hhp : s'.heap = H := by rw [hA]; exact hT
  have hW0 : s.WarmedH s'.vm := by rw [hvm]; exact State.WarmedH.refl s
  have hat' : ∀ w ∈ tn_atX own ic cls ix rx par up, w.before args s' = true := fun w hw => vx_ot_at hW0 hvm.symm (hgood w (List.mem_cons_of_mem _ (List.mem_cons_of_mem _ hw))) (hat w hw)
  have hk' : (Cond.classLink own ik cls).before args s' = true := vx_ot_at hW0 hvm.symm (hgood _ List.mem_cons_self) hk
  have hini' : (Cond.initialized cls).before args s' = true := vx_ot_at hW0 hvm.symm (hgood _ (List.mem_cons_of_mem _ List.mem_cons_self)) hini
  have hU' : vx_Zq Bundle.tN "UNASSIGNED_STACK" Bundle.steD A s' s'.heap := by rw [hhp]; exact vx_Zq.moved hW0.alike (hU.kept hS.2.1)
  have hN' : vx_Zq Bundle.tN "SUPPRESSED_SENTINEL" Bundle.listD A s' s'.heap := by rw [hhp]; exact vx_Zq.moved hW0.alike (hN.kept hS.2.1)
  have h : ∀ w ∈ tn_ownX own ic cls ix rx par up, w.before args s' = true := vx_own hat' (vx_isRefq hU'.1) (vx_isRefq hN'.1) hU'.2.word hN'.2.word
  have hown' : s'.vm.findClass own = some m.cls := by rw [hvm]; exact hown
  have hins : (Cond.instantiable cls 6).before args s' = true := h _ (by simp [tn_ownX])
  obtain ⟨vm1, cX, kX, hfX, hkX, -, -, X1, st1⟩ := Y.newCold hexec (own := own) (C := cls) (index := ik) (n := 6) hown' hk' hins hini'
    (g := F0 m pc ls rest) rfl (by rw [hb]; exact d0) (Nat.le_refl _) (Nat.le_refl _)
  generalize hT1 : (T.setVm vm1).pushCell { cls := cX, slots := kX.instanceTypes.map defaultValue, vm := .none } = T1 at X1 st1
  have hcat : (Value.ref T.heap.size).category = 1 := rfl
  have hcellA : T1.heap[T.heap.size]? = some (freshCell cX kX) := by rw [← hT1]; exact State.heap_pushCell_size _ _
  have d3' : decode c.code (pc + 3) = .ok (.dup, 1) := by rw [hb]; exact d3
  have d4' : decode c.code (pc + 4) = .ok (.ldc is, 2) := by rw [hb]; exact d4
  have hstr' : vk_R own is text sa s' := vk_R.warm hW0 hstr
  obtain ⟨U, hsteps, hrun, hend, hW, hsame, ce, hce, hO1, hO2⟩ := tn_ctorX X1 hexec htr (own := own) (cls := cls) (par := par) (up := up) (ic := ic) x0 x1 x2 x5 hown' hcls hpar hup h (fun x hx => nomatch hx) hfX hkX hcellA (by rw [hhp, hT]; exact Nat.le_refl _) (msg := .ref sa) rfl
    (g := { method := m, pc := pc + 6, locals := ls, stack := .ref sa :: .ref T.heap.size :: .ref T.heap.size :: rest, locked := none }) rfl hsize rfl rfl (rest := rest) rfl
    (by rw [hb]; exact d6) (by rw [hb]; exact d9) hout hRframes (by simp only [List.map_cons, List.sum_cons, hcat]; omega) hlocks
  obtain ⟨f1, f2⟩ := vx_frame hsame
  rw [hhp] at f1 f2
  have hWs : s.WarmedH U.vm := State.WarmedH.trans hW0 hW
  have hcl : s.vm.findClass cls = some ce.cls := by
    rw [hvm] at hO2
    exact hO2
  have hall : s.sameButNew ({ U with vm := s.vm } : State) locs mc ms := by
    subst hA
    obtain ⟨e1, e2⟩ := hsame
    rw [State.setFrames_setFrames] at e1
    have h2 : (T.setVm s.vm).sameButNew ({ U with vm := s.vm } : State) [] (0 + 1) (0 + 6) := ⟨e1, e2⟩
    have h3 := X.same.trans h2
    rw [List.append_nil] at h3
    exact h3.mono hc hs
  refine ⟨U, ?_, .threw T.heap.size, hrun, hend, Or.inr ⟨T.heap.size, rfl, cls, ce, locs, hx U hWs.alike f1 (fun q hq => f2 q hq (fun z hz => nomatch hz)), hce, hO1, hcl, hWs, hall, hf⟩⟩
  refine st1 _ ?_
  show Steps p.tables e below (T1.setTop { method := m, pc := pc + 3, locals := ls, stack := .ref T.heap.size :: rest, locked := none }) _
  jvm_step X1.here [X1.here.top, hexec, d3', Value.category]
  exact X1.ldcString hexec (own := own) (text := text) (index := is) (a := sa) hown' hstr'.1 hstr'.2
    (g := { method := m, pc := pc + 4, locals := ls, stack := .ref T.heap.size :: .ref T.heap.size :: rest, locked := none }) rfl d4' _ hsteps
def tn_up : List String := ["java/lang/RuntimeException", "java/lang/Exception"]
def tn_IAE : String := "java/lang/IllegalArgumentException"
def tn_IOE : String := "java/lang/IndexOutOfBoundsException"
def tn_NSE : String := "java/util/NoSuchElementException"
/-- words that are not good, but keep: what a throw and a catch need -/
def tn_EW : List Cond := [.declares (Bundle.initS "java/lang/RuntimeException"), .declares (Bundle.initS "java/lang/Exception"), .declares (Bundle.initS "java/lang/Throwable"), .castable tn_IAE tn_IAE, .castable tn_IOE tn_IOE, .castable tn_NSE tn_NSE]
def tn_EK : List (Nat × String) := [(60, "no such number of parts"), (70, "too many signs"), (177, "too many terms"), (92, "no such sign or part"), (175, "no such term"), (145, "no such part"), (165, "too many points"), (167, "no point")]
/-- what throws need: carried along -/
def tn_EX (A : Nat → Prop) (U : State) (H : Heap) : Prop :=
  (∀ w ∈ tn_EW, va_Nw w U) ∧ vx_Zq Bundle.tN "UNASSIGNED_STACK" Bundle.steD A U H ∧ vx_Zq Bundle.tN "SUPPRESSED_SENTINEL" Bundle.listD A U H ∧ (∀ q ∈ tn_EK, ∃ a, vk_R "TermNet" q.1 q.2 a U) ∧ va_Nc tn_IOE tn_IAE U ∧ va_Nc tn_NSE tn_IAE U
theorem tn_EW_warm : ∀ w ∈ tn_EW, ∀ {u U : State}, u.WarmedH U.vm → va_Nw w u → va_Nw w U := by
  intro w hw u U hW h
  simp only [tn_EW, List.mem_cons, List.not_mem_nil, or_false] at hw
  rcases hw with rfl | rfl | rfl | rfl | rfl | rfl
  · exact va_Nw.warmD hW h
  · exact va_Nw.warmD hW h
  · exact va_Nw.warmD hW h
  · exact va_Nw.warmC hW h
  · exact va_Nw.warmC hW h
  · exact va_Nw.warmC hW h
theorem tn_EX_ok : am_EX tn_EX := by
  intro A B u U H0 H1 h hW hk hAB
  obtain ⟨h1, h2, h3, h4, h5, h6⟩ := h
  exact ⟨fun w hw => tn_EW_warm w hw hW (h1 w hw), vx_Zq.moved hW.alike ((h2.kept hk).narrow hAB), vx_Zq.moved hW.alike ((h3.kept hk).narrow hAB), fun q hq => by obtain ⟨a, ha⟩ := h4 q hq; exact ⟨a, vk_R.warm hW ha⟩, h5.moved hW.alike, h6.moved hW.alike⟩
theorem tn_EW_tab : ∀ w ∈ tn_EW, w.onTables = true := by decide +kernel
theorem tn_at_IAE : ∀ w ∈ (vx_atS "TermNet" 62 tn_IAE tn_up).filter goodWord, w ∈ tn_TS := fun w h => List.mem_filter.mpr ⟨(by decide +kernel : ∀ w ∈ (vx_atS "TermNet" 62 tn_IAE tn_up).filter goodWord, w ∈ lw_tbl) w h, (List.mem_filter.mp h).2⟩
theorem tn_at_IOE : ∀ w ∈ (vx_atS "TermNet" 72 tn_IOE tn_up).filter goodWord, w ∈ tn_TS := fun w h => List.mem_filter.mpr ⟨(by decide +kernel : ∀ w ∈ (vx_atS "TermNet" 72 tn_IOE tn_up).filter goodWord, w ∈ lw_tbl) w h, (List.mem_filter.mp h).2⟩
theorem tn_at_NSE : ∀ w ∈ (tn_atX "TermNet" 147 tn_NSE 13 tn_rx "java/lang/RuntimeException" ["java/lang/Exception"]).filter goodWord, w ∈ tn_TS := fun w h => List.mem_filter.mpr ⟨(by decide +kernel : ∀ w ∈ (tn_atX "TermNet" 147 tn_NSE 13 tn_rx "java/lang/RuntimeException" ["java/lang/Exception"]).filter goodWord, w ∈ lw_tbl) w h, (List.mem_filter.mp h).2⟩
theorem tn_ew_IAE : ∀ w ∈ (vx_atS "TermNet" 62 tn_IAE tn_up).filter (fun w => !goodWord w), w ∈ tn_EW := by decide +kernel
theorem tn_ew_IOE : ∀ w ∈ (vx_atS "TermNet" 72 tn_IOE tn_up).filter (fun w => !goodWord w), w ∈ tn_EW := by decide +kernel
theorem tn_ew_NSE : ∀ w ∈ (tn_atX "TermNet" 147 tn_NSE 13 tn_rx "java/lang/RuntimeException" ["java/lang/Exception"]).filter (fun w => !goodWord w), w ∈ tn_EW := by decide +kernel
theorem tn_ot_IAE : ∀ w ∈ Cond.classLink "TermNet" 58 tn_IAE :: Cond.initialized tn_IAE :: vx_atS "TermNet" 62 tn_IAE tn_up, vx_ot w = true := by decide +kernel
theorem tn_ot_IOE : ∀ w ∈ Cond.classLink "TermNet" 68 tn_IOE :: Cond.initialized tn_IOE :: vx_atS "TermNet" 72 tn_IOE tn_up, vx_ot w = true := by decide +kernel
theorem tn_ot_NSE : ∀ w ∈ Cond.classLink "TermNet" 143 tn_NSE :: Cond.initialized tn_NSE :: tn_atX "TermNet" 147 tn_NSE 13 tn_rx "java/lang/RuntimeException" ["java/lang/Exception"], vx_ot w = true := by decide +kernel
theorem tn_tsm {w : Cond} (h : decide (w ∈ lw_tbl) && goodWord w = true) : w ∈ tn_TS := by
  simp only [Bool.and_eq_true, decide_eq_true_eq] at h
  exact List.mem_filter.mpr h
theorem tn_cl_IAE : Cond.classLink "TermNet" 58 tn_IAE ∈ tn_TS ∧ Cond.initialized tn_IAE ∈ tn_TS := ⟨tn_tsm (by decide +kernel), tn_tsm (by decide +kernel)⟩
theorem tn_cl_IOE : Cond.classLink "TermNet" 68 tn_IOE ∈ tn_TS ∧ Cond.initialized tn_IOE ∈ tn_TS := ⟨tn_tsm (by decide +kernel), tn_tsm (by decide +kernel)⟩
theorem tn_cl_NSE : Cond.classLink "TermNet" 143 tn_NSE ∈ tn_TS ∧ Cond.initialized tn_NSE ∈ tn_TS := ⟨tn_tsm (by decide +kernel), tn_tsm (by decide +kernel)⟩
theorem tn_upfit : ∀ n ∈ tn_up, Bundle.fit n = true := by decide +kernel
/-- one place where the class throws: what TH says of it -/
def tn_th1 (l : Launch) (M : am_M) (pc : Nat) (E : String) : Prop := ∀ (p : Program) (e : Env) (s : State) (m : MethodId) (args : Array Value) (below : List Frame) (meth : Method) (cd : Code) (H : Heap) (locs : List Loc) (A : Nat → Prop) (ls : Array Slot) (rest : List Value) (nc : Nat) (Qc : Array Value → State → Outcome → State → Prop) (XC : String → State → State → Prop),
    am_B tn_TS tn_NS M p s m args meth cd → tn_EX A s s.heap → va_S A s.heap H locs → ls.size = M.2.2.1 → (rest.map fun v => v.category).sum ≤ 8 → nc + 1 ≤ M.2.2.2.2.2.cells →
    (∀ t : State, s.vm.Alike t.vm → H.size ≤ t.heap.size → (∀ q : Nat, q < H.size → t.heap[q]? = H[q]?) → XC E s t) →
    W p l e M.2.2.2.2.2 s m args below meth cd H locs nc (6 * nc) (vx_MQ below Qc XC args s M.2.2.2.2.2.cells M.2.2.2.2.2.slots A) (F0 m pc ls rest)
theorem tn_th_IAE {l : Launch} (hl : l.stackTraces = false) {M : am_M} {pc is : Nat} {tx : String} (hM : M.1.cls = "TermNet") (hk : (is, tx) ∈ tn_EK)
    (d0 : decode M.2.1 pc = .ok (.new 58, 3)) (d3 : decode M.2.1 (pc + 3) = .ok (.dup, 1)) (d4 : decode M.2.1 (pc + 4) = .ok (.ldc is, 2)) (d6 : decode M.2.1 (pc + 6) = .ok (.invokespecial 62, 3)) (d9 : decode M.2.1 (pc + 9) = .ok (.athrow, 1))
    (hf : 5 < M.2.2.2.2.2.frames) (hlo : 90 ≤ M.2.2.2.2.2.locals) (hsl : M.2.2.2.2.2.slots = 6 * M.2.2.2.2.2.cells) : tn_th1 l M pc tn_IAE := by
  intro p e s m args below meth cd H locs A ls rest nc Qc XC hB hE hS hls hct hnc hX
  obtain ⟨hx, hb, hr, hml, hown, hts, hns, hlocks, hnoex⟩ := hB
  obtain ⟨h1, h2, h3, h4, h5, h6⟩ := hE
  obtain ⟨a, ha⟩ := h4 (is, tx) hk
  rw [hM] at hown
  exact vx_throwS (own := "TermNet") (cls := tn_IAE) (names := tn_up) hx hb hl hown (by decide +kernel) tn_upfit (hts _ tn_cl_IAE.1) (hts _ tn_cl_IAE.2) ha
    (vx_hat (fun w hw => hts w (tn_at_IAE w hw)) tn_ew_IAE (fun w hw => va_Nw.use (tn_EW_tab w hw) (h1 w hw))) tn_ot_IAE h2 h3 hS (hls.trans hml.symm) d0 d3 d4 d6 d9 (fun x hx => (hnoex x hx).elim)
    (by simp only [tn_up, List.length_cons, List.length_nil]; omega) (by simp only [tn_up, List.length_cons, List.length_nil]; omega) hnc (by rw [hsl]; omega) hlocks hX hS.2.2 hnc (by rw [hsl]; omega)
theorem tn_th_IOE {l : Launch} (hl : l.stackTraces = false) {M : am_M} {pc is : Nat} {tx : String} (hM : M.1.cls = "TermNet") (hk : (is, tx) ∈ tn_EK)
    (d0 : decode M.2.1 pc = .ok (.new 68, 3)) (d3 : decode M.2.1 (pc + 3) = .ok (.dup, 1)) (d4 : decode M.2.1 (pc + 4) = .ok (.ldc is, 2)) (d6 : decode M.2.1 (pc + 6) = .ok (.invokespecial 72, 3)) (d9 : decode M.2.1 (pc + 9) = .ok (.athrow, 1))
    (hf : 5 < M.2.2.2.2.2.frames) (hlo : 90 ≤ M.2.2.2.2.2.locals) (hsl : M.2.2.2.2.2.slots = 6 * M.2.2.2.2.2.cells) : tn_th1 l M pc tn_IOE := by
  intro p e s m args below meth cd H locs A ls rest nc Qc XC hB hE hS hls hct hnc hX
  obtain ⟨hx, hb, hr, hml, hown, hts, hns, hlocks, hnoex⟩ := hB
  obtain ⟨h1, h2, h3, h4, h5, h6⟩ := hE
  obtain ⟨a, ha⟩ := h4 (is, tx) hk
  rw [hM] at hown
  exact vx_throwS (own := "TermNet") (cls := tn_IOE) (names := tn_up) hx hb hl hown (by decide +kernel) tn_upfit (hts _ tn_cl_IOE.1) (hts _ tn_cl_IOE.2) ha
    (vx_hat (fun w hw => hts w (tn_at_IOE w hw)) tn_ew_IOE (fun w hw => va_Nw.use (tn_EW_tab w hw) (h1 w hw))) tn_ot_IOE h2 h3 hS (hls.trans hml.symm) d0 d3 d4 d6 d9 (fun x hx => (hnoex x hx).elim)
    (by simp only [tn_up, List.length_cons, List.length_nil]; omega) (by simp only [tn_up, List.length_cons, List.length_nil]; omega) hnc (by rw [hsl]; omega) hlocks hX hS.2.2 hnc (by rw [hsl]; omega)
theorem tn_th_NSE {l : Launch} (hl : l.stackTraces = false) {M : am_M} {pc is : Nat} {tx : String} (hM : M.1.cls = "TermNet") (hk : (is, tx) ∈ tn_EK)
    (d0 : decode M.2.1 pc = .ok (.new 143, 3)) (d3 : decode M.2.1 (pc + 3) = .ok (.dup, 1)) (d4 : decode M.2.1 (pc + 4) = .ok (.ldc is, 2)) (d6 : decode M.2.1 (pc + 6) = .ok (.invokespecial 147, 3)) (d9 : decode M.2.1 (pc + 9) = .ok (.athrow, 1))
    (hf : 5 < M.2.2.2.2.2.frames) (hlo : 90 ≤ M.2.2.2.2.2.locals) (hsl : M.2.2.2.2.2.slots = 6 * M.2.2.2.2.2.cells) : tn_th1 l M pc tn_NSE := by
  intro p e s m args below meth cd H locs A ls rest nc Qc XC hB hE hS hls hct hnc hX
  obtain ⟨hx, hb, hr, hml, hown, hts, hns, hlocks, hnoex⟩ := hB
  obtain ⟨h1, h2, h3, h4, h5, h6⟩ := hE
  obtain ⟨a, ha⟩ := h4 (is, tx) hk
  rw [hM] at hown
  exact tn_throwX (own := "TermNet") (cls := tn_NSE) (par := "java/lang/RuntimeException") (up := ["java/lang/Exception"]) hx hb hl tn_rx0 tn_rx1 tn_rx2 tn_rx5 hown (by decide +kernel) (by decide +kernel) (by decide +kernel) (hts _ tn_cl_NSE.1) (hts _ tn_cl_NSE.2) ha
    (vx_hat (fun w hw => hts w (tn_at_NSE w hw)) tn_ew_NSE (fun w hw => va_Nw.use (tn_EW_tab w hw) (h1 w hw))) tn_ot_NSE h2 h3 hS (hls.trans hml.symm) d0 d3 d4 d6 d9 (fun x hx => (hnoex x hx).elim)
    (by simp only [List.length_cons, List.length_nil]; omega) (by simp only [List.length_cons, List.length_nil]; omega) hnc (by rw [hsl]; omega) hlocks hX hS.2.2 hnc (by rw [hsl]; omega)
theorem tn_TH {l : Launch} (hl : l.stackTraces = false) : am_TH tn_G tn_TS tn_NS tn_EX l := by
  intro μ M pc E hM hE
  have h1 := tn_lk (show tn_tw.lookup (μ, pc) = some E from hE)
  have key : tn_th1 l M pc E := by
    simp only [tn_tw, List.mem_cons, Prod.mk.injEq, List.not_mem_nil, or_false] at h1
    rcases h1 with ⟨⟨rfl, rfl⟩, rfl⟩ | ⟨⟨rfl, rfl⟩, rfl⟩ | ⟨⟨rfl, rfl⟩, rfl⟩ | ⟨⟨rfl, rfl⟩, rfl⟩ | ⟨⟨rfl, rfl⟩, rfl⟩ | ⟨⟨rfl, rfl⟩, rfl⟩ | ⟨⟨rfl, rfl⟩, rfl⟩ | ⟨⟨rfl, rfl⟩, rfl⟩
    · obtain rfl : M = tn_m39 := (Option.some.inj hM).symm
      exact tn_th_IAE (is := 60) (tx := "no such number of parts") hl rfl (by decide +kernel) (by decide +kernel) (by decide +kernel) (by decide +kernel) (by decide +kernel) (by decide +kernel) (by decide) (by decide) rfl
    · obtain rfl : M = tn_m39 := (Option.some.inj hM).symm
      exact tn_th_IOE (is := 70) (tx := "too many signs") hl rfl (by decide +kernel) (by decide +kernel) (by decide +kernel) (by decide +kernel) (by decide +kernel) (by decide +kernel) (by decide) (by decide) rfl
    · obtain rfl : M = tn_m41 := (Option.some.inj hM).symm
      exact tn_th_IOE (is := 177) (tx := "too many terms") hl rfl (by decide +kernel) (by decide +kernel) (by decide +kernel) (by decide +kernel) (by decide +kernel) (by decide +kernel) (by decide) (by decide) rfl
    · obtain rfl : M = tn_m42 := (Option.some.inj hM).symm
      exact tn_th_IAE (is := 92) (tx := "no such sign or part") hl rfl (by decide +kernel) (by decide +kernel) (by decide +kernel) (by decide +kernel) (by decide +kernel) (by decide +kernel) (by decide) (by decide) rfl
    · obtain rfl : M = tn_m44 := (Option.some.inj hM).symm
      exact tn_th_IAE (is := 175) (tx := "no such term") hl rfl (by decide +kernel) (by decide +kernel) (by decide +kernel) (by decide +kernel) (by decide +kernel) (by decide +kernel) (by decide) (by decide) rfl
    · obtain rfl : M = tn_m47 := (Option.some.inj hM).symm
      exact tn_th_NSE (is := 145) (tx := "no such part") hl rfl (by decide +kernel) (by decide +kernel) (by decide +kernel) (by decide +kernel) (by decide +kernel) (by decide +kernel) (by decide) (by decide) rfl
    · obtain rfl : M = tn_m53 := (Option.some.inj hM).symm
      exact tn_th_IOE (is := 165) (tx := "too many points") hl rfl (by decide +kernel) (by decide +kernel) (by decide +kernel) (by decide +kernel) (by decide +kernel) (by decide +kernel) (by decide) (by decide) rfl
    · obtain rfl : M = tn_m54 := (Option.some.inj hM).symm
      exact tn_th_NSE (is := 167) (tx := "no point") hl rfl (by decide +kernel) (by decide +kernel) (by decide +kernel) (by decide +kernel) (by decide +kernel) (by decide +kernel) (by decide) (by decide) rfl
  exact key
/-- the machine's word on the class's world, and on the reference's -/
theorem tn_sX {l : Launch} (hl : l.stackTraces = false) {c : am_C} {Q : am_Q} (h : am_AW tn_G tn_X c Q) : am_PW tn_G tn_X tn_TS tn_NS tn_cl tn_EX l c Q := am_AW.sound tn_ok tn_X_ok tn_EX_ok tn_NS_warm (tn_TH hl) h
theorem tn_sY {l : Launch} (hl : l.stackTraces = false) {c : am_C} {Q : am_Q} (h : am_AW tn_G tn_Y c Q) : am_PW tn_G tn_Y tn_TS tn_NS tn_cl tn_EX l c Q := am_AW.sound tn_ok tn_Y_ok tn_EX_ok tn_NS_warm (tn_TH hl) h
