section
-- ===== PART A: goes FIRST, ahead of the names: the tables' words, and 'selects' of the private methods out of them =====
/-- a private method of a class that the tables say can be made, by its rows of tables_1 -/
def lw_okq (q : MethodName × Nat) : Prop := (q.1.cls ≠ "java/lang/invoke/MethodHandle" ∧ q.1.cls ≠ "java/lang/invoke/VarHandle") ∧ Cond.instantiable q.1.cls q.2 ∈ tables_1 ∧ Cond.privateMethod q.1 ∈ tables_1 ∧ Cond.instanceMethod q.1 ∈ tables_1
theorem lw_p0 : lw_okq (⟨"java/lang/Throwable", "fillInStackTrace", "(I)Ljava/lang/Throwable;"⟩, 6) := ⟨⟨by decide +kernel, by decide +kernel⟩, List.mem_of_getElem? (i := 215) (by decide +kernel), List.mem_of_getElem? (i := 213) (by decide +kernel), List.mem_of_getElem? (i := 214) (by decide +kernel)⟩
theorem lw_p1 : lw_okq (⟨"TermNet", "refuseWhenFull", "()V"⟩, 9) := ⟨⟨by decide +kernel, by decide +kernel⟩, List.mem_of_getElem? (i := 16) (by decide +kernel), List.mem_of_getElem? (i := 272) (by decide +kernel), List.mem_of_getElem? (i := 273) (by decide +kernel)⟩
theorem lw_p2 : lw_okq (⟨"TermNet$Groups", "leadRing", "(II)V"⟩, 6) := ⟨⟨by decide +kernel, by decide +kernel⟩, List.mem_of_getElem? (i := 53) (by decide +kernel), List.mem_of_getElem? (i := 331) (by decide +kernel), List.mem_of_getElem? (i := 332) (by decide +kernel)⟩
theorem lw_p3 : lw_okq (⟨"TermNet$Groups", "swapLinks", "(II)V"⟩, 6) := ⟨⟨by decide +kernel, by decide +kernel⟩, List.mem_of_getElem? (i := 53) (by decide +kernel), List.mem_of_getElem? (i := 335) (by decide +kernel), List.mem_of_getElem? (i := 336) (by decide +kernel)⟩
theorem lw_p4 : lw_okq (⟨"TermNet", "refuseUnlessTerm", "(I)V"⟩, 9) := ⟨⟨by decide +kernel, by decide +kernel⟩, List.mem_of_getElem? (i := 16) (by decide +kernel), List.mem_of_getElem? (i := 346) (by decide +kernel), List.mem_of_getElem? (i := 347) (by decide +kernel)⟩
theorem lw_p5 : lw_okq (⟨"TermNet$Groups", "joinParts", "(I)Z"⟩, 6) := ⟨⟨by decide +kernel, by decide +kernel⟩, List.mem_of_getElem? (i := 53) (by decide +kernel), List.mem_of_getElem? (i := 357) (by decide +kernel), List.mem_of_getElem? (i := 358) (by decide +kernel)⟩
theorem lw_p6 : lw_okq (⟨"TermNet$Walk", "begin", "()V"⟩, 8) := ⟨⟨by decide +kernel, by decide +kernel⟩, List.mem_of_getElem? (i := 80) (by decide +kernel), List.mem_of_getElem? (i := 369) (by decide +kernel), List.mem_of_getElem? (i := 370) (by decide +kernel)⟩
theorem lw_p7 : lw_okq (⟨"TermNet$Walk", "reach", "(I)Z"⟩, 8) := ⟨⟨by decide +kernel, by decide +kernel⟩, List.mem_of_getElem? (i := 80) (by decide +kernel), List.mem_of_getElem? (i := 380) (by decide +kernel), List.mem_of_getElem? (i := 381) (by decide +kernel)⟩
theorem lw_p8 : lw_okq (⟨"TermNet$Walk", "enter", "(I)Z"⟩, 8) := ⟨⟨by decide +kernel, by decide +kernel⟩, List.mem_of_getElem? (i := 80) (by decide +kernel), List.mem_of_getElem? (i := 384) (by decide +kernel), List.mem_of_getElem? (i := 385) (by decide +kernel)⟩
theorem lw_p9 : lw_okq (⟨"TermNet$Walk", "goOn", "(I)Z"⟩, 8) := ⟨⟨by decide +kernel, by decide +kernel⟩, List.mem_of_getElem? (i := 80) (by decide +kernel), List.mem_of_getElem? (i := 388) (by decide +kernel), List.mem_of_getElem? (i := 389) (by decide +kernel)⟩
theorem lw_p10 : lw_okq (⟨"TermNet$Groups", "undo", "(I)V"⟩, 6) := ⟨⟨by decide +kernel, by decide +kernel⟩, List.mem_of_getElem? (i := 53) (by decide +kernel), List.mem_of_getElem? (i := 404) (by decide +kernel), List.mem_of_getElem? (i := 405) (by decide +kernel)⟩
theorem lw_p11 : lw_okq (⟨"TermNet$Twins", "printOf", "(I)I"⟩, 4) := ⟨⟨by decide +kernel, by decide +kernel⟩, List.mem_of_getElem? (i := 113) (by decide +kernel), List.mem_of_getElem? (i := 413) (by decide +kernel), List.mem_of_getElem? (i := 414) (by decide +kernel)⟩
theorem lw_p12 : lw_okq (⟨"TermNet$Twins", "joinOrKeep", "(II)V"⟩, 4) := ⟨⟨by decide +kernel, by decide +kernel⟩, List.mem_of_getElem? (i := 113) (by decide +kernel), List.mem_of_getElem? (i := 428) (by decide +kernel), List.mem_of_getElem? (i := 429) (by decide +kernel)⟩
theorem lw_p13 : lw_okq (⟨"TermNet$Walk", "overTree", "(I)V"⟩, 8) := ⟨⟨by decide +kernel, by decide +kernel⟩, List.mem_of_getElem? (i := 80) (by decide +kernel), List.mem_of_getElem? (i := 495) (by decide +kernel), List.mem_of_getElem? (i := 496) (by decide +kernel)⟩
theorem lw_p14 : lw_okq (⟨"TermNet$Walk", "sizeOver", "(I)I"⟩, 8) := ⟨⟨by decide +kernel, by decide +kernel⟩, List.mem_of_getElem? (i := 80) (by decide +kernel), List.mem_of_getElem? (i := 499) (by decide +kernel), List.mem_of_getElem? (i := 500) (by decide +kernel)⟩
theorem lw_p15 : lw_okq (⟨"TermNet$Walk", "depthOver", "(I)I"⟩, 8) := ⟨⟨by decide +kernel, by decide +kernel⟩, List.mem_of_getElem? (i := 80) (by decide +kernel), List.mem_of_getElem? (i := 518) (by decide +kernel), List.mem_of_getElem? (i := 519) (by decide +kernel)⟩
def lw_privs_1 : List (MethodName × Nat) := [(⟨"java/lang/Throwable", "fillInStackTrace", "(I)Ljava/lang/Throwable;"⟩, 6), (⟨"TermNet", "refuseWhenFull", "()V"⟩, 9), (⟨"TermNet$Groups", "leadRing", "(II)V"⟩, 6), (⟨"TermNet$Groups", "swapLinks", "(II)V"⟩, 6), (⟨"TermNet", "refuseUnlessTerm", "(I)V"⟩, 9), (⟨"TermNet$Groups", "joinParts", "(I)Z"⟩, 6), (⟨"TermNet$Walk", "begin", "()V"⟩, 8), (⟨"TermNet$Walk", "reach", "(I)Z"⟩, 8), (⟨"TermNet$Walk", "enter", "(I)Z"⟩, 8), (⟨"TermNet$Walk", "goOn", "(I)Z"⟩, 8), (⟨"TermNet$Groups", "undo", "(I)V"⟩, 6), (⟨"TermNet$Twins", "printOf", "(I)I"⟩, 4), (⟨"TermNet$Twins", "joinOrKeep", "(II)V"⟩, 4), (⟨"TermNet$Walk", "overTree", "(I)V"⟩, 8), (⟨"TermNet$Walk", "sizeOver", "(I)I"⟩, 8), (⟨"TermNet$Walk", "depthOver", "(I)I"⟩, 8)]
theorem lw_r1 : ∀ q ∈ lw_privs_1, lw_okq q := List.forall_mem_cons.mpr ⟨lw_p0, List.forall_mem_cons.mpr ⟨lw_p1, List.forall_mem_cons.mpr ⟨lw_p2, List.forall_mem_cons.mpr ⟨lw_p3, List.forall_mem_cons.mpr ⟨lw_p4, List.forall_mem_cons.mpr ⟨lw_p5, List.forall_mem_cons.mpr ⟨lw_p6, List.forall_mem_cons.mpr ⟨lw_p7, List.forall_mem_cons.mpr ⟨lw_p8, List.forall_mem_cons.mpr ⟨lw_p9, List.forall_mem_cons.mpr ⟨lw_p10, List.forall_mem_cons.mpr ⟨lw_p11, List.forall_mem_cons.mpr ⟨lw_p12, List.forall_mem_cons.mpr ⟨lw_p13, List.forall_mem_cons.mpr ⟨lw_p14, List.forall_mem_cons.mpr ⟨lw_p15, fun _ h => absurd h List.not_mem_nil⟩⟩⟩⟩⟩⟩⟩⟩⟩⟩⟩⟩⟩⟩⟩⟩
theorem lw_p16 : lw_okq (⟨"TermNetModel", "add", "(IIII)I"⟩, 18) := ⟨⟨by decide +kernel, by decide +kernel⟩, List.mem_of_getElem? (i := 562) (by decide +kernel), List.mem_of_getElem? (i := 636) (by decide +kernel), List.mem_of_getElem? (i := 637) (by decide +kernel)⟩
theorem lw_p17 : lw_okq (⟨"TermNetModel", "close", "([I)Z"⟩, 18) := ⟨⟨by decide +kernel, by decide +kernel⟩, List.mem_of_getElem? (i := 562) (by decide +kernel), List.mem_of_getElem? (i := 640) (by decide +kernel), List.mem_of_getElem? (i := 641) (by decide +kernel)⟩
theorem lw_p18 : lw_okq (⟨"TermNetModel", "join", "([III)V"⟩, 18) := ⟨⟨by decide +kernel, by decide +kernel⟩, List.mem_of_getElem? (i := 562) (by decide +kernel), List.mem_of_getElem? (i := 644) (by decide +kernel), List.mem_of_getElem? (i := 645) (by decide +kernel)⟩
theorem lw_p19 : lw_okq (⟨"TermNetModel", "isTerm", "(I)Z"⟩, 18) := ⟨⟨by decide +kernel, by decide +kernel⟩, List.mem_of_getElem? (i := 562) (by decide +kernel), List.mem_of_getElem? (i := 652) (by decide +kernel), List.mem_of_getElem? (i := 653) (by decide +kernel)⟩
theorem lw_p20 : lw_okq (⟨"TermNetModel", "look", "([I)Z"⟩, 18) := ⟨⟨by decide +kernel, by decide +kernel⟩, List.mem_of_getElem? (i := 562) (by decide +kernel), List.mem_of_getElem? (i := 660) (by decide +kernel), List.mem_of_getElem? (i := 661) (by decide +kernel)⟩
theorem lw_p21 : lw_okq (⟨"TermNetModel", "go", "(I)V"⟩, 18) := ⟨⟨by decide +kernel, by decide +kernel⟩, List.mem_of_getElem? (i := 562) (by decide +kernel), List.mem_of_getElem? (i := 693) (by decide +kernel), List.mem_of_getElem? (i := 694) (by decide +kernel)⟩
def lw_privs_2 : List (MethodName × Nat) := [(⟨"TermNetModel", "add", "(IIII)I"⟩, 18), (⟨"TermNetModel", "close", "([I)Z"⟩, 18), (⟨"TermNetModel", "join", "([III)V"⟩, 18), (⟨"TermNetModel", "isTerm", "(I)Z"⟩, 18), (⟨"TermNetModel", "look", "([I)Z"⟩, 18), (⟨"TermNetModel", "go", "(I)V"⟩, 18)]
theorem lw_r2 : ∀ q ∈ lw_privs_2, lw_okq q := List.forall_mem_cons.mpr ⟨lw_p16, List.forall_mem_cons.mpr ⟨lw_p17, List.forall_mem_cons.mpr ⟨lw_p18, List.forall_mem_cons.mpr ⟨lw_p19, List.forall_mem_cons.mpr ⟨lw_p20, List.forall_mem_cons.mpr ⟨lw_p21, fun _ h => absurd h List.not_mem_nil⟩⟩⟩⟩⟩⟩
def lw_privs : List (MethodName × Nat) := lw_privs_1 ++ (lw_privs_2)
def lw_tbl : List Cond := k2_sels lw_privs ++ tables_1
theorem lw_privs_ok : ∀ q ∈ lw_privs, lw_okq q := by
  show ∀ q ∈ lw_privs_1 ++ (lw_privs_2), lw_okq q
  exact List.forall_mem_append.mpr ⟨lw_r1, lw_r2⟩
/-! ===== BEGIN words of one list among another's, by their places ===== -/
theorem goodIn_r {big : List Cond} (ws : List Cond) (ps : List Nat) (hp : ws = ps.filterMap (fun i => big[i]?)) (h : ws.all goodWord = true) : GoodIn big ws := by
  intro w hw
  have h1 := List.all_eq_true.mp h w hw
  rw [hp] at hw
  obtain ⟨i, -, hi⟩ := List.mem_filterMap.mp hw
  have hm : w ∈ big := by first | exact List.mem_of_getElem? hi | exact List.getElem?_mem hi
  exact ⟨hm, good_of_word h1⟩
theorem goodIn_app {big a b : List Cond} (ha : GoodIn big a) (hb : GoodIn big b) : GoodIn big (a ++ b) := fun w h => (List.mem_append.mp h).elim (ha w) (hb w)
theorem goodIn_ca {big a b : List Cond} {c : Cond} (ha : GoodIn big (c :: a)) (hb : GoodIn big b) : GoodIn big (c :: (a ++ b)) := fun w h => (List.mem_cons.mp h).elim (fun e => ha w (List.mem_cons.mpr (Or.inl e))) (fun h => (List.mem_append.mp h).elim (fun h => ha w (List.mem_cons.mpr (Or.inr h))) (hb w))
theorem goodIn_sub {big ws : List Cond} (hm : ∀ w ∈ ws, w ∈ big) (h : ws.all goodWord = true) : GoodIn big ws := fun w hw => ⟨hm w hw, good_of_word (List.all_eq_true.mp h w hw)⟩
/-! ===== END ===== -/

/-! ===== BEGIN exceptions that leave a method, and their catching by the caller (launches without stack traces) ===== -/
section VXA
/-! The laws vx_back, vx_callV, vx_callS, vx_callSW, vx_throw0, vx_throwS follow proofs of the library, with one case more: JvmDerived/Free/Laws.lean (Back.of_free), Shelf42/LK1.lean (callV, callS), Shelf/KitTraced.lean (throwNew0V, throwNewS). -/
/-- where a method has thrown q: the class by its name, the cell, what was written, the world -/
def vx_T (XC : String → State → State → Prop) (st : State) (q : Addr) (t : State) (mc ms : Nat) (free : Addr → Prop) : Prop :=
  ∃ (E : String) (ce : Cell) (L : List Loc), XC E st t ∧ t.heap[q]? = some ce ∧ ce.vm = .none ∧ st.vm.findClass E = some ce.cls ∧ st.WarmedH t.vm ∧ st.sameButNew ({ t with vm := st.vm } : State) L mc ms ∧ ∀ z ∈ L, free z.base
def vx_Q (Qc : Array Value → State → Outcome → State → Prop) (XC : String → State → State → Prop) (mc ms : Nat) (free : Addr → Prop) : Array Value → State → Outcome → State → Prop := fun a st o t =>
  (Qc a st o t ∧ ∃ L, FrameEnd st o t L mc ms ∧ ∀ q ∈ L, free q.base) ∨ ∃ q, o = .threw q ∧ vx_T XC st q t mc ms free
/-- a callee that returns or throws -/
def vx_Met (l : Launch) (y : MethodName) (ws : List Cond) (rm : Room) (Pc : Array Value → State → Prop) (Qc : Array Value → State → Outcome → State → Prop) (XC : String → State → State → Prop) (mc ms : Nat) (free : Addr → Prop) : Prop :=
  MetFree l y (headSpec ws rm) Pc (fun _ _ _ _ _ => True) (vx_Q Qc XC mc ms free)
def vx_Post (XC : String → State → State → Prop) (mc ms : Nat) (free : Addr → Prop) : Pt → Array Value → Addr → Pt → Prop := fun A a q B =>
  ∃ (g : JFrame) (mk : MethodId) (t : State) (L : List Loc) (E : String) (ce : Cell), B.U.heap = t.heap ∧ B.U.vm = t.vm ∧ XC E (A.U.calling g mk a) t ∧ t.heap[q]? = some ce ∧ ce.vm = .none ∧ A.U.vm.findClass E = some ce.cls ∧ B.locs = A.locs ++ L ∧ (∀ z ∈ L, free z.base) ∧ B.cells = A.cells + mc ∧ B.slots = A.slots + ms
def vx_Back (l : Launch) (R : Room) (p : Program) (e : Env) (below : List Frame) (s : State) (sargs : Array Value) (y : MethodName) (len W9 : Nat)
    (Pre : Pt → Array Value → Prop) (Post : Pt → Array Value → Option Value → Pt → Prop) (PostX : Pt → Array Value → Addr → Pt → Prop) : Prop :=
  ∀ (m : MethodId) (meth : Method) (c : Code) (A : Pt) (g : JFrame) (ig : Instr) (mk : MethodId) (a : Array Value),
    Stand p l e R s m sargs below meth c A.U A.locs A.cells A.slots → g.method = m → g.locals.size = c.maxLocals → decode c.code g.pc = .ok (ig, len) →
    2 * g.monitorRoom + (g.stack.map fun v => v.category).sum ≤ W9 → A.U.methodNamed? y = some mk → Pre A a →
    (∃ (v : Option Value) (B : Pt), Stand p l e R s m sargs below meth c B.U B.locs B.cells B.slots ∧ Post A a v B ∧
      Steps p.tables e below (doInvoke e (A.U.setTop g) [] mk a).1 (B.U.setTop { g with pc := g.pc + len, stack := v.toList ++ g.stack })) ∨
    (∃ (q : Addr) (B : Pt), Stand p l e R s m sargs below meth c B.U B.locs B.cells B.slots ∧ PostX A a q B ∧
      Steps p.tables e below (doInvoke e (A.U.setTop g) [] mk a).1 ((B.U.setTop g).pushFrame (.throwing q)))
section Payer
variable {l : Launch} {R : Room} {p : Program} {e : Env} {below : List Frame} {s : State} {sargs : Array Value} {y : MethodName} {len W9 : Nat}
theorem vx_back {ws : List Cond} {rm : Room} {Pc : Array Value → State → Prop} {Qc : Array Value → State → Outcome → State → Prop} {XC : String → State → State → Prop} {mc ms : Nat} {free : Addr → Prop} {bytes : ByteArray} {maxL : Nat} {ret : Option FieldType}
    (hM : vx_Met l y ws rm Pc Qc XC mc ms free) (hblind : FrameBlind Pc) (hrc : rm.cells = mc) (hrs : rm.slots = ms)
    (hframes : rm.frames + 1 ≤ R.frames) (hlocals : W9 + (maxL + 11) + rm.locals ≤ R.locals)
    (hws : ∀ w ∈ ws, ∀ a' U, s.WarmedH U.vm → w.before a' U = true) (hcode : Cond.code y bytes maxL ret ∈ ws) (hinit : ∀ a' U, s.WarmedH U.vm → (Cond.initialized y.cls).before a' U = true) :
    vx_Back l R p e below s sargs y len W9 (PreOf R mc ms Pc) (PostOf Qc mc ms free) (vx_Post XC mc ms free) := by
  intro m meth c A g ig mk a X hg hsize hdg hW hn hp
  have h1 : (headSpec ws rm).pre.before a A.U = true := atoms_intro fun w hw => hws w hw _ _ X.warmed
  have h2 : (Cond.code y bytes maxL ret).before a A.U = true := hws _ hcode _ _ X.warmed
  have h3 : (Cond.initialized y.cls).before a A.U = true := hinit _ _ X.warmed
  have h4 : A.cells + (headSpec ws rm).room.cells ≤ R.cells := by rw [show (headSpec ws rm).room.cells = mc from hrc]; exact hp.1
  have h5 : A.slots + (headSpec ws rm).room.slots ≤ R.slots := by rw [show (headSpec ws rm).room.slots = ms from hrs]; exact hp.2.1
  have hPc : Pc a (A.U.calling g mk a) := hblind _ _ _ _ hp.2.2
  obtain ⟨U, Ls, c0, s0⟩ := A
  dsimp only [Pt.U, Pt.locs, Pt.cells, Pt.slots] at h1 h2 h3 h4 h5 X hn hPc ⊢
  obtain ⟨methY, cY, hmY, hcY, -, hlY, -, -, -, -⟩ := Cond.code_spec hn h2
  obtain ⟨kY, hkY, -⟩ := className_of_methodNamed hn
  have hinitY : kY.init = .initialized := Cond.initialized_spec (findClass_of_methodNamed hn) hkY h3
  have h : At U g.method c below := by rw [hg]; exact X.here
  have hlocals9 : W9 + (maxL + 11) + (headSpec ws rm).room.locals ≤ R.locals := hlocals
  have happ : (headSpec ws rm).appliesLoose y e.platform (U.calling g mk a) = true :=
    Spec.appliesLoose_calling (g := g) h hdg hn hkY hinitY
      (X.room_calling (g := g) (R' := (headSpec ws rm).room) hsize hmY hcY hframes (by rw [hlY]; omega) h4 h5) h1
  obtain ⟨mid, hmid⟩ := h.above
  have hfr : (U.setTop g).frames = (.java g :: mid) ++ below := by rw [State.frames_setTop' g h.top, hmid]; rfl
  obtain ⟨o, s₂, hsteps, -, hend, hq⟩ := Steps.callFree hM p X.admits X.cas X.clock (acts := []) hfr happ hPc trivial
  have hq' : vx_Q Qc XC mc ms free a (U.calling g mk a) o s₂ := hq
  rw [State.frames_setTop' g h.top] at hend
  obtain ⟨g₀, hg0⟩ := Option.isSome_iff_exists.mp h.top
  obtain ⟨r, hr⟩ := State.topJava?_eq_some.mp hg0
  have hr' : (({ U with heap := s₂.heap, slotsUsed := s₂.slotsUsed } : State).setVm s₂.vm).frames = .java g₀ :: r := hr
  rcases hq' with ⟨hqc, L, hfe, hL⟩ | ⟨q, rfl, E, ce, L, hx, hce, hcv, hcl, hW₂, hsm, hL⟩
  · obtain ⟨⟨v, rfl⟩, hW₂, e2, q2, q3, q4, q5, q6⟩ := id hfe
    have e3 : s₂ = ({ (U.calling g mk a).setFrames s₂.frames with heap := s₂.heap, slotsUsed := s₂.slotsUsed } : State).setVm s₂.vm := by
      have : s₂ = ({ s₂ with vm := (U.calling g mk a).vm } : State).setVm s₂.vm := rfl
      rw [e2] at this
      exact this
    obtain ⟨c₂, i₂, len₂, hc₂, hd₂, hf₂⟩ := hend
    have hW' : U.WarmedH s₂.vm := hW₂
    have hcc : c₂ = c := by
      have h1 : s₂.code? g.method = U.code? g.method := by
        rw [State.code?_eq, State.code?_eq, hW'.alike.method?]
      exact Option.some.inj (hc₂.symm.trans (h1.trans h.code))
    subst hcc
    have hlen : len₂ = len := by rw [hdg] at hd₂; cases hd₂; rfl
    subst hlen
    have hs₂ : s₂ = (({ U with heap := s₂.heap, slotsUsed := s₂.slotsUsed } : State).setVm s₂.vm).setTop { g with pc := g.pc + len₂, stack := v.toList ++ g.stack } := by
      refine e3.trans ?_
      rw [hf₂, State.calling_eq h.top, State.setFrames_setFrames, State.setTop_of_frames _ hr', hr]
      rfl
    have hsame : U.sameButNew ({ U with heap := s₂.heap, slotsUsed := s₂.slotsUsed } : State) L mc ms := by
      refine ⟨?_, q2, q3, q4, q5, q6⟩
      obtain ⟨t, ht, -⟩ := State.frames_cons hr
      show ({ U with heap := s₂.heap, slotsUsed := s₂.slotsUsed } : State) = { U.setFrames U.frames with heap := s₂.heap, slotsUsed := s₂.slotsUsed }
      rw [State.setFrames_self ht]
    subst hg
    refine Or.inl ⟨v, ⟨(({ U with heap := s₂.heap, slotsUsed := s₂.slotsUsed } : State).setVm s₂.vm), Ls ++ L, c0 + mc, s0 + ms⟩,
      ⟨X.admits, X.cas, X.clock, X.frames, X.room, X.hears, X.method, X.code, (X.here.setHeapUsed s₂.heap s₂.slotsUsed).setVm hW'.alike, X.tail, State.WarmedH.trans X.warmed hW', X.limits, X.bytes, X.same.trans (hsame.setVm s.vm)⟩,
      ⟨g, mk, s₂, L, rfl, rfl, hqc, rfl, hL, rfl, rfl⟩, ?_⟩
    show Steps p.tables e below _ ((({ U with heap := s₂.heap, slotsUsed := s₂.slotsUsed } : State).setVm s₂.vm).setTop { g with pc := g.pc + len₂, stack := v.toList ++ g.stack })
    rw [← hs₂]
    exact hsteps
  · obtain ⟨e2, q2, q3, q4, q5, q6⟩ := id hsm
    have e3 : s₂ = ({ (U.calling g mk a).setFrames s₂.frames with heap := s₂.heap, slotsUsed := s₂.slotsUsed } : State).setVm s₂.vm := by
      have : s₂ = ({ s₂ with vm := (U.calling g mk a).vm } : State).setVm s₂.vm := rfl
      rw [e2] at this
      exact this
    have hf₂ : s₂.frames = .throwing q :: .java g :: U.frames.tail := hend
    have hW' : U.WarmedH s₂.vm := hW₂
    have hs₂ : s₂ = ((({ U with heap := s₂.heap, slotsUsed := s₂.slotsUsed } : State).setVm s₂.vm).setTop g).pushFrame (.throwing q) := by
      refine e3.trans ?_
      rw [hf₂, State.calling_eq h.top, State.setFrames_setFrames, State.pushFrame, State.frames_setTop _ hr', State.setTop_of_frames _ hr', State.setFrames_setFrames, hr]
      rfl
    have hsame : U.sameButNew ({ U with heap := s₂.heap, slotsUsed := s₂.slotsUsed } : State) L mc ms := by
      refine ⟨?_, q2, q3, q4, q5, q6⟩
      obtain ⟨t, ht, -⟩ := State.frames_cons hr
      show ({ U with heap := s₂.heap, slotsUsed := s₂.slotsUsed } : State) = { U.setFrames U.frames with heap := s₂.heap, slotsUsed := s₂.slotsUsed }
      rw [State.setFrames_self ht]
    subst hg
    refine Or.inr ⟨q, ⟨(({ U with heap := s₂.heap, slotsUsed := s₂.slotsUsed } : State).setVm s₂.vm), Ls ++ L, c0 + mc, s0 + ms⟩,
      ⟨X.admits, X.cas, X.clock, X.frames, X.room, X.hears, X.method, X.code, (X.here.setHeapUsed s₂.heap s₂.slotsUsed).setVm hW'.alike, X.tail, State.WarmedH.trans X.warmed hW', X.limits, X.bytes, X.same.trans (hsame.setVm s.vm)⟩,
      ⟨g, mk, s₂, L, E, ce, rfl, rfl, hx, hce, hcv, hcl, rfl, hL, rfl, rfl⟩, ?_⟩
    show Steps p.tables e below _ (((({ U with heap := s₂.heap, slotsUsed := s₂.slotsUsed } : State).setVm s₂.vm).setTop g).pushFrame (.throwing q))
    rw [← hs₂]
    exact hsteps
end Payer
section Calls
variable {p : Program} {l : Launch} {e : Env} {R : Room} {s : State} {m : MethodId} {args : Array Value} {below : List Frame} {meth : Method} {c : Code} {T : State} {locs : List Loc} {cells slots : Nat}
theorem vx_callV (X : Stand p l e R s m args below meth c T locs cells slots) (hexec : p.tables.exec = Jvm.exec) {own C : String} {index : Nat} {y : MethodName} {bytes : ByteArray} {maxL : Nat} {ret : Option FieldType}
    (hown : s.vm.findClass own = some m.cls) (hlink : (Cond.methodLink own index y).before args s = true) (hinst : (Cond.instanceMethod y).before args s = true) (hsel : (Cond.selects C y y).before args s = true)
    (hcode : (Cond.code y bytes maxL ret).before args s = true) (hy : y.cls ≠ "java/lang/invoke/MethodHandle" ∧ y.cls ≠ "java/lang/invoke/VarHandle")
    {W9 : Nat} {Pre : Pt → Array Value → Prop} {Post : Pt → Array Value → Option Value → Pt → Prop} {PostX : Pt → Array Value → Addr → Pt → Prop} (hK : vx_Back l R p e below s args y 3 W9 Pre Post PostX)
    {b : Addr} {cellB : Cell} (hcell : T.heap[b]? = some cellB) (hobj : cellB.vm.isStatics = false) (hcls : s.vm.findClass C = some cellB.cls)
    {g : JFrame} (hg : g.method = m) (hsize : g.locals.size = c.maxLocals) {argsL rest : List Value} (hlen : ∀ sig, parseMethodDescriptor y.desc = some sig → argsL.length = sig.parameters.length)
    (hstack : g.stack = argsL.reverse ++ .ref b :: rest) (hW : 2 * g.monitorRoom + (rest.map fun v => v.category).sum ≤ W9) (hdg : decode c.code g.pc = .ok (.invokevirtual index, 3))
    (hpre : ∀ vm₁, s.WarmedH vm₁ → Pre ⟨T.setVm vm₁, locs, cells, slots⟩ (Value.ref b :: argsL).toArray) :
    (∃ (v : Option Value) (vm₁ : Vm) (B : Pt), s.WarmedH vm₁ ∧ Stand p l e R s m args below meth c B.U B.locs B.cells B.slots ∧ Post ⟨T.setVm vm₁, locs, cells, slots⟩ (Value.ref b :: argsL).toArray v B ∧
      ∀ target, Steps p.tables e below (B.U.setTop { g with pc := g.pc + 3, stack := v.toList ++ rest }) target → Steps p.tables e below (T.setTop g) target) ∨
    (∃ (q : Addr) (vm₁ : Vm) (B : Pt), s.WarmedH vm₁ ∧ Stand p l e R s m args below meth c B.U B.locs B.cells B.slots ∧ PostX ⟨T.setVm vm₁, locs, cells, slots⟩ (Value.ref b :: argsL).toArray q B ∧
      Steps p.tables e below (T.setTop g) ((B.U.setTop { g with stack := rest }).pushFrame (.throwing q))) := by
  obtain ⟨mk, methM, hnamed, hmethM, hstM, habM⟩ := Cond.instanceMethod_spec hinst
  obtain ⟨methM', cM, hmethM', -, -, -, -, -, -, hsigM⟩ := Cond.code_spec hnamed hcode
  cases hmethM.symm.trans hmethM'
  obtain ⟨c2, r2, m2, q1, q2, q3, q4, kP, hkP, hkPi⟩ := Cond.selects_spec hsel
  cases hcls.symm.trans q1
  cases (State.methodFound?_of_named hnamed hy).symm.trans q2
  cases hnamed.symm.trans q3
  have hselP : selectMethod e.platform s.vm cellB.cls mk = .method mk := by rw [Launch.admits_selectMethod X.admits]; exact q4
  obtain ⟨vm₁, X₁, hstep₁⟩ := X.invokevirtual hexec hown hlink hnamed hmethM hstM hkP hkPi hy (a := b) (cell := cellB) hcell
    (fun z h => by rw [h] at hobj; cases hobj) hselP hmethM habM hkP hkPi (g := g) hg (argsL := argsL) (rest := rest) (hlen _ hsigM) hstack hdg
  rcases hK m meth c ⟨T.setVm vm₁, locs, cells, slots⟩ { g with stack := rest } (.invokevirtual index) mk (Value.ref b :: argsL).toArray X₁ hg hsize hdg hW (X₁.named hnamed) (hpre vm₁ X₁.warmed) with ⟨v, B, X', hpost, hsteps⟩ | ⟨q, B, X', hpost, hsteps⟩
  · exact Or.inl ⟨v, vm₁, B, X₁.warmed, X', hpost, fun target h => hstep₁ _ fun acts => by rw [doInvoke_state]; exact hsteps.trans h⟩
  · exact Or.inr ⟨q, vm₁, B, X₁.warmed, X', hpost, hstep₁ _ fun acts => by rw [doInvoke_state]; exact hsteps⟩
theorem vx_callS (X : Stand p l e R s m args below meth c T locs cells slots) (hexec : p.tables.exec = Jvm.exec) {own : String} {index : Nat} {y : MethodName} {bytes : ByteArray} {maxL : Nat} {ret : Option FieldType}
    (hown : s.vm.findClass own = some m.cls) (hlink : (Cond.methodLink own index y).before args s = true) (hstat : (Cond.static y).before args s = true) (hinit : (Cond.initialized y.cls).before args s = true)
    (hcode : (Cond.code y bytes maxL ret).before args s = true) (hy : y.cls ≠ "java/lang/invoke/MethodHandle" ∧ y.cls ≠ "java/lang/invoke/VarHandle")
    {W9 : Nat} {Pre : Pt → Array Value → Prop} {Post : Pt → Array Value → Option Value → Pt → Prop} {PostX : Pt → Array Value → Addr → Pt → Prop} (hK : vx_Back l R p e below s args y 3 W9 Pre Post PostX)
    {g : JFrame} (hg : g.method = m) (hsize : g.locals.size = c.maxLocals) {argsL rest : List Value} (hlen : ∀ sig, parseMethodDescriptor y.desc = some sig → argsL.length = sig.parameters.length)
    (hstack : g.stack = argsL.reverse ++ rest) (hW : 2 * g.monitorRoom + (rest.map fun v => v.category).sum ≤ W9) (hdg : decode c.code g.pc = .ok (.invokestatic index, 3))
    (hpre : ∀ vm₁, s.WarmedH vm₁ → Pre ⟨T.setVm vm₁, locs, cells, slots⟩ argsL.toArray) :
    (∃ (v : Option Value) (vm₁ : Vm) (B : Pt), s.WarmedH vm₁ ∧ Stand p l e R s m args below meth c B.U B.locs B.cells B.slots ∧ Post ⟨T.setVm vm₁, locs, cells, slots⟩ argsL.toArray v B ∧
      ∀ target, Steps p.tables e below (B.U.setTop { g with pc := g.pc + 3, stack := v.toList ++ rest }) target → Steps p.tables e below (T.setTop g) target) ∨
    (∃ (q : Addr) (vm₁ : Vm) (B : Pt), s.WarmedH vm₁ ∧ Stand p l e R s m args below meth c B.U B.locs B.cells B.slots ∧ PostX ⟨T.setVm vm₁, locs, cells, slots⟩ argsL.toArray q B ∧
      Steps p.tables e below (T.setTop g) ((B.U.setTop { g with stack := rest }).pushFrame (.throwing q))) := by
  obtain ⟨mk, hnamed⟩ := Cond.code_named hcode
  obtain ⟨methM, cM, hmethM, -, -, -, -, -, -, hsigM⟩ := Cond.code_spec hnamed hcode
  have hstatic : methM.isStatic = true := Cond.static_spec hnamed hmethM hstat
  obtain ⟨kP, hkP, -⟩ := className_of_methodNamed hnamed
  have hinitP : kP.init = .initialized := Cond.initialized_spec (findClass_of_methodNamed hnamed) hkP hinit
  obtain ⟨vm₁, X₁, hstep₁⟩ := X.invokestatic hexec hown hlink hnamed hmethM hstatic hkP hinitP hy (g := g) hg (argsL := argsL) (rest := rest) (hlen _ hsigM) hstack hdg
  rcases hK m meth c ⟨T.setVm vm₁, locs, cells, slots⟩ { g with stack := rest } (.invokestatic index) mk argsL.toArray X₁ hg hsize hdg hW (X₁.named hnamed) (hpre vm₁ X₁.warmed) with ⟨v, B, X', hpost, hsteps⟩ | ⟨q, B, X', hpost, hsteps⟩
  · exact Or.inl ⟨v, vm₁, B, X₁.warmed, X', hpost, fun target h => hstep₁ _ fun acts => by rw [doInvoke_state]; exact hsteps.trans h⟩
  · exact Or.inr ⟨q, vm₁, B, X₁.warmed, X', hpost, hstep₁ _ fun acts => by rw [doInvoke_state]; exact hsteps⟩
end Calls
theorem vx_cls {s : State} {T : State} {vm₁ : Vm} {E : String} {k : ClassId} (hW : s.WarmedH vm₁) (h : (T.setVm vm₁).vm.findClass E = some k) : s.vm.findClass E = some k := by
  have h1 : vm₁.findClass E = some k := h
  rw [hW.alike.findClass] at h1
  exact h1
/-- the method's frame g, with q thrown over it -/
def vx_W (p : Program) (l : Launch) (e : Env) (R : Room) (s : State) (m : MethodId) (args : Array Value) (below : List Frame) (meth : Method) (c : Code) (H : Heap) (locs : List Loc) (cells slots : Nat) (Q : State → Prop) (g : JFrame) (q : Addr) : Prop :=
  ∀ T : State, T.heap = H → Stand p l e R s m args below meth c T locs cells slots → ∃ t, Steps p.tables e below ((T.setTop g).pushFrame (.throwing q)) t ∧ Q t
def vx_Run (p : Program) (l : Launch) (e : Env) (R : Room) (s : State) (m : MethodId) (args : Array Value) (below : List Frame) (meth : Method) (c : Code) (H : Heap) (locs : List Loc) (cells slots mc ms : Nat) (g : JFrame) (rest : List Value) (Qa : State → Outcome → State → Prop) (XC : String → State → State → Prop) (free : Addr → Prop) : Prop :=
  ∀ T : State, T.heap = H → Stand p l e R s m args below meth c T locs cells slots →
    (∃ (v : Option Value) (st₀ t T' : State) (L : List Loc), st₀.heap = H ∧ Stand p l e R s m args below meth c T' (locs ++ L) (cells + mc) (slots + ms) ∧ (∀ q ∈ L, free q.base) ∧ T'.heap = t.heap ∧ T'.vm = t.vm ∧ Qa st₀ (.returned v) t ∧
      Goes p e below T g T' { g with pc := g.pc + 3, stack := v.toList ++ rest }) ∨
    (∃ (q : Addr) (st₀ t T' : State) (L : List Loc) (E : String) (ce : Cell), st₀.heap = H ∧ Stand p l e R s m args below meth c T' (locs ++ L) (cells + mc) (slots + ms) ∧ (∀ z ∈ L, free z.base) ∧ T'.heap = t.heap ∧ T'.vm = t.vm ∧ XC E st₀ t ∧ t.heap[q]? = some ce ∧ ce.vm = .none ∧ s.vm.findClass E = some ce.cls ∧
      Steps p.tables e below (T.setTop g) ((T'.setTop { g with stack := rest }).pushFrame (.throwing q)))
def vx_X {S : Type} (px : S → Prop) (B : String → S → State → Prop) (A : Nat → Prop) : String → State → State → Prop := fun E st t => ∃ u : S, px u ∧ B E u t ∧ va_F A st t
section Runs
variable {p : Program} {l : Launch} {e : Env} {R : Room} {s : State} {m : MethodId} {args : Array Value} {below : List Frame} {meth : Method} {c : Code} {H : Heap} {locs : List Loc} {cells slots : Nat}
variable {y : MethodName} {bytes cc : ByteArray} {maxL nL mc ms n index : Nat} {ret : Option FieldType} {ws : List Cond} {rm : Room} {Pc : Array Value → State → Prop} {Qc : Array Value → State → Outcome → State → Prop} {XC : String → State → State → Prop} {free : Addr → Prop} {Ts : List Cond} {own C : String} {b : Addr} {As rest : List Value} {g : JFrame}
theorem vx_callBack (cb : CallB R s args own index y bytes maxL ret ws rm mc ms n) (hM : vx_Met l y ws rm Pc Qc XC mc ms free) (hbl : FrameBlind Pc) : vx_Back l R p e below s args y 3 8 (PreOf R mc ms Pc) (PostOf Qc mc ms free) (vx_Post XC mc ms free) := by
  obtain ⟨hrc, hrs, hfr, hlo, hws, hcw, -, hini, -⟩ := cb
  exact vx_back (bytes := bytes) (maxL := maxL) (ret := ret) hM hbl hrc hrs hfr hlo hws hcw (fun a' U hW => word_at hW (Or.inl (by first | rfl | simp [Cond.onTables, Cond.keeps, Cond.steady])) hini)
theorem vx_runV (S : CallFix p m c cc nL s args Ts own) (hM : vx_Met l y ws rm Pc Qc XC mc ms free) (cw : CallW R s args own C index y bytes maxL ret ws rm mc ms n) (hp : PreV s H C b Pc As)
    (hg : g.method = m) (hn : As.length = n) (hsize : g.locals.size = nL) (hstack : g.stack = As.reverse ++ .ref b :: rest) (hW : 2 * g.monitorRoom + (rest.map fun v => v.category).sum ≤ 8) (hdg : decode cc g.pc = .ok (.invokevirtual index, 3)) (hf : cells + mc ≤ R.cells ∧ slots + ms ≤ R.slots) :
    vx_Run p l e R s m args below meth c H locs cells slots mc ms g rest (Qc (Value.ref b :: As).toArray) XC free := by
  have hK : vx_Back l R p e below s args y 3 8 (PreOf R mc ms Pc) (PostOf Qc mc ms free) (vx_Post XC mc ms free) := vx_callBack cw.1 hM hp.1
  obtain ⟨⟨-, -, -, -, -, -, hcode, -, hy, hlen, hl⟩, hin, hse⟩ := cw
  obtain ⟨hx, hb, hml, ho, -⟩ := S
  obtain ⟨-, ⟨cellB, hcB, hoB, hclB⟩, hPc⟩ := hp
  intro T hT X
  rcases vx_callV X hx (C := C) (bytes := bytes) (maxL := maxL) (ret := ret) ho hl hin hse hcode hy hK (by rw [hT]; exact hcB) hoB hclB hg (hsize.trans hml.symm) (argsL := As) (rest := rest) (fun sig h => hn.trans (hlen sig h)) hstack hW (by rw [hb]; exact hdg)
    (fun vm₁ hW₁ => ⟨hf.1, hf.2, hPc (T.setVm vm₁) hT hW₁⟩) with ⟨v, vm₁, ⟨U', l2, c2, s2⟩, hW₁, X', ⟨g', mk, t, L, e1, e2, hq, h1, hL, h2, h3⟩, st⟩ | ⟨q, vm₁, ⟨U', l2, c2, s2⟩, hW₁, X', ⟨g', mk, t, L, E, ce, e1, e2, hq, hce, hcv, hcl, h1, hL, h2, h3⟩, st⟩
  · dsimp only [Pt.U, Pt.locs, Pt.cells, Pt.slots] at X' e1 e2 h1 h2 h3 st
    subst h1; subst h2; subst h3
    exact Or.inl ⟨v, (T.setVm vm₁).calling g' mk (Value.ref b :: As).toArray, t, U', L, hT, X', hL, e1, e2, hq, st⟩
  · dsimp only [Pt.U, Pt.locs, Pt.cells, Pt.slots] at X' e1 e2 h1 h2 h3 st hcl
    subst h1; subst h2; subst h3
    exact Or.inr ⟨q, (T.setVm vm₁).calling g' mk (Value.ref b :: As).toArray, t, U', L, E, ce, hT, X', hL, e1, e2, hq, hce, hcv, vx_cls hW₁ hcl, st⟩
theorem vx_runS (S : CallFix p m c cc nL s args Ts own) (hM : vx_Met l y ws rm Pc Qc XC mc ms free) (cw : CallB R s args own index y bytes maxL ret ws rm mc ms n ∧ (Cond.static y).before args s = true) (hp : PreS s H Pc As)
    (hg : g.method = m) (hn : As.length = n) (hsize : g.locals.size = nL) (hstack : g.stack = As.reverse ++ rest) (hW : 2 * g.monitorRoom + (rest.map fun v => v.category).sum ≤ 8) (hdg : decode cc g.pc = .ok (.invokestatic index, 3)) (hf : cells + mc ≤ R.cells ∧ slots + ms ≤ R.slots) :
    vx_Run p l e R s m args below meth c H locs cells slots mc ms g rest (Qc As.toArray) XC free := by
  have hK : vx_Back l R p e below s args y 3 8 (PreOf R mc ms Pc) (PostOf Qc mc ms free) (vx_Post XC mc ms free) := vx_callBack cw.1 hM hp.1
  obtain ⟨⟨-, -, -, -, -, -, hcode, hini, hy, hlen, hl⟩, hstt⟩ := cw
  obtain ⟨hx, hb, hml, ho, -⟩ := S
  intro T hT X
  rcases vx_callS X hx (bytes := bytes) (maxL := maxL) (ret := ret) ho hl hstt hini hcode hy hK hg (hsize.trans hml.symm) (argsL := As) (rest := rest) (fun sig h => hn.trans (hlen sig h)) hstack hW (by rw [hb]; exact hdg)
    (fun vm₁ hW₁ => ⟨hf.1, hf.2, hp.2 (T.setVm vm₁) hT hW₁⟩) with ⟨v, vm₁, ⟨U', l2, c2, s2⟩, hW₁, X', ⟨g', mk, t, L, e1, e2, hq, h1, hL, h2, h3⟩, st⟩ | ⟨q, vm₁, ⟨U', l2, c2, s2⟩, hW₁, X', ⟨g', mk, t, L, E, ce, e1, e2, hq, hce, hcv, hcl, h1, hL, h2, h3⟩, st⟩
  · dsimp only [Pt.U, Pt.locs, Pt.cells, Pt.slots] at X' e1 e2 h1 h2 h3 st
    subst h1; subst h2; subst h3
    exact Or.inl ⟨v, (T.setVm vm₁).calling g' mk As.toArray, t, U', L, hT, X', hL, e1, e2, hq, st⟩
  · dsimp only [Pt.U, Pt.locs, Pt.cells, Pt.slots] at X' e1 e2 h1 h2 h3 st hcl
    subst h1; subst h2; subst h3
    exact Or.inr ⟨q, (T.setVm vm₁).calling g' mk As.toArray, t, U', L, E, ce, hT, X', hL, e1, e2, hq, hce, hcv, vx_cls hW₁ hcl, st⟩
end Runs
section Rows
variable {p : Program} {l : Launch} {e : Env} {R : Room} {s : State} {m : MethodId} {args : Array Value} {below : List Frame} {meth : Method} {c : Code} {H : Heap} {locs : List Loc} {cells slots : Nat} {Q : State → Prop}
variable {mc ms : Nat} {free : Addr → Prop} {A0 A1 : Nat → Prop} {H0 : Heap} {a : Array Value} {pc : Nat} {ls : Array Slot} {st0 rest : List Value}
theorem vx_keep {st₀ t T' : State} {L : List Loc} (h0 : st₀.heap = H) (e1 : T'.heap = t.heap) (hS : va_S A0 H0 H locs) (hA : ∀ q, q < H.size → A1 q → A0 q) (hf : ∀ q, free q → A0 q) (hL : ∀ q ∈ L, free q.base) (hF : va_F A1 st₀ t) :
    H.size ≤ T'.heap.size ∧ (∀ q : Nat, q < H.size → ¬ A1 q → T'.heap[q]? = H[q]?) ∧ va_S A0 H0 T'.heap (locs ++ L) := by
  obtain ⟨hz, hk⟩ := hF
  rw [h0] at hz hk
  exact ⟨by rw [e1]; exact hz, fun q h1 h2 => by rw [e1]; exact hk q h1 h2,
    ⟨Nat.le_trans hS.1 (by rw [e1]; exact hz), fun q h1 h2 => by rw [e1, hk q (Nat.lt_of_lt_of_le h1 hS.1) (fun z => h2 (hA q (Nat.lt_of_lt_of_le h1 hS.1) z))]; exact hS.2.1 q h1 h2, fun q hq => by
      rcases List.mem_append.mp hq with h | h
      · exact hS.2.2 q h
      · exact hf _ (hL q h)⟩⟩
theorem vx_calli {S SX : Type} {post : Int32 → S → Prop} {px : SX → Prop} {B : S → State → Prop} {BX : String → SX → State → Prop} {AX : Nat → Prop} (hr : vx_Run p l e R s m args below meth c H locs cells slots mc ms (F0 m pc ls st0) rest (va_Qi post B A1 a) (vx_X px BX AX) free) (hS : va_S A0 H0 H locs) (hA : ∀ q, q < H.size → A1 q → A0 q) (hf : ∀ q, free q → A0 q) (hAX : ∀ q, q < H.size → AX q → A0 q)
    (kx : ∀ (E : String) (ce : Cell) (q9 : Addr) (u : SX) (t : State) (H1 : Heap) (locs1 : List Loc), t.heap = H1 → s.vm.Alike t.vm → px u → BX E u t → H.size ≤ H1.size → (∀ q : Nat, q < H.size → ¬ AX q → H1[q]? = H[q]?) → va_S A0 H0 H1 locs1 → H1[q9]? = some ce → ce.vm = .none → s.vm.findClass E = some ce.cls → vx_W p l e R s m args below meth c H1 locs1 (cells + mc) (slots + ms) Q (F0 m pc ls rest) q9)
    (kk : ∀ (r : Int32) (u : S) (t : State) (H1 : Heap) (locs1 : List Loc), t.heap = H1 → s.vm.Alike t.vm → post r u → B u t → H.size ≤ H1.size → (∀ q : Nat, q < H.size → ¬ A1 q → H1[q]? = H[q]?) → va_S A0 H0 H1 locs1 → W p l e R s m args below meth c H1 locs1 (cells + mc) (slots + ms) Q (F0 m (pc + 3) ls (.int r :: rest))) : W p l e R s m args below meth c H locs cells slots Q (F0 m pc ls st0) := by
  intro T hT X
  rcases hr T hT X with ⟨v, st₀, t, T', L, h0, X', hL, e1, e2, ⟨⟨r, u, hv, hp, hb⟩, hF⟩, st⟩ | ⟨q, st₀, t, T', L, E, ce, h0, X', hL, e1, e2, ⟨u, hp, hb, hF⟩, hce, hcv, hcl, st⟩
  · cases hv
    obtain ⟨k1, k2, k3⟩ := vx_keep h0 e1 hS hA hf hL hF
    obtain ⟨t2, a1, b1⟩ := kk r u t T'.heap (locs ++ L) e1.symm (by rw [← e2]; exact X'.warmed.alike) hp hb k1 k2 k3 T' rfl X'
    exact ⟨t2, st t2 a1, b1⟩
  · obtain ⟨k1, k2, k3⟩ := vx_keep h0 e1 hS hAX hf hL hF
    obtain ⟨t2, a1, b1⟩ := kx E ce q u t T'.heap (locs ++ L) e1.symm (by rw [← e2]; exact X'.warmed.alike) hp hb k1 k2 k3 (by rw [e1]; exact hce) hcv hcl T' rfl X'
    exact ⟨t2, st.trans a1, b1⟩
theorem vx_calll {S SX : Type} {post : Int64 → S → Prop} {px : SX → Prop} {B : S → State → Prop} {BX : String → SX → State → Prop} {AX : Nat → Prop} (hr : vx_Run p l e R s m args below meth c H locs cells slots mc ms (F0 m pc ls st0) rest (va_Ql post B A1 a) (vx_X px BX AX) free) (hS : va_S A0 H0 H locs) (hA : ∀ q, q < H.size → A1 q → A0 q) (hf : ∀ q, free q → A0 q) (hAX : ∀ q, q < H.size → AX q → A0 q)
    (kx : ∀ (E : String) (ce : Cell) (q9 : Addr) (u : SX) (t : State) (H1 : Heap) (locs1 : List Loc), t.heap = H1 → s.vm.Alike t.vm → px u → BX E u t → H.size ≤ H1.size → (∀ q : Nat, q < H.size → ¬ AX q → H1[q]? = H[q]?) → va_S A0 H0 H1 locs1 → H1[q9]? = some ce → ce.vm = .none → s.vm.findClass E = some ce.cls → vx_W p l e R s m args below meth c H1 locs1 (cells + mc) (slots + ms) Q (F0 m pc ls rest) q9)
    (kk : ∀ (r : Int64) (u : S) (t : State) (H1 : Heap) (locs1 : List Loc), t.heap = H1 → s.vm.Alike t.vm → post r u → B u t → H.size ≤ H1.size → (∀ q : Nat, q < H.size → ¬ A1 q → H1[q]? = H[q]?) → va_S A0 H0 H1 locs1 → W p l e R s m args below meth c H1 locs1 (cells + mc) (slots + ms) Q (F0 m (pc + 3) ls (.long r :: rest))) : W p l e R s m args below meth c H locs cells slots Q (F0 m pc ls st0) := by
  intro T hT X
  rcases hr T hT X with ⟨v, st₀, t, T', L, h0, X', hL, e1, e2, ⟨⟨r, u, hv, hp, hb⟩, hF⟩, st⟩ | ⟨q, st₀, t, T', L, E, ce, h0, X', hL, e1, e2, ⟨u, hp, hb, hF⟩, hce, hcv, hcl, st⟩
  · cases hv
    obtain ⟨k1, k2, k3⟩ := vx_keep h0 e1 hS hA hf hL hF
    obtain ⟨t2, a1, b1⟩ := kk r u t T'.heap (locs ++ L) e1.symm (by rw [← e2]; exact X'.warmed.alike) hp hb k1 k2 k3 T' rfl X'
    exact ⟨t2, st t2 a1, b1⟩
  · obtain ⟨k1, k2, k3⟩ := vx_keep h0 e1 hS hAX hf hL hF
    obtain ⟨t2, a1, b1⟩ := kx E ce q u t T'.heap (locs ++ L) e1.symm (by rw [← e2]; exact X'.warmed.alike) hp hb k1 k2 k3 (by rw [e1]; exact hce) hcv hcl T' rfl X'
    exact ⟨t2, st.trans a1, b1⟩
theorem vx_callf {S SX : Type} {post : UInt32 → S → Prop} {px : SX → Prop} {B : S → State → Prop} {BX : String → SX → State → Prop} {AX : Nat → Prop} (hr : vx_Run p l e R s m args below meth c H locs cells slots mc ms (F0 m pc ls st0) rest (va_Qf post B A1 a) (vx_X px BX AX) free) (hS : va_S A0 H0 H locs) (hA : ∀ q, q < H.size → A1 q → A0 q) (hf : ∀ q, free q → A0 q) (hAX : ∀ q, q < H.size → AX q → A0 q)
    (kx : ∀ (E : String) (ce : Cell) (q9 : Addr) (u : SX) (t : State) (H1 : Heap) (locs1 : List Loc), t.heap = H1 → s.vm.Alike t.vm → px u → BX E u t → H.size ≤ H1.size → (∀ q : Nat, q < H.size → ¬ AX q → H1[q]? = H[q]?) → va_S A0 H0 H1 locs1 → H1[q9]? = some ce → ce.vm = .none → s.vm.findClass E = some ce.cls → vx_W p l e R s m args below meth c H1 locs1 (cells + mc) (slots + ms) Q (F0 m pc ls rest) q9)
    (kk : ∀ (r : UInt32) (u : S) (t : State) (H1 : Heap) (locs1 : List Loc), t.heap = H1 → s.vm.Alike t.vm → post r u → B u t → H.size ≤ H1.size → (∀ q : Nat, q < H.size → ¬ A1 q → H1[q]? = H[q]?) → va_S A0 H0 H1 locs1 → W p l e R s m args below meth c H1 locs1 (cells + mc) (slots + ms) Q (F0 m (pc + 3) ls (.float r :: rest))) : W p l e R s m args below meth c H locs cells slots Q (F0 m pc ls st0) := by
  intro T hT X
  rcases hr T hT X with ⟨v, st₀, t, T', L, h0, X', hL, e1, e2, ⟨⟨r, u, hv, hp, hb⟩, hF⟩, st⟩ | ⟨q, st₀, t, T', L, E, ce, h0, X', hL, e1, e2, ⟨u, hp, hb, hF⟩, hce, hcv, hcl, st⟩
  · cases hv
    obtain ⟨k1, k2, k3⟩ := vx_keep h0 e1 hS hA hf hL hF
    obtain ⟨t2, a1, b1⟩ := kk r u t T'.heap (locs ++ L) e1.symm (by rw [← e2]; exact X'.warmed.alike) hp hb k1 k2 k3 T' rfl X'
    exact ⟨t2, st t2 a1, b1⟩
  · obtain ⟨k1, k2, k3⟩ := vx_keep h0 e1 hS hAX hf hL hF
    obtain ⟨t2, a1, b1⟩ := kx E ce q u t T'.heap (locs ++ L) e1.symm (by rw [← e2]; exact X'.warmed.alike) hp hb k1 k2 k3 (by rw [e1]; exact hce) hcv hcl T' rfl X'
    exact ⟨t2, st.trans a1, b1⟩
theorem vx_calld {S SX : Type} {post : UInt64 → S → Prop} {px : SX → Prop} {B : S → State → Prop} {BX : String → SX → State → Prop} {AX : Nat → Prop} (hr : vx_Run p l e R s m args below meth c H locs cells slots mc ms (F0 m pc ls st0) rest (va_Qd post B A1 a) (vx_X px BX AX) free) (hS : va_S A0 H0 H locs) (hA : ∀ q, q < H.size → A1 q → A0 q) (hf : ∀ q, free q → A0 q) (hAX : ∀ q, q < H.size → AX q → A0 q)
    (kx : ∀ (E : String) (ce : Cell) (q9 : Addr) (u : SX) (t : State) (H1 : Heap) (locs1 : List Loc), t.heap = H1 → s.vm.Alike t.vm → px u → BX E u t → H.size ≤ H1.size → (∀ q : Nat, q < H.size → ¬ AX q → H1[q]? = H[q]?) → va_S A0 H0 H1 locs1 → H1[q9]? = some ce → ce.vm = .none → s.vm.findClass E = some ce.cls → vx_W p l e R s m args below meth c H1 locs1 (cells + mc) (slots + ms) Q (F0 m pc ls rest) q9)
    (kk : ∀ (r : UInt64) (u : S) (t : State) (H1 : Heap) (locs1 : List Loc), t.heap = H1 → s.vm.Alike t.vm → post r u → B u t → H.size ≤ H1.size → (∀ q : Nat, q < H.size → ¬ A1 q → H1[q]? = H[q]?) → va_S A0 H0 H1 locs1 → W p l e R s m args below meth c H1 locs1 (cells + mc) (slots + ms) Q (F0 m (pc + 3) ls (.double r :: rest))) : W p l e R s m args below meth c H locs cells slots Q (F0 m pc ls st0) := by
  intro T hT X
  rcases hr T hT X with ⟨v, st₀, t, T', L, h0, X', hL, e1, e2, ⟨⟨r, u, hv, hp, hb⟩, hF⟩, st⟩ | ⟨q, st₀, t, T', L, E, ce, h0, X', hL, e1, e2, ⟨u, hp, hb, hF⟩, hce, hcv, hcl, st⟩
  · cases hv
    obtain ⟨k1, k2, k3⟩ := vx_keep h0 e1 hS hA hf hL hF
    obtain ⟨t2, a1, b1⟩ := kk r u t T'.heap (locs ++ L) e1.symm (by rw [← e2]; exact X'.warmed.alike) hp hb k1 k2 k3 T' rfl X'
    exact ⟨t2, st t2 a1, b1⟩
  · obtain ⟨k1, k2, k3⟩ := vx_keep h0 e1 hS hAX hf hL hF
    obtain ⟨t2, a1, b1⟩ := kx E ce q u t T'.heap (locs ++ L) e1.symm (by rw [← e2]; exact X'.warmed.alike) hp hb k1 k2 k3 (by rw [e1]; exact hce) hcv hcl T' rfl X'
    exact ⟨t2, st.trans a1, b1⟩
theorem vx_callv {S SX : Type} {post : S → Prop} {px : SX → Prop} {B : S → State → Prop} {BX : String → SX → State → Prop} {AX : Nat → Prop} (hr : vx_Run p l e R s m args below meth c H locs cells slots mc ms (F0 m pc ls st0) rest (va_Qv post B A1 a) (vx_X px BX AX) free) (hS : va_S A0 H0 H locs) (hA : ∀ q, q < H.size → A1 q → A0 q) (hf : ∀ q, free q → A0 q) (hAX : ∀ q, q < H.size → AX q → A0 q)
    (kx : ∀ (E : String) (ce : Cell) (q9 : Addr) (u : SX) (t : State) (H1 : Heap) (locs1 : List Loc), t.heap = H1 → s.vm.Alike t.vm → px u → BX E u t → H.size ≤ H1.size → (∀ q : Nat, q < H.size → ¬ AX q → H1[q]? = H[q]?) → va_S A0 H0 H1 locs1 → H1[q9]? = some ce → ce.vm = .none → s.vm.findClass E = some ce.cls → vx_W p l e R s m args below meth c H1 locs1 (cells + mc) (slots + ms) Q (F0 m pc ls rest) q9)
    (kk : ∀ (u : S) (t : State) (H1 : Heap) (locs1 : List Loc), t.heap = H1 → s.vm.Alike t.vm → post u → B u t → H.size ≤ H1.size → (∀ q : Nat, q < H.size → ¬ A1 q → H1[q]? = H[q]?) → va_S A0 H0 H1 locs1 → W p l e R s m args below meth c H1 locs1 (cells + mc) (slots + ms) Q (F0 m (pc + 3) ls (rest))) : W p l e R s m args below meth c H locs cells slots Q (F0 m pc ls st0) := by
  intro T hT X
  rcases hr T hT X with ⟨v, st₀, t, T', L, h0, X', hL, e1, e2, ⟨⟨u, hv, hp, hb⟩, hF⟩, st⟩ | ⟨q, st₀, t, T', L, E, ce, h0, X', hL, e1, e2, ⟨u, hp, hb, hF⟩, hce, hcv, hcl, st⟩
  · cases hv
    obtain ⟨k1, k2, k3⟩ := vx_keep h0 e1 hS hA hf hL hF
    obtain ⟨t2, a1, b1⟩ := kk u t T'.heap (locs ++ L) e1.symm (by rw [← e2]; exact X'.warmed.alike) hp hb k1 k2 k3 T' rfl X'
    exact ⟨t2, st t2 a1, b1⟩
  · obtain ⟨k1, k2, k3⟩ := vx_keep h0 e1 hS hAX hf hL hF
    obtain ⟨t2, a1, b1⟩ := kx E ce q u t T'.heap (locs ++ L) e1.symm (by rw [← e2]; exact X'.warmed.alike) hp hb k1 k2 k3 (by rw [e1]; exact hce) hcv hcl T' rfl X'
    exact ⟨t2, st.trans a1, b1⟩
/-- caught by the row x of this method's table; the rows ahead don't take it -/
theorem vx_catch {own name : String} {E : String} {ce : Cell} {q : Addr} (hown : s.vm.findClass own = some m.cls) (pre : List ExceptionTableEntry) (x : ExceptionTableEntry) (suf : List ExceptionTableEntry) (hsplit : c.exceptionTable.toList = pre ++ x :: suf)
    (hpass : ∀ z ∈ pre, covers z pc = false ∨ (z.catchType ≠ 0 ∧ ∃ nm : String, (Cond.classLink own z.catchType nm).before args s = true ∧ va_Nc E nm s)) (hx : covers x pc = true) (h0 : x.catchType ≠ 0)
    (hlink : (Cond.classLink own x.catchType name).before args s = true) (hcast : (Cond.castable E name).before args s = true) (hcell : H[q]? = some ce) (hv : ce.vm = .none) (hcl : s.vm.findClass E = some ce.cls)
    (kk : W p l e R s m args below meth c H locs cells slots Q (F0 m x.handlerPc ls [.ref q])) : vx_W p l e R s m args below meth c H locs cells slots Q (F0 m pc ls rest) q := by
  intro T hT X
  have hpl : e.platform.magicAccessors = ({} : Platform).magicAccessors := by rw [X.admits.platform]
  obtain ⟨c3, c4, hc3, hc4, hasg⟩ := Cond.castable_spec hcast
  cases Option.some.inj (hc3.symm.trans hcl)
  obtain ⟨c5, hc5, hcl5⟩ := Cond.classLink_spec hown hlink e.platform hpl
  cases Option.some.inj (hc4.symm.trans hc5)
  obtain ⟨vm', X', st⟩ := X.thenCaughtThrough q (g := F0 m pc ls rest) rfl (Steps.refl _) (by rw [hT]; exact hcell) (by rw [hv]; rfl) (by obtain ⟨k9, h9, -⟩ := Vm.findClass_spec hcl; exact ⟨k9, h9⟩) pre x suf hsplit
    (fun z hz => by
      rcases hpass z hz with h | ⟨hz0, nm, hl1, hn1⟩
      · exact Or.inl h
      · obtain ⟨c6, hc6, hcl6⟩ := Cond.classLink_spec hown hl1 e.platform hpl
        obtain ⟨a8, b8, h1, h2, h3⟩ := hn1
        cases Option.some.inj (h1.symm.trans hcl)
        cases Option.some.inj (h2.symm.trans hc6)
        exact Or.inr ⟨hz0, _, hcl6, h3⟩) hx (Or.inr ⟨h0, c4, hcl5, hasg⟩)
  obtain ⟨t, a1, b1⟩ := kk (T.setVm vm') hT X'
  exact ⟨t, st.trans a1, b1⟩
end Rows
section Ends
variable {p : Program} {l : Launch} {e : Env} {R : Room} {s : State} {m : MethodId} {args : Array Value} {below : List Frame} {meth : Method} {c : Code} {H : Heap} {locs : List Loc} {cells slots : Nat} {Q : State → Prop}
variable {mc ms : Nat} {free : Addr → Prop} {A0 A1 : Nat → Prop} {H0 : Heap} {a : Array Value} {ls : Array Slot} {st0 rest : List Value}
variable {Qc : Array Value → State → Outcome → State → Prop} {XC : String → State → State → Prop}
/-- what a body that may throw owes at its end -/
def vx_MQ (below : List Frame) (Qc : Array Value → State → Outcome → State → Prop) (XC : String → State → State → Prop) (a : Array Value) (s : State) (mc ms : Nat) (free : Addr → Prop) : State → Prop := fun t =>
  ∃ o, t.status = .running ∧ Ended t below o ∧ vx_Q Qc XC mc ms free a s o t
theorem vx_ret {g : JFrame} {mc ms : Nat} (k : W p l e R s m args below meth c H locs cells slots (MQ below Qc args s mc ms free) g) : W p l e R s m args below meth c H locs cells slots (vx_MQ below Qc XC args s mc ms free) g := by
  intro T hT X
  obtain ⟨t, a1, o, b1, b2, b3, b4⟩ := k T hT X
  exact ⟨t, a1, o, b1, b2, Or.inl ⟨b3, b4⟩⟩
/-- not caught here: it goes on to the caller -/
theorem vx_widen {g : JFrame} {q : Addr} {k n : Nat} (h1 : cells ≤ k) (h2 : slots ≤ n) (kk : vx_W p l e R s m args below meth c H locs k n Q g q) : vx_W p l e R s m args below meth c H locs cells slots Q g q := fun T hT X => kk T hT (stand_widen X h1 h2)
theorem vx_out {pc : Nat} {E : String} {ce : Cell} {q : Addr} {mc ms : Nat} (hout : ∀ x ∈ c.exceptionTable.toList, covers x pc = false) (hlocks : meth.locks = false) (hcell : H[q]? = some ce) (hv : ce.vm = .none) (hcl : s.vm.findClass E = some ce.cls)
    (hx : ∀ t : State, t.heap = H → s.vm.Alike t.vm → XC E s t) (hf : ∀ z ∈ locs, free z.base) (hc : cells ≤ mc) (hs : slots ≤ ms) :
    vx_W p l e R s m args below meth c H locs cells slots (vx_MQ below Qc XC args s mc ms free) (F0 m pc ls rest) q := by
  intro T hT X
  obtain ⟨st1, hrun, hend, hW, hsm⟩ := X.leaveThrown q (g := F0 m pc ls rest) rfl rfl rfl hout hlocks
  have hcell9 : (T.setFrames (.throwing q :: below)).heap[q]? = some ce := by
    show T.heap[q]? = some ce
    rw [hT]; exact hcell
  exact ⟨_, st1, .threw q, hrun, hend, Or.inr ⟨q, rfl, E, ce, locs, hx _ hT hW.alike, hcell9, hv, hcl, hW, hsm.mono hc hs, hf⟩⟩
theorem vx_frame {U : State} {k n : Nat} (h : s.sameButNew ({ U with vm := s.vm } : State) locs k n) : s.heap.size ≤ U.heap.size ∧ ∀ q : Nat, q < s.heap.size → (∀ z ∈ locs, z.base ≠ q) → U.heap[q]? = s.heap[q]? := by
  obtain ⟨-, h2, -, -, -, h6⟩ := h
  refine ⟨h2, fun q hq hz => ?_⟩
  obtain ⟨c9, e1, e2, e3, e4⟩ := h6 q _ (Array.getElem?_eq_getElem hq)
  have hs : c9.slots = (s.heap[q]).slots := Array.ext_getElem? fun i => e4 i fun hm => hz _ hm rfl
  have h9 : c9 = s.heap[q] := by
    rw [hs] at e2
    exact e2
  have e5 : U.heap[q]? = some c9 := e1
  rw [e5, h9, Array.getElem?_eq_getElem hq]
/-- the words of a throw but the four that speak of the heap -/
def vx_no (w : Cond) : Bool := decide (w ≠ .isRef (.static Bundle.tN "UNASSIGNED_STACK" Bundle.steD)) && decide (w ≠ .isRef (.static Bundle.tN "SUPPRESSED_SENTINEL" Bundle.listD)) && decide (w ≠ .laysStatic Bundle.tN "UNASSIGNED_STACK" Bundle.steD) && decide (w ≠ .laysStatic Bundle.tN "SUPPRESSED_SENTINEL" Bundle.listD)
def vx_at0 (own : String) (ic : Nat) (X : String) (names : List String) : List Cond := (Bundle.ownAtoms0 own ic X names).filter vx_no
def vx_atS (own : String) (ic : Nat) (X : String) (names : List String) : List Cond := (Bundle.ownAtoms own ic X names).filter vx_no
/-- a word that the tables alone decide, or a good one -/
def vx_ot (w : Cond) : Bool := w.onTables || goodWord w
theorem vx_ot_at {args a' : Array Value} {s U : State} {w : Cond} (hW : s.WarmedH U.vm) (hvm : s.vm = U.vm) (hg : vx_ot w = true) (h : w.before args s = true) : w.before a' U = true := by
  simp only [vx_ot, Bool.or_eq_true] at hg
  rcases hg with hg | hg
  · exact va_tabs hg hvm h
  · exact word_at hW (good_of_word hg) h
/-- a list's words: the good ones out of the method's own list, the others by premises of their own -/
theorem vx_hat {args : Array Value} {s : State} {L B : List Cond} (h1 : ∀ w ∈ L.filter goodWord, w.before args s = true) (h2 : ∀ w ∈ L.filter (fun w => !goodWord w), w ∈ B) (h3 : ∀ w ∈ B, w.before args s = true) : ∀ w ∈ L, w.before args s = true := by
  intro w hw
  by_cases g : goodWord w = true
  · exact h1 w (List.mem_filter.mpr ⟨hw, g⟩)
  · refine h3 w (h2 w (List.mem_filter.mpr ⟨hw, ?_⟩))
    show (!goodWord w) = true
    cases hgw : goodWord w
    · rfl
    · exact absurd hgw g
theorem vx_c {args : Array Value} {s : State} {w : Cond} {B : List Cond} (h : w.before args s = true) (t : ∀ w ∈ B, w.before args s = true) : ∀ w' ∈ w :: B, w'.before args s = true := fun w' h' => (List.mem_cons.mp h').elim (fun e => by rw [e]; exact h) (t w')
theorem vx_n {args : Array Value} {s : State} : ∀ w ∈ ([] : List Cond), w.before args s = true := fun _ h => nomatch h
theorem vx_own {args : Array Value} {s : State} {L : List Cond} (h1 : ∀ w ∈ L.filter vx_no, w.before args s = true)
    (hU : (Cond.isRef (.static Bundle.tN "UNASSIGNED_STACK" Bundle.steD)).before args s = true) (hN : (Cond.isRef (.static Bundle.tN "SUPPRESSED_SENTINEL" Bundle.listD)).before args s = true)
    (lU : (Cond.laysStatic Bundle.tN "UNASSIGNED_STACK" Bundle.steD).before args s = true) (lN : (Cond.laysStatic Bundle.tN "SUPPRESSED_SENTINEL" Bundle.listD).before args s = true) : ∀ w ∈ L, w.before args s = true := by
  intro w hw
  by_cases e1 : w = .isRef (.static Bundle.tN "UNASSIGNED_STACK" Bundle.steD)
  · rw [e1]; exact hU
  · by_cases e2 : w = .isRef (.static Bundle.tN "SUPPRESSED_SENTINEL" Bundle.listD)
    · rw [e2]; exact hN
    · by_cases e3 : w = .laysStatic Bundle.tN "UNASSIGNED_STACK" Bundle.steD
      · rw [e3]; exact lU
      · by_cases e4 : w = .laysStatic Bundle.tN "SUPPRESSED_SENTINEL" Bundle.listD
        · rw [e4]; exact lN
        · exact h1 w (List.mem_filter.mpr ⟨hw, by unfold vx_no; rw [decide_eq_true e1, decide_eq_true e2, decide_eq_true e3, decide_eq_true e4]; rfl⟩)
/-- where a static field lies, its class's statics cell in H -/
def vx_L (C n d : String) (A : Nat → Prop) (U : State) (H : Heap) : Prop := ∃ (c : ClassId) (k : Class) (i : Nat) (f : Field) (a : Nat) (cell : Cell), U.vm.findClass C = some c ∧ U.fieldFound? C n d = some (c, k, i, f) ∧ f.isStatic = true ∧ k.statics = some a ∧ H[a]? = some cell ∧ cell.vm.isStatics = true ∧ cell.cls = c ∧ f.slot < cell.slots.size ∧ k.staticTypes[f.slot]? = some f.type ∧ ¬ A a
theorem vx_L.moved {C n d : String} {A : Nat → Prop} {u U : State} {H : Heap} (hvm : u.vm.Alike U.vm) (h : vx_L C n d A u H) : vx_L C n d A U H := by
  obtain ⟨c, k, i, f, a, cell, h1, h2, h3, h4, h5, h6, h7, h8, h9, h10⟩ := h
  obtain ⟨k', hi', he⟩ := State.fieldFound?_setVm hvm h2
  exact ⟨c, k', i, f, a, cell, by rw [hvm.findClass]; exact h1, hi', h3, by rw [he]; exact h4, h5, h6, h7, h8, by rw [he]; exact h9, h10⟩
theorem vx_L.kept {C n d : String} {A : Nat → Prop} {U : State} {H H1 : Heap} (h : vx_L C n d A U H) (hq : ∀ a : Nat, a < H.size → ¬ A a → H1[a]? = H[a]?) : vx_L C n d A U H1 := by
  obtain ⟨c, k, i, f, a, cell, h1, h2, h3, h4, h5, h6, h7, h8, h9, h10⟩ := h
  exact ⟨c, k, i, f, a, cell, h1, h2, h3, h4, by rw [hq a (Array.getElem?_eq_some_iff.mp h5).1 h10]; exact h5, h6, h7, h8, h9, h10⟩
theorem vx_L.narrow {C n d : String} {A B : Nat → Prop} {U : State} {H : Heap} (h : vx_L C n d A U H) (hAB : ∀ q, B q → A q) : vx_L C n d B U H := by
  obtain ⟨c, k, i, f, a, cell, h1, h2, h3, h4, h5, h6, h7, h8, h9, h10⟩ := h
  exact ⟨c, k, i, f, a, cell, h1, h2, h3, h4, h5, h6, h7, h8, h9, fun z => h10 (hAB _ z)⟩
theorem vx_L.word {C n d : String} {A : Nat → Prop} {s : State} {args : Array Value} (h : vx_L C n d A s s.heap) : (Cond.laysStatic C n d).before args s = true := by
  obtain ⟨c, k, i, f, a, cell, h1, h2, h3, h4, h5, h6, h7, h8, h9, -⟩ := h
  show (Cond.laysStatic C n d).holds args s none s [] = true
  exact Cond.laysStatic_of h1 h2 h3 h4 h5 h6 h7 h8 h9
/-- .. and what it holds: null or some reference -/
def vx_Zq (C n d : String) (A : Nat → Prop) (U : State) (H : Heap) : Prop := va_Zq C n d A U H ∧ vx_L C n d A U H
theorem vx_Zq.moved {C n d : String} {A : Nat → Prop} {u U : State} {H : Heap} (hvm : u.vm.Alike U.vm) (h : vx_Zq C n d A u H) : vx_Zq C n d A U H := ⟨va_Zq.moved hvm h.1, vx_L.moved hvm h.2⟩
theorem vx_Zq.kept {C n d : String} {A : Nat → Prop} {U : State} {H H1 : Heap} (h : vx_Zq C n d A U H) (hq : ∀ a : Nat, a < H.size → ¬ A a → H1[a]? = H[a]?) : vx_Zq C n d A U H1 := ⟨va_Zq.kept h.1 hq, vx_L.kept h.2 hq⟩
theorem vx_Zq.narrow {C n d : String} {A B : Nat → Prop} {U : State} {H : Heap} (h : vx_Zq C n d A U H) (hAB : ∀ q, B q → A q) : vx_Zq C n d B U H := ⟨va_Zq.narrow h.1 hAB, vx_L.narrow h.2 hAB⟩
theorem vx_Zqof {args : Array Value} {s : State} {C n d : String} {A : Nat → Prop} (hl : (Cond.laysStatic C n d).before args s = true) (hini : (Cond.initialized C).before args s = true) (h : (Cond.isRef (.static C n d)).before args s = true) (hA : ∀ a : Nat, a < s.heap.size → ¬ A a) : vx_Zq C n d A s s.heap := by
  refine ⟨va_Zqof hl hini h hA, ?_⟩
  obtain ⟨c, k, i, f, a, cell, h1, h2, h3, h4, h5, h6, h7, h8, h9⟩ := Cond.laysStatic_spec hl
  exact ⟨c, k, i, f, a, cell, h1, h2, h3, h4, h5, h6, h7, h8, h9, hA a (Array.getElem?_eq_some_iff.mp h5).1⟩
theorem vx_isRef {C n d : String} {v : Value} {A : Nat → Prop} {s : State} {args : Array Value} (h : va_Z C n d v A s s.heap) (hv : v.isRef = true) : (Cond.isRef (.static C n d)).before args s = true := by
  obtain ⟨cf, kf, fi, f, a, cell, h1, h2, h3, h4, h5, h6, h7, -⟩ := h
  have he : (Term.static C n d).eval args s none [] s = some v := by
    simp [Term.eval, State.fieldNamed?, h1, h2, h4, h5, h6, h7]
  simp only [Cond.before, Cond.holds, Cond.value, he]
  cases v <;> simp_all [Value.isRef]
theorem vx_isRefq {C n d : String} {A : Nat → Prop} {s : State} {args : Array Value} (h : va_Zq C n d A s s.heap) : (Cond.isRef (.static C n d)).before args s = true := by
  rcases h with h | ⟨t, h⟩
  · exact vx_isRef h rfl
  · exact vx_isRef h rfl
/-- the same frame, seen from here: as if the method were called anew in this heap -/
theorem vx_rebase {T : State} (X : Stand p l e R s m args below meth c T locs cells slots) {R' : Room} (hf : R'.frames ≤ R.frames) (hl : R'.locals ≤ R.locals) (hc : cells + R'.cells ≤ R.cells) (hs : slots + R'.slots ≤ R.slots) :
    Stand p l e R' ((T.setVm s.vm).setFrames (.invoking m args :: below)) m args below meth c T [] 0 0 := by
  have htop : (T.setVm s.vm).topJava?.isSome := X.here.top
  have hF : ((T.setVm s.vm).setFrames (.invoking m args :: below)).frames = .invoking m args :: below := State.frames_setFrames _ (State.cur_lt_of_top htop)
  obtain ⟨g₀, hg0⟩ := Option.isSome_iff_exists.mp htop
  obtain ⟨r, hr⟩ := State.topJava?_eq_some.mp hg0
  have hl9 : e.platform.stackLimits (T.setVm s.vm).me = e.platform.stackLimits s.me := X.limits
  have hb9 : (T.setVm s.vm).me.stackBytes = s.me.stackBytes := X.bytes
  refine ⟨X.admits, X.cas, X.clock, hF, ?_, X.hears, X.method, X.code, X.here, X.tail, X.warmed, ?_, ?_, ?_⟩
  · have h := X.room
    have hU : ((T.setVm s.vm).setFrames (.invoking m args :: below)).localsInUse = s.localsInUse := by
      rw [State.localsInUse_invoking hF (meth := meth) (c := c) X.method X.code, State.localsInUse_invoking X.frames X.method X.code]
    simp only [State.hasRoom, Bool.and_eq_true, decide_eq_true_eq] at h ⊢
    obtain ⟨⟨⟨⟨h1, h2, h3, h4, h5, h6⟩, h7⟩, h8⟩, h9⟩ := h
    rw [X.frames, List.length_cons] at h2 h3
    have q1 := X.heapSize
    have q2 := X.used
    simp only [hF, hU, List.length_cons, State.stackLimits_setFrames, State.stackBytes_setFrames, hl9, hb9]
    refine ⟨⟨⟨⟨by omega, by omega, by omega, by omega, by omega, h6⟩, ?_⟩, ?_⟩, X.book⟩
    · show T.heap.size + R'.cells ≤ e.platform.maxCells
      omega
    · show T.slotsUsed + R'.slots ≤ e.platform.maxSlots
      omega
  · rw [State.stackLimits_setFrames]; rfl
  · rw [State.stackBytes_setFrames]; rfl
  · refine ⟨?_, Nat.le_refl _, Nat.le_refl _, ?_, ?_, fun a c9 h9 => ⟨c9, h9, rfl, rfl, fun _ _ => rfl⟩⟩
    · obtain ⟨t, ht, -⟩ := State.frames_cons hr
      show T.setVm s.vm = { ((T.setVm s.vm).setFrames (.invoking m args :: below)).setFrames (T.setVm s.vm).frames with heap := T.heap, slotsUsed := T.slotsUsed }
      rw [State.setFrames_setFrames, State.setFrames_self ht]
      rfl
    · show T.slotsUsed = T.slotsUsed + ((T.heap.toList.drop T.heap.size).map (·.slots.size)).sum
      rw [List.drop_eq_nil_of_le (Nat.le_of_eq Array.length_toList)]
      rfl
    · show ((T.heap.toList.drop T.heap.size).map (·.slots.size)).sum ≤ 0
      rw [List.drop_eq_nil_of_le (Nat.le_of_eq Array.length_toList)]
      exact Nat.le_refl _
/-- 'throw new E()': new; dup; invokespecial; athrow -/
theorem vx_throw0 {cc : ByteArray} {pc : Nat} (hexec : p.tables.exec = Jvm.exec) (hb : c.code = cc) (hl : l.stackTraces = false) {own cls : String} {names : List String} {ik ic mc ms : Nat} {A : Nat → Prop}
    (hown : s.vm.findClass own = some m.cls) (hcls : Bundle.fit cls = true) (hnames : ∀ n ∈ names, Bundle.fit n = true)
    (hk : (Cond.classLink own ik cls).before args s = true) (hini : (Cond.initialized cls).before args s = true) (hat : ∀ w ∈ vx_at0 own ic cls names, w.before args s = true)
    (hgood : ∀ w ∈ Cond.classLink own ik cls :: Cond.initialized cls :: vx_at0 own ic cls names, vx_ot w = true)
    (hU : vx_Zq Bundle.tN "UNASSIGNED_STACK" Bundle.steD A s s.heap) (hN : vx_Zq Bundle.tN "SUPPRESSED_SENTINEL" Bundle.listD A s s.heap) (hS : va_S A s.heap H locs) (hsize : ls.size = c.maxLocals)
    (d0 : decode cc pc = .ok (.new ik, 3)) (d3 : decode cc (pc + 3) = .ok (.dup, 1)) (d4 : decode cc (pc + 4) = .ok (.invokespecial ic, 3)) (d7 : decode cc (pc + 7) = .ok (.athrow, 1))
    (hout : ∀ x ∈ c.exceptionTable.toList, covers x (pc + 7) = false)
    (hRframes : names.length + 3 < R.frames) (hRlocals : (rest.map fun v => v.category).sum + (13 * (names.length + 1) + 42) ≤ R.locals) (hRcells : cells + 1 ≤ R.cells) (hRslots : slots + 6 ≤ R.slots) (hlocks : meth.locks = false)
    (hx : ∀ t : State, s.vm.Alike t.vm → H.size ≤ t.heap.size → (∀ q : Nat, q < H.size → t.heap[q]? = H[q]?) → XC cls s t)
    (hf : ∀ z ∈ locs, free z.base) (hc : cells + 1 ≤ mc) (hs : slots + 6 ≤ ms) :
    W p l e R s m args below meth c H locs cells slots (vx_MQ below Qc XC args s mc ms free) (F0 m pc ls rest) := by
  intro T hT X
  have htr : e.platform.stackTraces = false := (show e.platform.stackTraces = l.stackTraces by rw [X.admits.platform]).trans hl
  have Y := vx_rebase X (R' := { frames := R.frames, locals := R.locals, cells := 1, slots := 6 }) (Nat.le_refl _) (Nat.le_refl _) hRcells hRslots
  obtain ⟨s', hA⟩ : ∃ z, z = (T.setVm s.vm).setFrames (.invoking m args :: below) := ⟨_, rfl⟩
  rw [← hA] at Y
  have hvm : s'.vm = s.vm := by rw [hA]; rfl
  have hhp : s'.heap = H := by rw [hA]; exact hT
  have hW0 : s.WarmedH s'.vm := by rw [hvm]; exact State.WarmedH.refl s
  have hat' : ∀ w ∈ vx_at0 own ic cls names, w.before args s' = true := fun w hw => vx_ot_at hW0 hvm.symm (hgood w (List.mem_cons_of_mem _ (List.mem_cons_of_mem _ hw))) (hat w hw)
  have hk' : (Cond.classLink own ik cls).before args s' = true := vx_ot_at hW0 hvm.symm (hgood _ List.mem_cons_self) hk
  have hini' : (Cond.initialized cls).before args s' = true := vx_ot_at hW0 hvm.symm (hgood _ (List.mem_cons_of_mem _ List.mem_cons_self)) hini
  have hU' : vx_Zq Bundle.tN "UNASSIGNED_STACK" Bundle.steD A s' s'.heap := by rw [hhp]; exact vx_Zq.moved hW0.alike (hU.kept hS.2.1)
  have hN' : vx_Zq Bundle.tN "SUPPRESSED_SENTINEL" Bundle.listD A s' s'.heap := by rw [hhp]; exact vx_Zq.moved hW0.alike (hN.kept hS.2.1)
  have h : ∀ w ∈ Bundle.ownAtoms0 own ic cls names, w.before args s' = true := vx_own hat' (vx_isRefq hU'.1) (vx_isRefq hN'.1) hU'.2.word hN'.2.word
  have hown' : s'.vm.findClass own = some m.cls := by rw [hvm]; exact hown
  have hins : (Cond.instantiable cls 6).before args s' = true := h _ (by simp [Bundle.ownAtoms0])
  obtain ⟨vm₁, cX, kX, hfX, hkX, -, -, X₁, st1⟩ := Y.newCold hexec (own := own) (C := cls) (index := ik) (n := 6) hown' hk' hins hini'
    (g := F0 m pc ls rest) rfl (by rw [hb]; exact d0) (Nat.le_refl _) (Nat.le_refl _)
  generalize hT1 : (T.setVm vm₁).pushCell { cls := cX, slots := kX.instanceTypes.map defaultValue, vm := .none } = T1 at X₁ st1
  have hcat : (Value.ref T.heap.size).category = 1 := rfl
  have hcellA : T1.heap[T.heap.size]? = some (freshCell cX kX) := by rw [← hT1]; exact State.heap_pushCell_size _ _
  have d3' : decode c.code (pc + 3) = .ok (.dup, 1) := by rw [hb]; exact d3
  obtain ⟨U, hsteps, hrun, hend, hW, hsame, ce, hce, hO⟩ := X₁.ctorThrow0 hexec htr (own := own) (cls := cls) (names := names) (ic := ic) hown' hcls hnames h (fun x hx => nomatch hx) hfX hkX hcellA (by rw [hhp, hT]; exact Nat.le_refl _)
    (g := { method := m, pc := pc + 4, locals := ls, stack := .ref T.heap.size :: .ref T.heap.size :: rest, locked := none }) rfl hsize rfl rfl (rest := rest) rfl
    (by rw [hb]; exact d4) (by rw [hb]; exact d7) hout hRframes (by simp only [List.map_cons, List.sum_cons, hcat]; omega) hlocks
  obtain ⟨f1, f2⟩ := vx_frame hsame
  rw [hhp] at f1 f2
  have hWs : s.WarmedH U.vm := State.WarmedH.trans hW0 hW
  have hcl : s.vm.findClass cls = some ce.cls := by
    have h9 := hO.cls
    rw [hvm] at h9
    exact h9
  have hall : s.sameButNew ({ U with vm := s.vm } : State) locs mc ms := by
    subst hA
    obtain ⟨e1, e2⟩ := hsame
    rw [State.setFrames_setFrames] at e1
    have h2 : (T.setVm s.vm).sameButNew ({ U with vm := s.vm } : State) [] (0 + 1) (0 + 6) := ⟨e1, e2⟩
    have h3 := X.same.trans h2
    rw [List.append_nil] at h3
    exact h3.mono hc hs
  refine ⟨U, ?_, .threw T.heap.size, hrun, hend, Or.inr ⟨T.heap.size, rfl, cls, ce, locs, hx U hWs.alike f1 (fun q hq => f2 q hq (fun z hz => nomatch hz)), hce, hO.vm, hcl, hWs, hall, hf⟩⟩
  refine st1 _ ?_
  show Steps p.tables e below (T1.setTop { method := m, pc := pc + 3, locals := ls, stack := .ref T.heap.size :: rest, locked := none }) _
  jvm_step X₁.here [X₁.here.top, hexec, d3', Value.category]
  exact hsteps
/-- 'throw new E("text")': new; dup; ldc; invokespecial; athrow -/
theorem vx_throwS {cc : ByteArray} {pc : Nat} (hexec : p.tables.exec = Jvm.exec) (hb : c.code = cc) (hl : l.stackTraces = false) {own cls text : String} {names : List String} {ik is ic mc ms sa : Nat} {A : Nat → Prop}
    (hown : s.vm.findClass own = some m.cls) (hcls : Bundle.fit cls = true) (hnames : ∀ n ∈ names, Bundle.fit n = true)
    (hk : (Cond.classLink own ik cls).before args s = true) (hini : (Cond.initialized cls).before args s = true) (hstr : vk_R own is text sa s) (hat : ∀ w ∈ vx_atS own ic cls names, w.before args s = true)
    (hgood : ∀ w ∈ Cond.classLink own ik cls :: Cond.initialized cls :: vx_atS own ic cls names, vx_ot w = true)
    (hU : vx_Zq Bundle.tN "UNASSIGNED_STACK" Bundle.steD A s s.heap) (hN : vx_Zq Bundle.tN "SUPPRESSED_SENTINEL" Bundle.listD A s s.heap) (hS : va_S A s.heap H locs) (hsize : ls.size = c.maxLocals)
    (d0 : decode cc pc = .ok (.new ik, 3)) (d3 : decode cc (pc + 3) = .ok (.dup, 1)) (d4 : decode cc (pc + 4) = .ok (.ldc is, 2)) (d6 : decode cc (pc + 6) = .ok (.invokespecial ic, 3)) (d9 : decode cc (pc + 9) = .ok (.athrow, 1))
    (hout : ∀ x ∈ c.exceptionTable.toList, covers x (pc + 9) = false)
    (hRframes : names.length + 3 < R.frames) (hRlocals : (rest.map fun v => v.category).sum + (13 * (names.length + 1) + 43) ≤ R.locals) (hRcells : cells + 1 ≤ R.cells) (hRslots : slots + 6 ≤ R.slots) (hlocks : meth.locks = false)
    (hx : ∀ t : State, s.vm.Alike t.vm → H.size ≤ t.heap.size → (∀ q : Nat, q < H.size → t.heap[q]? = H[q]?) → XC cls s t)
    (hf : ∀ z ∈ locs, free z.base) (hc : cells + 1 ≤ mc) (hs : slots + 6 ≤ ms) :
    W p l e R s m args below meth c H locs cells slots (vx_MQ below Qc XC args s mc ms free) (F0 m pc ls rest) := by
  intro T hT X
  have htr : e.platform.stackTraces = false := (show e.platform.stackTraces = l.stackTraces by rw [X.admits.platform]).trans hl
  have Y := vx_rebase X (R' := { frames := R.frames, locals := R.locals, cells := 1, slots := 6 }) (Nat.le_refl _) (Nat.le_refl _) hRcells hRslots
  obtain ⟨s', hA⟩ : ∃ z, z = (T.setVm s.vm).setFrames (.invoking m args :: below) := ⟨_, rfl⟩
  rw [← hA] at Y
  have hvm : s'.vm = s.vm := by rw [hA]; rfl
  have hhp : s'.heap = H := by rw [hA]; exact hT
  have hW0 : s.WarmedH s'.vm := by rw [hvm]; exact State.WarmedH.refl s
  have hat' : ∀ w ∈ vx_atS own ic cls names, w.before args s' = true := fun w hw => vx_ot_at hW0 hvm.symm (hgood w (List.mem_cons_of_mem _ (List.mem_cons_of_mem _ hw))) (hat w hw)
  have hk' : (Cond.classLink own ik cls).before args s' = true := vx_ot_at hW0 hvm.symm (hgood _ List.mem_cons_self) hk
  have hini' : (Cond.initialized cls).before args s' = true := vx_ot_at hW0 hvm.symm (hgood _ (List.mem_cons_of_mem _ List.mem_cons_self)) hini
  have hU' : vx_Zq Bundle.tN "UNASSIGNED_STACK" Bundle.steD A s' s'.heap := by rw [hhp]; exact vx_Zq.moved hW0.alike (hU.kept hS.2.1)
  have hN' : vx_Zq Bundle.tN "SUPPRESSED_SENTINEL" Bundle.listD A s' s'.heap := by rw [hhp]; exact vx_Zq.moved hW0.alike (hN.kept hS.2.1)
  have h : ∀ w ∈ Bundle.ownAtoms own ic cls names, w.before args s' = true := vx_own hat' (vx_isRefq hU'.1) (vx_isRefq hN'.1) hU'.2.word hN'.2.word
  have hown' : s'.vm.findClass own = some m.cls := by rw [hvm]; exact hown
  have hins : (Cond.instantiable cls 6).before args s' = true := h _ (by simp [Bundle.ownAtoms])
  obtain ⟨vm₁, cX, kX, hfX, hkX, -, -, X₁, st1⟩ := Y.newCold hexec (own := own) (C := cls) (index := ik) (n := 6) hown' hk' hins hini'
    (g := F0 m pc ls rest) rfl (by rw [hb]; exact d0) (Nat.le_refl _) (Nat.le_refl _)
  generalize hT1 : (T.setVm vm₁).pushCell { cls := cX, slots := kX.instanceTypes.map defaultValue, vm := .none } = T1 at X₁ st1
  have hcat : (Value.ref T.heap.size).category = 1 := rfl
  have hcellA : T1.heap[T.heap.size]? = some (freshCell cX kX) := by rw [← hT1]; exact State.heap_pushCell_size _ _
  have d3' : decode c.code (pc + 3) = .ok (.dup, 1) := by rw [hb]; exact d3
  have d4' : decode c.code (pc + 4) = .ok (.ldc is, 2) := by rw [hb]; exact d4
  have hstr' : vk_R own is text sa s' := vk_R.warm hW0 hstr
  obtain ⟨U, hsteps, hrun, hend, hW, hsame, ce, hce, hO⟩ := X₁.ctorThrowS hexec htr (own := own) (cls := cls) (names := names) (ic := ic) hown' hcls hnames h (fun x hx => nomatch hx) hfX hkX hcellA (by rw [hhp, hT]; exact Nat.le_refl _) (msg := .ref sa) rfl
    (g := { method := m, pc := pc + 6, locals := ls, stack := .ref sa :: .ref T.heap.size :: .ref T.heap.size :: rest, locked := none }) rfl hsize rfl rfl (rest := rest) rfl
    (by rw [hb]; exact d6) (by rw [hb]; exact d9) hout hRframes (by simp only [List.map_cons, List.sum_cons, hcat]; omega) hlocks
  obtain ⟨f1, f2⟩ := vx_frame hsame
  rw [hhp] at f1 f2
  have hWs : s.WarmedH U.vm := State.WarmedH.trans hW0 hW
  have hcl : s.vm.findClass cls = some ce.cls := by
    have h9 := hO.cls
    rw [hvm] at h9
    exact h9
  have hall : s.sameButNew ({ U with vm := s.vm } : State) locs mc ms := by
    subst hA
    obtain ⟨e1, e2⟩ := hsame
    rw [State.setFrames_setFrames] at e1
    have h2 : (T.setVm s.vm).sameButNew ({ U with vm := s.vm } : State) [] (0 + 1) (0 + 6) := ⟨e1, e2⟩
    have h3 := X.same.trans h2
    rw [List.append_nil] at h3
    exact h3.mono hc hs
  refine ⟨U, ?_, .threw T.heap.size, hrun, hend, Or.inr ⟨T.heap.size, rfl, cls, ce, locs, hx U hWs.alike f1 (fun q hq => f2 q hq (fun z hz => nomatch hz)), hce, hO.vm, hcl, hWs, hall, hf⟩⟩
  refine st1 _ ?_
  show Steps p.tables e below (T1.setTop { method := m, pc := pc + 3, locals := ls, stack := .ref T.heap.size :: rest, locked := none }) _
  jvm_step X₁.here [X₁.here.top, hexec, d3', Value.category]
  exact X₁.ldcString hexec (own := own) (text := text) (index := is) (a := sa) hown' hstr'.1 hstr'.2
    (g := { method := m, pc := pc + 4, locals := ls, stack := .ref T.heap.size :: .ref T.heap.size :: rest, locked := none }) rfl d4' _ hsteps
/-- 'throw new E("text")', the text by a wide index -/
theorem vx_throwSW {cc : ByteArray} {pc : Nat} (hexec : p.tables.exec = Jvm.exec) (hb : c.code = cc) (hl : l.stackTraces = false) {own cls text : String} {names : List String} {ik is ic mc ms sa : Nat} {A : Nat → Prop}
    (hown : s.vm.findClass own = some m.cls) (hcls : Bundle.fit cls = true) (hnames : ∀ n ∈ names, Bundle.fit n = true)
    (hk : (Cond.classLink own ik cls).before args s = true) (hini : (Cond.initialized cls).before args s = true) (hstr : vk_R own is text sa s) (hat : ∀ w ∈ vx_atS own ic cls names, w.before args s = true)
    (hgood : ∀ w ∈ Cond.classLink own ik cls :: Cond.initialized cls :: vx_atS own ic cls names, vx_ot w = true)
    (hU : vx_Zq Bundle.tN "UNASSIGNED_STACK" Bundle.steD A s s.heap) (hN : vx_Zq Bundle.tN "SUPPRESSED_SENTINEL" Bundle.listD A s s.heap) (hS : va_S A s.heap H locs) (hsize : ls.size = c.maxLocals)
    (d0 : decode cc pc = .ok (.new ik, 3)) (d3 : decode cc (pc + 3) = .ok (.dup, 1)) (d4 : decode cc (pc + 4) = .ok (.ldc_w is, 3)) (d7 : decode cc (pc + 7) = .ok (.invokespecial ic, 3)) (d10 : decode cc (pc + 10) = .ok (.athrow, 1))
    (hout : ∀ x ∈ c.exceptionTable.toList, covers x (pc + 10) = false)
    (hRframes : names.length + 3 < R.frames) (hRlocals : (rest.map fun v => v.category).sum + (13 * (names.length + 1) + 43) ≤ R.locals) (hRcells : cells + 1 ≤ R.cells) (hRslots : slots + 6 ≤ R.slots) (hlocks : meth.locks = false)
    (hx : ∀ t : State, s.vm.Alike t.vm → H.size ≤ t.heap.size → (∀ q : Nat, q < H.size → t.heap[q]? = H[q]?) → XC cls s t)
    (hf : ∀ z ∈ locs, free z.base) (hc : cells + 1 ≤ mc) (hs : slots + 6 ≤ ms) :
    W p l e R s m args below meth c H locs cells slots (vx_MQ below Qc XC args s mc ms free) (F0 m pc ls rest) := by
  intro T hT X
  have htr : e.platform.stackTraces = false := (show e.platform.stackTraces = l.stackTraces by rw [X.admits.platform]).trans hl
  have Y := vx_rebase X (R' := { frames := R.frames, locals := R.locals, cells := 1, slots := 6 }) (Nat.le_refl _) (Nat.le_refl _) hRcells hRslots
  obtain ⟨s', hA⟩ : ∃ z, z = (T.setVm s.vm).setFrames (.invoking m args :: below) := ⟨_, rfl⟩
  rw [← hA] at Y
  have hvm : s'.vm = s.vm := by rw [hA]; rfl
  have hhp : s'.heap = H := by rw [hA]; exact hT
  have hW0 : s.WarmedH s'.vm := by rw [hvm]; exact State.WarmedH.refl s
  have hat' : ∀ w ∈ vx_atS own ic cls names, w.before args s' = true := fun w hw => vx_ot_at hW0 hvm.symm (hgood w (List.mem_cons_of_mem _ (List.mem_cons_of_mem _ hw))) (hat w hw)
  have hk' : (Cond.classLink own ik cls).before args s' = true := vx_ot_at hW0 hvm.symm (hgood _ List.mem_cons_self) hk
  have hini' : (Cond.initialized cls).before args s' = true := vx_ot_at hW0 hvm.symm (hgood _ (List.mem_cons_of_mem _ List.mem_cons_self)) hini
  have hU' : vx_Zq Bundle.tN "UNASSIGNED_STACK" Bundle.steD A s' s'.heap := by rw [hhp]; exact vx_Zq.moved hW0.alike (hU.kept hS.2.1)
  have hN' : vx_Zq Bundle.tN "SUPPRESSED_SENTINEL" Bundle.listD A s' s'.heap := by rw [hhp]; exact vx_Zq.moved hW0.alike (hN.kept hS.2.1)
  have h : ∀ w ∈ Bundle.ownAtoms own ic cls names, w.before args s' = true := vx_own hat' (vx_isRefq hU'.1) (vx_isRefq hN'.1) hU'.2.word hN'.2.word
  have hown' : s'.vm.findClass own = some m.cls := by rw [hvm]; exact hown
  have hins : (Cond.instantiable cls 6).before args s' = true := h _ (by simp [Bundle.ownAtoms])
  obtain ⟨vm₁, cX, kX, hfX, hkX, -, -, X₁, st1⟩ := Y.newCold hexec (own := own) (C := cls) (index := ik) (n := 6) hown' hk' hins hini'
    (g := F0 m pc ls rest) rfl (by rw [hb]; exact d0) (Nat.le_refl _) (Nat.le_refl _)
  generalize hT1 : (T.setVm vm₁).pushCell { cls := cX, slots := kX.instanceTypes.map defaultValue, vm := .none } = T1 at X₁ st1
  have hcat : (Value.ref T.heap.size).category = 1 := rfl
  have hcellA : T1.heap[T.heap.size]? = some (freshCell cX kX) := by rw [← hT1]; exact State.heap_pushCell_size _ _
  have d3' : decode c.code (pc + 3) = .ok (.dup, 1) := by rw [hb]; exact d3
  have d4' : decode c.code (pc + 4) = .ok (.ldc_w is, 3) := by rw [hb]; exact d4
  have hstr' : vk_R own is text sa s' := vk_R.warm hW0 hstr
  obtain ⟨U, hsteps, hrun, hend, hW, hsame, ce, hce, hO⟩ := X₁.ctorThrowS hexec htr (own := own) (cls := cls) (names := names) (ic := ic) hown' hcls hnames h (fun x hx => nomatch hx) hfX hkX hcellA (by rw [hhp, hT]; exact Nat.le_refl _) (msg := .ref sa) rfl
    (g := { method := m, pc := pc + 7, locals := ls, stack := .ref sa :: .ref T.heap.size :: .ref T.heap.size :: rest, locked := none }) rfl hsize rfl rfl (rest := rest) rfl
    (by rw [hb]; exact d7) (by rw [hb]; exact d10) hout hRframes (by simp only [List.map_cons, List.sum_cons, hcat]; omega) hlocks
  obtain ⟨f1, f2⟩ := vx_frame hsame
  rw [hhp] at f1 f2
  have hWs : s.WarmedH U.vm := State.WarmedH.trans hW0 hW
  have hcl : s.vm.findClass cls = some ce.cls := by
    have h9 := hO.cls
    rw [hvm] at h9
    exact h9
  have hall : s.sameButNew ({ U with vm := s.vm } : State) locs mc ms := by
    subst hA
    obtain ⟨e1, e2⟩ := hsame
    rw [State.setFrames_setFrames] at e1
    have h2 : (T.setVm s.vm).sameButNew ({ U with vm := s.vm } : State) [] (0 + 1) (0 + 6) := ⟨e1, e2⟩
    have h3 := X.same.trans h2
    rw [List.append_nil] at h3
    exact h3.mono hc hs
  refine ⟨U, ?_, .threw T.heap.size, hrun, hend, Or.inr ⟨T.heap.size, rfl, cls, ce, locs, hx U hWs.alike f1 (fun q hq => f2 q hq (fun z hz => nomatch hz)), hce, hO.vm, hcl, hWs, hall, hf⟩⟩
  refine st1 _ ?_
  show Steps p.tables e below (T1.setTop { method := m, pc := pc + 3, locals := ls, stack := .ref T.heap.size :: rest, locked := none }) _
  jvm_step X₁.here [X₁.here.top, hexec, d3', Value.category]
  exact X₁.ldcStringW hexec (own := own) (text := text) (index := is) (a := sa) hown' hstr'.1 hstr'.2
    (g := { method := m, pc := pc + 4, locals := ls, stack := .ref T.heap.size :: .ref T.heap.size :: rest, locked := none }) rfl d4' _ hsteps
end Ends
section Bodies
variable {l : Launch}
theorem vx_ofW {y : MethodName} {ws ws' : List Cond} {rm : Room} {Pc : Array Value → State → Prop} {Qc : Array Value → State → Outcome → State → Prop} {XC : String → State → State → Prop} {mc ms : Nat} {free : Addr → Prop} {cc : ByteArray} {maxL : Nat} {ret : Option FieldType}
    (hy : plainName y.cls = true) (hw : ws = Cond.code y cc maxL ret :: ws')
    (body : ∀ p e s m args below meth c s₁, BodyLoose p l y (headSpec ws rm) cc maxL ret e s m args below meth c s₁ → c.maxLocals = maxL → (∀ x ∈ c.exceptionTable.toList, False) → Pc args s →
      W p l e (headSpec ws rm).room s m args below meth c s.heap [] 0 0 (vx_MQ below Qc XC args s mc ms free) (entryFrame m args maxL)) : vx_Met l y ws rm Pc Qc XC mc ms free := by
  refine MetFree.of_bodyS (code := cc) (maxLocals := maxL) (ret := ret) hy ?_ ?_
  · intro args s m h hn
    obtain ⟨meth, c, h1, h2, h3, h4, h5, h6, -, -⟩ := Cond.code_spec hn (atoms_spec (ws := ws) h _ (by rw [hw]; exact List.mem_cons_self))
    exact ⟨meth, c, h1, h2, h3, h4, h5, h6⟩
  · intro p e s m args below meth c s₁ B hml hP _
    have hh0 : s₁.heap = s.heap := by rw [B.state]; rfl
    have ht : ∀ x ∈ c.exceptionTable.toList, False := by
      obtain ⟨meth9, c9, h1, h2, -, -, -, -, h7, -⟩ := Cond.code_spec B.named (atoms_spec (ws := ws) B.pre _ (by rw [hw]; exact List.mem_cons_self))
      cases Option.some.inj (h1.symm.trans B.method)
      cases Option.some.inj (h2.symm.trans (Stand.of_body B).code)
      intro x hx
      rw [Array.isEmpty_iff.mp h7] at hx
      cases hx
    obtain ⟨t, a1, o, b1, b2, b3⟩ := body p e s m args below meth c s₁ B hml ht hP s₁ hh0 (Stand.of_body B)
    exact ⟨t, o, a1, b1, b2, b3⟩
/-- the table of a body with handlers -/
theorem vx_table {p : Program} {x y : MethodName} {S : Spec} {cc bytes : ByteArray} {maxL maxL' : Nat} {ret ret' : Option FieldType} {e : Env} {s s₁ : State} {m : MethodId} {args : Array Value} {below : List Frame} {meth : Method} {c : Code} {hh : List (Nat × Nat × Nat × Nat)}
    (B : BodyLoose p l y S cc maxL ret e s m args below meth c s₁) (h : (Cond.codeWith y bytes maxL' ret' hh).before args s = true) : c.exceptionTable.toList = tableOf hh := by
  obtain ⟨m9, meth9, c9, hn9, h1, h2, -, -, h6, -⟩ := Cond.codeWith_spec h
  cases Option.some.inj (hn9.symm.trans B.named)
  cases Option.some.inj (h1.symm.trans B.method)
  cases Option.some.inj (h2.symm.trans (Stand.of_body B).code)
  rw [← h6, table_eq]
end Bodies
end VXA
/-! ===== END ===== -/
/-! ===== BEGIN a static call of a method with an exception table ===== -/
section VXS
variable {p : Program} {l : Launch} {e : Env} {R : Room} {s : State} {m : MethodId} {args : Array Value} {below : List Frame} {meth : Method} {c : Code} {T : State} {H : Heap} {locs : List Loc} {cells slots : Nat}
abbrev vx_CSW (R : Room) (s : State) (args : Array Value) (own : String) (index : Nat) (y : MethodName) (bytes : ByteArray) (maxL : Nat) (ret : Option FieldType) (hh : List (Nat × Nat × Nat × Nat)) (ws : List Cond) (rm : Room) (mc ms n : Nat) : Prop :=
  (rm.cells = mc ∧ rm.slots = ms ∧ rm.frames + 1 ≤ R.frames ∧ 8 + (maxL + 11) + rm.locals ≤ R.locals ∧ (∀ w ∈ ws, ∀ (a' : Array Value) (U : State), s.WarmedH U.vm → w.before a' U = true) ∧ Cond.codeWith y bytes maxL ret hh ∈ ws) ∧
  (Cond.codeWith y bytes maxL ret hh).before args s = true ∧ (Cond.initialized y.cls).before args s = true ∧ (y.cls ≠ "java/lang/invoke/MethodHandle" ∧ y.cls ≠ "java/lang/invoke/VarHandle") ∧
  (∀ sig, parseMethodDescriptor y.desc = some sig → n = sig.parameters.length) ∧ (Cond.methodLink own index y).before args s = true ∧ (Cond.static y).before args s = true
theorem vx_cwSW {own : String} {index maxL mc ms : Nat} {y : MethodName} {bytes : ByteArray} {ret : Option FieldType} {hh : List (Nat × Nat × Nat × Nat)} {Ts ws ws' : List Cond} {rm : Room} (n : Nat) (ht : ∀ w ∈ Ts, w.before args s = true) (hT : GoodIn Ts (va_wsS own index y ws)) (hw : ws = Cond.codeWith y bytes maxL ret hh :: ws') (hrc : rm.cells = mc) (hrs : rm.slots = ms)
    (hd : y.cls ≠ "java/lang/invoke/MethodHandle" ∧ y.cls ≠ "java/lang/invoke/VarHandle" ∧ (parseMethodDescriptor y.desc).map (fun d => d.parameters.length) = some n) (hR : rm.frames + 1 ≤ R.frames ∧ 8 + (maxL + 11) + rm.locals ≤ R.locals) :
    vx_CSW R s args own index y bytes maxL ret hh ws rm mc ms n := by
  have ok : ∀ w ∈ va_wsS own index y ws, w.before args s = true := fun w h => ht w (hT w h).1
  have hG : GoodIn Ts ws := fun w h => hT w (by unfold va_wsS; exact List.mem_append_right _ h)
  have hc : Cond.codeWith y bytes maxL ret hh ∈ ws := by rw [hw]; exact List.mem_cons_self
  refine ⟨⟨hrc, hrs, hR.1, hR.2, pay_in ht hG, hc⟩, ht _ (hG _ hc).1, ok _ (by simp [va_wsS]), ⟨hd.1, hd.2.1⟩, fun sig h => ?_, ok _ (by simp [va_wsS]), ok _ (by simp [va_wsS])⟩
  have h2 := hd.2.2
  rw [h] at h2
  exact (Option.some.inj h2).symm
theorem vx_callSW (X : Stand p l e R s m args below meth c T locs cells slots) (hexec : p.tables.exec = Jvm.exec) {own : String} {index : Nat} {y : MethodName} {bytes : ByteArray} {maxL : Nat} {ret : Option FieldType} {hh : List (Nat × Nat × Nat × Nat)}
    (hown : s.vm.findClass own = some m.cls) (hlink : (Cond.methodLink own index y).before args s = true) (hstat : (Cond.static y).before args s = true) (hinit : (Cond.initialized y.cls).before args s = true)
    (hcode : (Cond.codeWith y bytes maxL ret hh).before args s = true) (hy : y.cls ≠ "java/lang/invoke/MethodHandle" ∧ y.cls ≠ "java/lang/invoke/VarHandle")
    {W9 : Nat} {Pre : Pt → Array Value → Prop} {Post : Pt → Array Value → Option Value → Pt → Prop} (hK : Back l R p e below s args y 3 W9 Pre Post)
    {g : JFrame} (hg : g.method = m) (hsize : g.locals.size = c.maxLocals) {argsL rest : List Value} (hlen : ∀ sig, parseMethodDescriptor y.desc = some sig → argsL.length = sig.parameters.length)
    (hstack : g.stack = argsL.reverse ++ rest) (hW : 2 * g.monitorRoom + (rest.map fun v => v.category).sum ≤ W9) (hdg : decode c.code g.pc = .ok (.invokestatic index, 3))
    (hpre : ∀ vm₁, s.WarmedH vm₁ → Pre ⟨T.setVm vm₁, locs, cells, slots⟩ argsL.toArray) :
    ∃ (v : Option Value) (vm₁ : Vm) (B : Pt), s.WarmedH vm₁ ∧ Stand p l e R s m args below meth c B.U B.locs B.cells B.slots ∧ Post ⟨T.setVm vm₁, locs, cells, slots⟩ argsL.toArray v B ∧
      ∀ target, Steps p.tables e below (B.U.setTop { g with pc := g.pc + 3, stack := v.toList ++ rest }) target → Steps p.tables e below (T.setTop g) target := by
  obtain ⟨mk, methM, cM, hnamed, hmethM, -, -, -, -, -, -, hsigM⟩ := Cond.codeWith_spec hcode
  have hstatic : methM.isStatic = true := Cond.static_spec hnamed hmethM hstat
  obtain ⟨kP, hkP, -⟩ := className_of_methodNamed hnamed
  have hinitP : kP.init = .initialized := Cond.initialized_spec (findClass_of_methodNamed hnamed) hkP hinit
  obtain ⟨vm₁, X₁, hstep₁⟩ := X.invokestatic hexec hown hlink hnamed hmethM hstatic hkP hinitP hy (g := g) hg (argsL := argsL) (rest := rest) (hlen _ hsigM) hstack hdg
  obtain ⟨v, B, X', hpost, hsteps⟩ := hK m meth c ⟨T.setVm vm₁, locs, cells, slots⟩ { g with stack := rest } (.invokestatic index) mk argsL.toArray X₁ hg hsize hdg hW (X₁.named hnamed) (hpre vm₁ X₁.warmed)
  exact ⟨v, vm₁, B, X₁.warmed, X', hpost, fun target h => hstep₁ _ fun acts => by rw [doInvoke_state]; exact hsteps.trans h⟩
theorem vx_runSW {y : MethodName} {bytes cc : ByteArray} {maxL nL mc ms n index : Nat} {ret : Option FieldType} {hh : List (Nat × Nat × Nat × Nat)} {ws : List Cond} {rm : Room} {Pc : Array Value → State → Prop} {Qc : Array Value → State → Outcome → State → Prop} {free : Addr → Prop} {Ts : List Cond} {own : String} {As rest : List Value} {g : JFrame}
    (S : CallFix p m c cc nL s args Ts own) (hM : Met l y ws rm Pc Qc mc ms free) (cw : vx_CSW R s args own index y bytes maxL ret hh ws rm mc ms n) (hp : PreS s H Pc As)
    (hg : g.method = m) (hn : As.length = n) (hsize : g.locals.size = nL) (hstack : g.stack = As.reverse ++ rest) (hW : 2 * g.monitorRoom + (rest.map fun v => v.category).sum ≤ 8) (hdg : decode cc g.pc = .ok (.invokestatic index, 3)) (hf : cells + mc ≤ R.cells ∧ slots + ms ≤ R.slots) :
    va_Run p l e R s m args below meth c H locs cells slots mc ms g rest (Qc As.toArray) (free) := by
  obtain ⟨⟨hrc, hrs, hfr, hlo, hws, hcw⟩, hcode, hini, hy, hlen, hl, hstt⟩ := cw
  have hK : Back l R p e below s args y 3 8 (PreOf R mc ms Pc) (PostOf Qc mc ms free) := va_backW (hh := hh) (bytes := bytes) (maxL := maxL) (ret := ret) hM hp.1 hrc hrs hfr hlo hws hcw (fun a' U hW => word_at hW (Or.inl (by first | rfl | simp [Cond.onTables, Cond.keeps, Cond.steady])) hini)
  obtain ⟨hx, hb, hml, ho, -⟩ := S
  intro T hT X
  obtain ⟨v, vm₁, ⟨U', l2, c2, s2⟩, hW₁, X', ⟨g', mk, t, L, e1, e2, hq, h1, hL, h2, h3⟩, st⟩ := vx_callSW X hx (hh := hh) (bytes := bytes) (maxL := maxL) (ret := ret) ho hl hstt hini hcode hy hK hg (hsize.trans hml.symm) (argsL := As) (rest := rest) (fun sig h => hn.trans (hlen sig h)) hstack hW (by rw [hb]; exact hdg)
    (fun vm₁ hW₁ => ⟨hf.1, hf.2, hp.2 (T.setVm vm₁) hT hW₁⟩)
  dsimp only [Pt.U, Pt.locs, Pt.cells, Pt.slots] at X' e1 e2 h1 h2 h3 st
  subst h1; subst h2; subst h3
  exact ⟨v, (T.setVm vm₁).calling g' mk As.toArray, t, U', L, hT, X', hL, e1, e2, hq, st⟩
/-- not caught here, past rows that name other classes: it goes on to the caller -/
theorem vx_outP {p : Program} {l : Launch} {e : Env} {R : Room} {s : State} {m : MethodId} {args : Array Value} {below : List Frame} {meth : Method} {c : Code} {H : Heap} {locs : List Loc} {cells slots : Nat} {free : Addr → Prop} {ls : Array Slot} {rest : List Value} {Qc : Array Value → State → Outcome → State → Prop} {XC : String → State → State → Prop}
    {pc : Nat} {own E : String} {ce : Cell} {q : Addr} {mc ms : Nat} (hown : s.vm.findClass own = some m.cls) (hlocks : meth.locks = false)
    (hpass : ∀ z ∈ c.exceptionTable.toList, covers z pc = false ∨ (z.catchType ≠ 0 ∧ ∃ nm : String, (Cond.classLink own z.catchType nm).before args s = true ∧ va_Nc E nm s)) (hcell : H[q]? = some ce) (hv : ce.vm = .none) (hcl : s.vm.findClass E = some ce.cls)
    (hx : ∀ t : State, t.heap = H → s.vm.Alike t.vm → XC E s t) (hf : ∀ z ∈ locs, free z.base) (hc : cells ≤ mc) (hs : slots ≤ ms) :
    vx_W p l e R s m args below meth c H locs cells slots (vx_MQ below Qc XC args s mc ms free) (F0 m pc ls rest) q := by
  intro T hT X
  have hpl : e.platform.magicAccessors = ({} : Platform).magicAccessors := by rw [X.admits.platform]
  obtain ⟨vm', hW', X', st⟩ := X.outThrough hlocks q (g := F0 m pc ls rest) rfl rfl rfl (cell := ce) (by rw [hT]; exact hcell) (by rw [hv]; rfl)
    (by obtain ⟨k9, h9, -⟩ := Vm.findClass_spec hcl; exact ⟨k9, h9⟩) (fun z hz => by
      rcases hpass z hz with h | ⟨hz0, nm, hl1, hn1⟩
      · exact Or.inl h
      · obtain ⟨c6, hc6, hcl6⟩ := Cond.classLink_spec hown hl1 e.platform hpl
        obtain ⟨a8, b8, h1, h2, h3⟩ := hn1
        cases Option.some.inj (h1.symm.trans hcl)
        cases Option.some.inj (h2.symm.trans hc6)
        exact Or.inr ⟨hz0, _, hcl6, h3⟩)
  obtain ⟨g₀, hfr⟩ := X'.frames_eq
  have hcell9 : ((T.setVm vm').setFrames (.throwing q :: below)).heap[q]? = some ce := by
    show T.heap[q]? = some ce
    rw [hT]; exact hcell
  have hend : Ended ((T.setVm vm').setFrames (.throwing q :: below)) below (.threw q) := State.frames_setFrames _ (State.cur_lt_of_frames hfr)
  refine ⟨(T.setVm vm').setFrames (.throwing q :: below), ?_, .threw q, X'.here.running, hend, Or.inr ⟨q, rfl, E, ce, locs, hx _ hT (X'.ends _).1.alike, hcell9, hv, hcl, (X'.ends _).1, (X'.ends _).2.mono hc hs, hf⟩⟩
  rw [X.pushThrowing_eq]
  exact st
/-- a thing of a world lies in the heap -/
theorem vx_lt {D : va_G} {cl : List vw_C} {ws : va_W} {H1 : Heap} (h : va_P D cl ws H1) {k : Nat} {q : Nat × va_E} (hk : ws[k]? = some q) : q.1 < H1.size := (h k q hk).lt
end VXS
/-! ===== END ===== -/
/-! ===== BEGIN methods with a table of their own: called by a name, returning or throwing ===== -/
section VXH
/-! vx_backW, vx_callVX, vx_callSX, vx_callVW, vx_runVW, vx_runVX, vx_runSX, vx_ofWH follow the same proofs as their sisters above (Free/Laws.lean, Shelf42/LK1.lean); vx_outP calls Shelf42/NT130.lean (outThrough). -/
section
variable {l : Launch} {R : Room} {p : Program} {e : Env} {below : List Frame} {s : State} {sargs : Array Value} {y : MethodName} {len W9 : Nat}
theorem vx_backW {ws : List Cond} {rm : Room} {Pc : Array Value → State → Prop} {Qc : Array Value → State → Outcome → State → Prop} {XC : String → State → State → Prop} {mc ms : Nat} {free : Addr → Prop} {bytes : ByteArray} {maxL : Nat} {ret : Option FieldType} {hh : List (Nat × Nat × Nat × Nat)}
    (hM : vx_Met l y ws rm Pc Qc XC mc ms free) (hblind : FrameBlind Pc) (hrc : rm.cells = mc) (hrs : rm.slots = ms)
    (hframes : rm.frames + 1 ≤ R.frames) (hlocals : W9 + (maxL + 11) + rm.locals ≤ R.locals)
    (hws : ∀ w ∈ ws, ∀ a' U, s.WarmedH U.vm → w.before a' U = true) (hcode : Cond.codeWith y bytes maxL ret hh ∈ ws) (hinit : ∀ a' U, s.WarmedH U.vm → (Cond.initialized y.cls).before a' U = true) :
    vx_Back l R p e below s sargs y len W9 (PreOf R mc ms Pc) (PostOf Qc mc ms free) (vx_Post XC mc ms free) := by
  intro m meth c A g ig mk a X hg hsize hdg hW hn hp
  have h1 : (headSpec ws rm).pre.before a A.U = true := atoms_intro fun w hw => hws w hw _ _ X.warmed
  have h2 : (Cond.codeWith y bytes maxL ret hh).before a A.U = true := hws _ hcode _ _ X.warmed
  have h3 : (Cond.initialized y.cls).before a A.U = true := hinit _ _ X.warmed
  have h4 : A.cells + (headSpec ws rm).room.cells ≤ R.cells := by rw [show (headSpec ws rm).room.cells = mc from hrc]; exact hp.1
  have h5 : A.slots + (headSpec ws rm).room.slots ≤ R.slots := by rw [show (headSpec ws rm).room.slots = ms from hrs]; exact hp.2.1
  have hPc : Pc a (A.U.calling g mk a) := hblind _ _ _ _ hp.2.2
  obtain ⟨U, Ls, c0, s0⟩ := A
  dsimp only [Pt.U, Pt.locs, Pt.cells, Pt.slots] at h1 h2 h3 h4 h5 X hn hPc ⊢
  obtain ⟨m9, methY, cY, hn9, hmY, hcY, -, hlY, -⟩ := Cond.codeWith_spec h2
  cases Option.some.inj (hn9.symm.trans hn)
  obtain ⟨kY, hkY, -⟩ := className_of_methodNamed hn
  have hinitY : kY.init = .initialized := Cond.initialized_spec (findClass_of_methodNamed hn) hkY h3
  have h : At U g.method c below := by rw [hg]; exact X.here
  have hlocals9 : W9 + (maxL + 11) + (headSpec ws rm).room.locals ≤ R.locals := hlocals
  have happ : (headSpec ws rm).appliesLoose y e.platform (U.calling g mk a) = true :=
    Spec.appliesLoose_calling (g := g) h hdg hn hkY hinitY
      (X.room_calling (g := g) (R' := (headSpec ws rm).room) hsize hmY hcY hframes (by rw [hlY]; omega) h4 h5) h1
  obtain ⟨mid, hmid⟩ := h.above
  have hfr : (U.setTop g).frames = (.java g :: mid) ++ below := by rw [State.frames_setTop' g h.top, hmid]; rfl
  obtain ⟨o, s₂, hsteps, -, hend, hq⟩ := Steps.callFree hM p X.admits X.cas X.clock (acts := []) hfr happ hPc trivial
  have hq' : vx_Q Qc XC mc ms free a (U.calling g mk a) o s₂ := hq
  rw [State.frames_setTop' g h.top] at hend
  obtain ⟨g₀, hg0⟩ := Option.isSome_iff_exists.mp h.top
  obtain ⟨r, hr⟩ := State.topJava?_eq_some.mp hg0
  have hr' : (({ U with heap := s₂.heap, slotsUsed := s₂.slotsUsed } : State).setVm s₂.vm).frames = .java g₀ :: r := hr
  rcases hq' with ⟨hqc, L, hfe, hL⟩ | ⟨q, rfl, E, ce, L, hx, hce, hcv, hcl, hW₂, hsm, hL⟩
  · obtain ⟨⟨v, rfl⟩, hW₂, e2, q2, q3, q4, q5, q6⟩ := id hfe
    have e3 : s₂ = ({ (U.calling g mk a).setFrames s₂.frames with heap := s₂.heap, slotsUsed := s₂.slotsUsed } : State).setVm s₂.vm := by
      have : s₂ = ({ s₂ with vm := (U.calling g mk a).vm } : State).setVm s₂.vm := rfl
      rw [e2] at this
      exact this
    obtain ⟨c₂, i₂, len₂, hc₂, hd₂, hf₂⟩ := hend
    have hW' : U.WarmedH s₂.vm := hW₂
    have hcc : c₂ = c := by
      have h1 : s₂.code? g.method = U.code? g.method := by
        rw [State.code?_eq, State.code?_eq, hW'.alike.method?]
      exact Option.some.inj (hc₂.symm.trans (h1.trans h.code))
    subst hcc
    have hlen : len₂ = len := by rw [hdg] at hd₂; cases hd₂; rfl
    subst hlen
    have hs₂ : s₂ = (({ U with heap := s₂.heap, slotsUsed := s₂.slotsUsed } : State).setVm s₂.vm).setTop { g with pc := g.pc + len₂, stack := v.toList ++ g.stack } := by
      refine e3.trans ?_
      rw [hf₂, State.calling_eq h.top, State.setFrames_setFrames, State.setTop_of_frames _ hr', hr]
      rfl
    have hsame : U.sameButNew ({ U with heap := s₂.heap, slotsUsed := s₂.slotsUsed } : State) L mc ms := by
      refine ⟨?_, q2, q3, q4, q5, q6⟩
      obtain ⟨t, ht, -⟩ := State.frames_cons hr
      show ({ U with heap := s₂.heap, slotsUsed := s₂.slotsUsed } : State) = { U.setFrames U.frames with heap := s₂.heap, slotsUsed := s₂.slotsUsed }
      rw [State.setFrames_self ht]
    subst hg
    refine Or.inl ⟨v, ⟨(({ U with heap := s₂.heap, slotsUsed := s₂.slotsUsed } : State).setVm s₂.vm), Ls ++ L, c0 + mc, s0 + ms⟩,
      ⟨X.admits, X.cas, X.clock, X.frames, X.room, X.hears, X.method, X.code, (X.here.setHeapUsed s₂.heap s₂.slotsUsed).setVm hW'.alike, X.tail, State.WarmedH.trans X.warmed hW', X.limits, X.bytes, X.same.trans (hsame.setVm s.vm)⟩,
      ⟨g, mk, s₂, L, rfl, rfl, hqc, rfl, hL, rfl, rfl⟩, ?_⟩
    show Steps p.tables e below _ ((({ U with heap := s₂.heap, slotsUsed := s₂.slotsUsed } : State).setVm s₂.vm).setTop { g with pc := g.pc + len₂, stack := v.toList ++ g.stack })
    rw [← hs₂]
    exact hsteps
  · obtain ⟨e2, q2, q3, q4, q5, q6⟩ := id hsm
    have e3 : s₂ = ({ (U.calling g mk a).setFrames s₂.frames with heap := s₂.heap, slotsUsed := s₂.slotsUsed } : State).setVm s₂.vm := by
      have : s₂ = ({ s₂ with vm := (U.calling g mk a).vm } : State).setVm s₂.vm := rfl
      rw [e2] at this
      exact this
    have hf₂ : s₂.frames = .throwing q :: .java g :: U.frames.tail := hend
    have hW' : U.WarmedH s₂.vm := hW₂
    have hs₂ : s₂ = ((({ U with heap := s₂.heap, slotsUsed := s₂.slotsUsed } : State).setVm s₂.vm).setTop g).pushFrame (.throwing q) := by
      refine e3.trans ?_
      rw [hf₂, State.calling_eq h.top, State.setFrames_setFrames, State.pushFrame, State.frames_setTop _ hr', State.setTop_of_frames _ hr', State.setFrames_setFrames, hr]
      rfl
    have hsame : U.sameButNew ({ U with heap := s₂.heap, slotsUsed := s₂.slotsUsed } : State) L mc ms := by
      refine ⟨?_, q2, q3, q4, q5, q6⟩
      obtain ⟨t, ht, -⟩ := State.frames_cons hr
      show ({ U with heap := s₂.heap, slotsUsed := s₂.slotsUsed } : State) = { U.setFrames U.frames with heap := s₂.heap, slotsUsed := s₂.slotsUsed }
      rw [State.setFrames_self ht]
    subst hg
    refine Or.inr ⟨q, ⟨(({ U with heap := s₂.heap, slotsUsed := s₂.slotsUsed } : State).setVm s₂.vm), Ls ++ L, c0 + mc, s0 + ms⟩,
      ⟨X.admits, X.cas, X.clock, X.frames, X.room, X.hears, X.method, X.code, (X.here.setHeapUsed s₂.heap s₂.slotsUsed).setVm hW'.alike, X.tail, State.WarmedH.trans X.warmed hW', X.limits, X.bytes, X.same.trans (hsame.setVm s.vm)⟩,
      ⟨g, mk, s₂, L, E, ce, rfl, rfl, hx, hce, hcv, hcl, rfl, hL, rfl, rfl⟩, ?_⟩
    show Steps p.tables e below _ (((({ U with heap := s₂.heap, slotsUsed := s₂.slotsUsed } : State).setVm s₂.vm).setTop g).pushFrame (.throwing q))
    rw [← hs₂]
    exact hsteps
end
variable {p : Program} {l : Launch} {e : Env} {R : Room} {s : State} {m : MethodId} {args : Array Value} {below : List Frame} {meth : Method} {c : Code} {T : State} {H : Heap} {locs : List Loc} {cells slots : Nat}
theorem vx_callVX (X : Stand p l e R s m args below meth c T locs cells slots) (hexec : p.tables.exec = Jvm.exec) {own C : String} {index : Nat} {y : MethodName} {bytes : ByteArray} {maxL : Nat} {ret : Option FieldType} {hh : List (Nat × Nat × Nat × Nat)}
    (hown : s.vm.findClass own = some m.cls) (hlink : (Cond.methodLink own index y).before args s = true) (hinst : (Cond.instanceMethod y).before args s = true) (hsel : (Cond.selects C y y).before args s = true)
    (hcode : (Cond.codeWith y bytes maxL ret hh).before args s = true) (hy : y.cls ≠ "java/lang/invoke/MethodHandle" ∧ y.cls ≠ "java/lang/invoke/VarHandle")
    {W9 : Nat} {Pre : Pt → Array Value → Prop} {Post : Pt → Array Value → Option Value → Pt → Prop} {PostX : Pt → Array Value → Addr → Pt → Prop} (hK : vx_Back l R p e below s args y 3 W9 Pre Post PostX)
    {b : Addr} {cellB : Cell} (hcell : T.heap[b]? = some cellB) (hobj : cellB.vm.isStatics = false) (hcls : s.vm.findClass C = some cellB.cls)
    {g : JFrame} (hg : g.method = m) (hsize : g.locals.size = c.maxLocals) {argsL rest : List Value} (hlen : ∀ sig, parseMethodDescriptor y.desc = some sig → argsL.length = sig.parameters.length)
    (hstack : g.stack = argsL.reverse ++ .ref b :: rest) (hW : 2 * g.monitorRoom + (rest.map fun v => v.category).sum ≤ W9) (hdg : decode c.code g.pc = .ok (.invokevirtual index, 3))
    (hpre : ∀ vm₁, s.WarmedH vm₁ → Pre ⟨T.setVm vm₁, locs, cells, slots⟩ (Value.ref b :: argsL).toArray) :
    (∃ (v : Option Value) (vm₁ : Vm) (B : Pt), s.WarmedH vm₁ ∧ Stand p l e R s m args below meth c B.U B.locs B.cells B.slots ∧ Post ⟨T.setVm vm₁, locs, cells, slots⟩ (Value.ref b :: argsL).toArray v B ∧
      ∀ target, Steps p.tables e below (B.U.setTop { g with pc := g.pc + 3, stack := v.toList ++ rest }) target → Steps p.tables e below (T.setTop g) target) ∨
    (∃ (q : Addr) (vm₁ : Vm) (B : Pt), s.WarmedH vm₁ ∧ Stand p l e R s m args below meth c B.U B.locs B.cells B.slots ∧ PostX ⟨T.setVm vm₁, locs, cells, slots⟩ (Value.ref b :: argsL).toArray q B ∧
      Steps p.tables e below (T.setTop g) ((B.U.setTop { g with stack := rest }).pushFrame (.throwing q))) := by
  obtain ⟨mk, methM, hnamed, hmethM, hstM, habM⟩ := Cond.instanceMethod_spec hinst
  obtain ⟨m8, methM', cM, hn8, hmethM', -, -, -, -, -, -, hsigM⟩ := Cond.codeWith_spec hcode
  cases Option.some.inj (hn8.symm.trans hnamed)
  cases hmethM.symm.trans hmethM'
  obtain ⟨c2, r2, m2, q1, q2, q3, q4, kP, hkP, hkPi⟩ := Cond.selects_spec hsel
  cases hcls.symm.trans q1
  cases (State.methodFound?_of_named hnamed hy).symm.trans q2
  cases hnamed.symm.trans q3
  have hselP : selectMethod e.platform s.vm cellB.cls mk = .method mk := by rw [Launch.admits_selectMethod X.admits]; exact q4
  obtain ⟨vm₁, X₁, hstep₁⟩ := X.invokevirtual hexec hown hlink hnamed hmethM hstM hkP hkPi hy (a := b) (cell := cellB) hcell
    (fun z h => by rw [h] at hobj; cases hobj) hselP hmethM habM hkP hkPi (g := g) hg (argsL := argsL) (rest := rest) (hlen _ hsigM) hstack hdg
  rcases hK m meth c ⟨T.setVm vm₁, locs, cells, slots⟩ { g with stack := rest } (.invokevirtual index) mk (Value.ref b :: argsL).toArray X₁ hg hsize hdg hW (X₁.named hnamed) (hpre vm₁ X₁.warmed) with ⟨v, B, X', hpost, hsteps⟩ | ⟨q, B, X', hpost, hsteps⟩
  · exact Or.inl ⟨v, vm₁, B, X₁.warmed, X', hpost, fun target h => hstep₁ _ fun acts => by rw [doInvoke_state]; exact hsteps.trans h⟩
  · exact Or.inr ⟨q, vm₁, B, X₁.warmed, X', hpost, hstep₁ _ fun acts => by rw [doInvoke_state]; exact hsteps⟩
theorem vx_callSX (X : Stand p l e R s m args below meth c T locs cells slots) (hexec : p.tables.exec = Jvm.exec) {own : String} {index : Nat} {y : MethodName} {bytes : ByteArray} {maxL : Nat} {ret : Option FieldType} {hh : List (Nat × Nat × Nat × Nat)}
    (hown : s.vm.findClass own = some m.cls) (hlink : (Cond.methodLink own index y).before args s = true) (hstat : (Cond.static y).before args s = true) (hinit : (Cond.initialized y.cls).before args s = true)
    (hcode : (Cond.codeWith y bytes maxL ret hh).before args s = true) (hy : y.cls ≠ "java/lang/invoke/MethodHandle" ∧ y.cls ≠ "java/lang/invoke/VarHandle")
    {W9 : Nat} {Pre : Pt → Array Value → Prop} {Post : Pt → Array Value → Option Value → Pt → Prop} {PostX : Pt → Array Value → Addr → Pt → Prop} (hK : vx_Back l R p e below s args y 3 W9 Pre Post PostX)
    {g : JFrame} (hg : g.method = m) (hsize : g.locals.size = c.maxLocals) {argsL rest : List Value} (hlen : ∀ sig, parseMethodDescriptor y.desc = some sig → argsL.length = sig.parameters.length)
    (hstack : g.stack = argsL.reverse ++ rest) (hW : 2 * g.monitorRoom + (rest.map fun v => v.category).sum ≤ W9) (hdg : decode c.code g.pc = .ok (.invokestatic index, 3))
    (hpre : ∀ vm₁, s.WarmedH vm₁ → Pre ⟨T.setVm vm₁, locs, cells, slots⟩ argsL.toArray) :
    (∃ (v : Option Value) (vm₁ : Vm) (B : Pt), s.WarmedH vm₁ ∧ Stand p l e R s m args below meth c B.U B.locs B.cells B.slots ∧ Post ⟨T.setVm vm₁, locs, cells, slots⟩ argsL.toArray v B ∧
      ∀ target, Steps p.tables e below (B.U.setTop { g with pc := g.pc + 3, stack := v.toList ++ rest }) target → Steps p.tables e below (T.setTop g) target) ∨
    (∃ (q : Addr) (vm₁ : Vm) (B : Pt), s.WarmedH vm₁ ∧ Stand p l e R s m args below meth c B.U B.locs B.cells B.slots ∧ PostX ⟨T.setVm vm₁, locs, cells, slots⟩ argsL.toArray q B ∧
      Steps p.tables e below (T.setTop g) ((B.U.setTop { g with stack := rest }).pushFrame (.throwing q))) := by
  obtain ⟨mk, methM, cM, hnamed, hmethM, -, -, -, -, -, -, hsigM⟩ := Cond.codeWith_spec hcode
  have hstatic : methM.isStatic = true := Cond.static_spec hnamed hmethM hstat
  obtain ⟨kP, hkP, -⟩ := className_of_methodNamed hnamed
  have hinitP : kP.init = .initialized := Cond.initialized_spec (findClass_of_methodNamed hnamed) hkP hinit
  obtain ⟨vm₁, X₁, hstep₁⟩ := X.invokestatic hexec hown hlink hnamed hmethM hstatic hkP hinitP hy (g := g) hg (argsL := argsL) (rest := rest) (hlen _ hsigM) hstack hdg
  rcases hK m meth c ⟨T.setVm vm₁, locs, cells, slots⟩ { g with stack := rest } (.invokestatic index) mk argsL.toArray X₁ hg hsize hdg hW (X₁.named hnamed) (hpre vm₁ X₁.warmed) with ⟨v, B, X', hpost, hsteps⟩ | ⟨q, B, X', hpost, hsteps⟩
  · exact Or.inl ⟨v, vm₁, B, X₁.warmed, X', hpost, fun target h => hstep₁ _ fun acts => by rw [doInvoke_state]; exact hsteps.trans h⟩
  · exact Or.inr ⟨q, vm₁, B, X₁.warmed, X', hpost, hstep₁ _ fun acts => by rw [doInvoke_state]; exact hsteps⟩
theorem vx_callVW (X : Stand p l e R s m args below meth c T locs cells slots) (hexec : p.tables.exec = Jvm.exec) {own C : String} {index : Nat} {y : MethodName} {bytes : ByteArray} {maxL : Nat} {ret : Option FieldType} {hh : List (Nat × Nat × Nat × Nat)}
    (hown : s.vm.findClass own = some m.cls) (hlink : (Cond.methodLink own index y).before args s = true) (hinst : (Cond.instanceMethod y).before args s = true) (hsel : (Cond.selects C y y).before args s = true)
    (hcode : (Cond.codeWith y bytes maxL ret hh).before args s = true) (hy : y.cls ≠ "java/lang/invoke/MethodHandle" ∧ y.cls ≠ "java/lang/invoke/VarHandle")
    {W9 : Nat} {Pre : Pt → Array Value → Prop} {Post : Pt → Array Value → Option Value → Pt → Prop} (hK : Back l R p e below s args y 3 W9 Pre Post)
    {b : Addr} {cellB : Cell} (hcell : T.heap[b]? = some cellB) (hobj : cellB.vm.isStatics = false) (hcls : s.vm.findClass C = some cellB.cls)
    {g : JFrame} (hg : g.method = m) (hsize : g.locals.size = c.maxLocals) {argsL rest : List Value} (hlen : ∀ sig, parseMethodDescriptor y.desc = some sig → argsL.length = sig.parameters.length)
    (hstack : g.stack = argsL.reverse ++ .ref b :: rest) (hW : 2 * g.monitorRoom + (rest.map fun v => v.category).sum ≤ W9) (hdg : decode c.code g.pc = .ok (.invokevirtual index, 3))
    (hpre : ∀ vm₁, s.WarmedH vm₁ → Pre ⟨T.setVm vm₁, locs, cells, slots⟩ (Value.ref b :: argsL).toArray) :
    ∃ (v : Option Value) (vm₁ : Vm) (B : Pt), s.WarmedH vm₁ ∧ Stand p l e R s m args below meth c B.U B.locs B.cells B.slots ∧ Post ⟨T.setVm vm₁, locs, cells, slots⟩ (Value.ref b :: argsL).toArray v B ∧
      ∀ target, Steps p.tables e below (B.U.setTop { g with pc := g.pc + 3, stack := v.toList ++ rest }) target → Steps p.tables e below (T.setTop g) target := by
  obtain ⟨mk, methM, hnamed, hmethM, hstM, habM⟩ := Cond.instanceMethod_spec hinst
  obtain ⟨m8, methM', cM, hn8, hmethM', -, -, -, -, -, -, hsigM⟩ := Cond.codeWith_spec hcode
  cases Option.some.inj (hn8.symm.trans hnamed)
  cases hmethM.symm.trans hmethM'
  obtain ⟨c2, r2, m2, q1, q2, q3, q4, kP, hkP, hkPi⟩ := Cond.selects_spec hsel
  cases hcls.symm.trans q1
  cases (State.methodFound?_of_named hnamed hy).symm.trans q2
  cases hnamed.symm.trans q3
  have hselP : selectMethod e.platform s.vm cellB.cls mk = .method mk := by rw [Launch.admits_selectMethod X.admits]; exact q4
  obtain ⟨vm₁, X₁, hstep₁⟩ := X.invokevirtual hexec hown hlink hnamed hmethM hstM hkP hkPi hy (a := b) (cell := cellB) hcell
    (fun z h => by rw [h] at hobj; cases hobj) hselP hmethM habM hkP hkPi (g := g) hg (argsL := argsL) (rest := rest) (hlen _ hsigM) hstack hdg
  obtain ⟨v, B, X', hpost, hsteps⟩ := hK m meth c ⟨T.setVm vm₁, locs, cells, slots⟩ { g with stack := rest } (.invokevirtual index) mk (Value.ref b :: argsL).toArray X₁ hg hsize hdg hW (X₁.named hnamed) (hpre vm₁ X₁.warmed)
  exact ⟨v, vm₁, B, X₁.warmed, X', hpost, fun target h => hstep₁ _ fun acts => by rw [doInvoke_state]; exact hsteps.trans h⟩
abbrev vx_CVW (R : Room) (s : State) (args : Array Value) (own C : String) (index : Nat) (y : MethodName) (bytes : ByteArray) (maxL : Nat) (ret : Option FieldType) (hh : List (Nat × Nat × Nat × Nat)) (ws : List Cond) (rm : Room) (mc ms n : Nat) : Prop :=
  (rm.cells = mc ∧ rm.slots = ms ∧ rm.frames + 1 ≤ R.frames ∧ 8 + (maxL + 11) + rm.locals ≤ R.locals ∧ (∀ w ∈ ws, ∀ (a' : Array Value) (U : State), s.WarmedH U.vm → w.before a' U = true) ∧ Cond.codeWith y bytes maxL ret hh ∈ ws) ∧
  (Cond.codeWith y bytes maxL ret hh).before args s = true ∧ (Cond.initialized y.cls).before args s = true ∧ (y.cls ≠ "java/lang/invoke/MethodHandle" ∧ y.cls ≠ "java/lang/invoke/VarHandle") ∧
  (∀ sig, parseMethodDescriptor y.desc = some sig → n = sig.parameters.length) ∧ (Cond.methodLink own index y).before args s = true ∧ (Cond.instanceMethod y).before args s = true ∧ (Cond.selects C y y).before args s = true
theorem vx_cwVW {own C : String} {index maxL mc ms : Nat} {y : MethodName} {bytes : ByteArray} {ret : Option FieldType} {hh : List (Nat × Nat × Nat × Nat)} {Ts ws ws' : List Cond} {rm : Room} (n : Nat) (ht : ∀ w ∈ Ts, w.before args s = true) (hT : GoodIn Ts (wsV own index C y ws)) (hw : ws = Cond.codeWith y bytes maxL ret hh :: ws') (hrc : rm.cells = mc) (hrs : rm.slots = ms)
    (hd : y.cls = C ∧ y.cls ≠ "java/lang/invoke/MethodHandle" ∧ y.cls ≠ "java/lang/invoke/VarHandle" ∧ (parseMethodDescriptor y.desc).map (fun d => d.parameters.length) = some n) (hR : rm.frames + 1 ≤ R.frames ∧ 8 + (maxL + 11) + rm.locals ≤ R.locals) :
    vx_CVW R s args own C index y bytes maxL ret hh ws rm mc ms n := by
  obtain ⟨hC, hd⟩ := hd
  subst hC
  have ok : ∀ w ∈ wsV own index y.cls y ws, w.before args s = true := fun w h => ht w (hT w h).1
  have hG : GoodIn Ts ws := fun w h => hT w (by unfold wsV; exact List.mem_append_right _ h)
  have hc : Cond.codeWith y bytes maxL ret hh ∈ ws := by rw [hw]; exact List.mem_cons_self
  refine ⟨⟨hrc, hrs, hR.1, hR.2, pay_in ht hG, hc⟩, ht _ (hG _ hc).1, ok _ (by simp [wsV]), ⟨hd.1, hd.2.1⟩, fun sig h => ?_, ok _ (by simp [wsV]), ok _ (by simp [wsV]), ok _ (by simp [wsV])⟩
  have h2 := hd.2.2
  rw [h] at h2
  exact (Option.some.inj h2).symm
theorem vx_runVW {y : MethodName} {bytes cc : ByteArray} {maxL nL mc ms n index : Nat} {ret : Option FieldType} {hh : List (Nat × Nat × Nat × Nat)} {ws : List Cond} {rm : Room} {Pc : Array Value → State → Prop} {Qc : Array Value → State → Outcome → State → Prop} {free : Addr → Prop} {Ts : List Cond} {own C : String} {b : Addr} {As rest : List Value} {g : JFrame}
    (S : CallFix p m c cc nL s args Ts own) (hM : Met l y ws rm Pc Qc mc ms free) (cw : vx_CVW R s args own C index y bytes maxL ret hh ws rm mc ms n) (hp : PreV s H C b Pc As)
    (hg : g.method = m) (hn : As.length = n) (hsize : g.locals.size = nL) (hstack : g.stack = As.reverse ++ .ref b :: rest) (hW : 2 * g.monitorRoom + (rest.map fun v => v.category).sum ≤ 8) (hdg : decode cc g.pc = .ok (.invokevirtual index, 3)) (hf : cells + mc ≤ R.cells ∧ slots + ms ≤ R.slots) :
    va_Run p l e R s m args below meth c H locs cells slots mc ms g rest (Qc (Value.ref b :: As).toArray) free := by
  obtain ⟨⟨hrc, hrs, hfr, hlo, hws, hcw⟩, hcode, hini, hy, hlen, hl, hin, hse⟩ := cw
  have hK : Back l R p e below s args y 3 8 (PreOf R mc ms Pc) (PostOf Qc mc ms free) := va_backW (hh := hh) (bytes := bytes) (maxL := maxL) (ret := ret) hM hp.1 hrc hrs hfr hlo hws hcw (fun a' U hW => word_at hW (Or.inl (by first | rfl | simp [Cond.onTables, Cond.keeps, Cond.steady])) hini)
  obtain ⟨hx, hb, hml, ho, -⟩ := S
  obtain ⟨-, ⟨cellB, hcB, hoB, hclB⟩, hPc⟩ := hp
  intro T hT X
  obtain ⟨v, vm₁, ⟨U', l2, c2, s2⟩, hW₁, X', ⟨g', mk, t, L, e1, e2, hq, h1, hL, h2, h3⟩, st⟩ := vx_callVW X hx (C := C) (hh := hh) (bytes := bytes) (maxL := maxL) (ret := ret) ho hl hin hse hcode hy hK (by rw [hT]; exact hcB) hoB hclB hg (hsize.trans hml.symm) (argsL := As) (rest := rest) (fun sig h => hn.trans (hlen sig h)) hstack hW (by rw [hb]; exact hdg)
    (fun vm₁ hW₁ => ⟨hf.1, hf.2, hPc (T.setVm vm₁) hT hW₁⟩)
  dsimp only [Pt.U, Pt.locs, Pt.cells, Pt.slots] at X' e1 e2 h1 h2 h3 st
  subst h1; subst h2; subst h3
  exact ⟨v, (T.setVm vm₁).calling g' mk (Value.ref b :: As).toArray, t, U', L, hT, X', hL, e1, e2, hq, st⟩
section
variable {y : MethodName} {bytes cc : ByteArray} {maxL nL mc ms n index : Nat} {ret : Option FieldType} {ws : List Cond} {rm : Room} {Pc : Array Value → State → Prop} {Qc : Array Value → State → Outcome → State → Prop} {XC : String → State → State → Prop} {free : Addr → Prop} {Ts : List Cond} {own C : String} {b : Addr} {As rest : List Value} {g : JFrame}
theorem vx_runVX {hh : List (Nat × Nat × Nat × Nat)} (S : CallFix p m c cc nL s args Ts own) (hM : vx_Met l y ws rm Pc Qc XC mc ms free) (cw : vx_CVW R s args own C index y bytes maxL ret hh ws rm mc ms n) (hp : PreV s H C b Pc As)
    (hg : g.method = m) (hn : As.length = n) (hsize : g.locals.size = nL) (hstack : g.stack = As.reverse ++ .ref b :: rest) (hW : 2 * g.monitorRoom + (rest.map fun v => v.category).sum ≤ 8) (hdg : decode cc g.pc = .ok (.invokevirtual index, 3)) (hf : cells + mc ≤ R.cells ∧ slots + ms ≤ R.slots) :
    vx_Run p l e R s m args below meth c H locs cells slots mc ms g rest (Qc (Value.ref b :: As).toArray) XC free := by
  obtain ⟨⟨hrc, hrs, hfr, hlo, hws, hcw⟩, hcode, hini, hy, hlen, hl, hin, hse⟩ := cw
  have hK : vx_Back l R p e below s args y 3 8 (PreOf R mc ms Pc) (PostOf Qc mc ms free) (vx_Post XC mc ms free) := vx_backW (hh := hh) (bytes := bytes) (maxL := maxL) (ret := ret) hM hp.1 hrc hrs hfr hlo hws hcw (fun a' U hW => word_at hW (Or.inl (by first | rfl | simp [Cond.onTables, Cond.keeps, Cond.steady])) hini)
  obtain ⟨hx, hb, hml, ho, -⟩ := S
  obtain ⟨-, ⟨cellB, hcB, hoB, hclB⟩, hPc⟩ := hp
  intro T hT X
  rcases vx_callVX X hx (C := C) (hh := hh) (bytes := bytes) (maxL := maxL) (ret := ret) ho hl hin hse hcode hy hK (by rw [hT]; exact hcB) hoB hclB hg (hsize.trans hml.symm) (argsL := As) (rest := rest) (fun sig h => hn.trans (hlen sig h)) hstack hW (by rw [hb]; exact hdg)
    (fun vm₁ hW₁ => ⟨hf.1, hf.2, hPc (T.setVm vm₁) hT hW₁⟩) with ⟨v, vm₁, ⟨U', l2, c2, s2⟩, hW₁, X', ⟨g', mk, t, L, e1, e2, hq, h1, hL, h2, h3⟩, st⟩ | ⟨q, vm₁, ⟨U', l2, c2, s2⟩, hW₁, X', ⟨g', mk, t, L, E, ce, e1, e2, hq, hce, hcv, hcl, h1, hL, h2, h3⟩, st⟩
  · dsimp only [Pt.U, Pt.locs, Pt.cells, Pt.slots] at X' e1 e2 h1 h2 h3 st
    subst h1; subst h2; subst h3
    exact Or.inl ⟨v, (T.setVm vm₁).calling g' mk (Value.ref b :: As).toArray, t, U', L, hT, X', hL, e1, e2, hq, st⟩
  · dsimp only [Pt.U, Pt.locs, Pt.cells, Pt.slots] at X' e1 e2 h1 h2 h3 st hcl
    subst h1; subst h2; subst h3
    exact Or.inr ⟨q, (T.setVm vm₁).calling g' mk (Value.ref b :: As).toArray, t, U', L, E, ce, hT, X', hL, e1, e2, hq, hce, hcv, vx_cls hW₁ hcl, st⟩
theorem vx_runSX {hh : List (Nat × Nat × Nat × Nat)} (S : CallFix p m c cc nL s args Ts own) (hM : vx_Met l y ws rm Pc Qc XC mc ms free) (cw : vx_CSW R s args own index y bytes maxL ret hh ws rm mc ms n) (hp : PreS s H Pc As)
    (hg : g.method = m) (hn : As.length = n) (hsize : g.locals.size = nL) (hstack : g.stack = As.reverse ++ rest) (hW : 2 * g.monitorRoom + (rest.map fun v => v.category).sum ≤ 8) (hdg : decode cc g.pc = .ok (.invokestatic index, 3)) (hf : cells + mc ≤ R.cells ∧ slots + ms ≤ R.slots) :
    vx_Run p l e R s m args below meth c H locs cells slots mc ms g rest (Qc As.toArray) XC free := by
  obtain ⟨⟨hrc, hrs, hfr, hlo, hws, hcw⟩, hcode, hini, hy, hlen, hl, hstt⟩ := cw
  have hK : vx_Back l R p e below s args y 3 8 (PreOf R mc ms Pc) (PostOf Qc mc ms free) (vx_Post XC mc ms free) := vx_backW (hh := hh) (bytes := bytes) (maxL := maxL) (ret := ret) hM hp.1 hrc hrs hfr hlo hws hcw (fun a' U hW => word_at hW (Or.inl (by first | rfl | simp [Cond.onTables, Cond.keeps, Cond.steady])) hini)
  obtain ⟨hx, hb, hml, ho, -⟩ := S
  intro T hT X
  rcases vx_callSX X hx (hh := hh) (bytes := bytes) (maxL := maxL) (ret := ret) ho hl hstt hini hcode hy hK hg (hsize.trans hml.symm) (argsL := As) (rest := rest) (fun sig h => hn.trans (hlen sig h)) hstack hW (by rw [hb]; exact hdg)
    (fun vm₁ hW₁ => ⟨hf.1, hf.2, hp.2 (T.setVm vm₁) hT hW₁⟩) with ⟨v, vm₁, ⟨U', l2, c2, s2⟩, hW₁, X', ⟨g', mk, t, L, e1, e2, hq, h1, hL, h2, h3⟩, st⟩ | ⟨q, vm₁, ⟨U', l2, c2, s2⟩, hW₁, X', ⟨g', mk, t, L, E, ce, e1, e2, hq, hce, hcv, hcl, h1, hL, h2, h3⟩, st⟩
  · dsimp only [Pt.U, Pt.locs, Pt.cells, Pt.slots] at X' e1 e2 h1 h2 h3 st
    subst h1; subst h2; subst h3
    exact Or.inl ⟨v, (T.setVm vm₁).calling g' mk As.toArray, t, U', L, hT, X', hL, e1, e2, hq, st⟩
  · dsimp only [Pt.U, Pt.locs, Pt.cells, Pt.slots] at X' e1 e2 h1 h2 h3 st hcl
    subst h1; subst h2; subst h3
    exact Or.inr ⟨q, (T.setVm vm₁).calling g' mk As.toArray, t, U', L, E, ce, hT, X', hL, e1, e2, hq, hce, hcv, vx_cls hW₁ hcl, st⟩
end
end VXH
theorem vx_ofWH {l : Launch} {y : MethodName} {ws ws' : List Cond} {rm : Room} {Pc : Array Value → State → Prop} {Qc : Array Value → State → Outcome → State → Prop} {XC : String → State → State → Prop} {mc ms : Nat} {free : Addr → Prop} {cc : ByteArray} {maxL : Nat} {ret : Option FieldType} {hh : List (Nat × Nat × Nat × Nat)}
    (hy : plainName y.cls = true) (hw : ws = Cond.codeWith y cc maxL ret hh :: ws')
    (body : ∀ p e s m args below meth c s₁, BodyLoose p l y (headSpec ws rm) cc maxL ret e s m args below meth c s₁ → c.maxLocals = maxL → Pc args s →
      W p l e (headSpec ws rm).room s m args below meth c s.heap [] 0 0 (vx_MQ below Qc XC args s mc ms free) (entryFrame m args maxL)) : vx_Met l y ws rm Pc Qc XC mc ms free := by
  refine MetFree.of_bodyS (code := cc) (maxLocals := maxL) (ret := ret) hy ?_ ?_
  · intro args s m h hn
    obtain ⟨m9, meth, c, hn9, h1, h2, h3, h4, -, h5, h6, -⟩ := Cond.codeWith_spec (atoms_spec (ws := ws) h _ (by rw [hw]; exact List.mem_cons_self))
    cases hn.symm.trans hn9
    exact ⟨meth, c, h1, h2, h3, h4, h5, h6⟩
  · intro p e s m args below meth c s₁ B hml hP _
    have hh0 : s₁.heap = s.heap := by rw [B.state]; rfl
    obtain ⟨t, a1, o, b1, b2, b3⟩ := body p e s m args below meth c s₁ B hml hP s₁ hh0 (Stand.of_body B)
    exact ⟨t, o, a1, b1, b2, b3⟩
/-! ===== END ===== -/
end
section
/-! AN ABSTRACT MACHINE over a world of fixed shape. A thing of the world is named by its place k (a reference is '.ref k'); the shape says of each place: an object (number of its class; its fields, each a place or a number's name) or an array (its kind, its length). A state: the numbers by their names, the arrays' contents by their places. am_AW c Q: from the configuration c the method comes to an end with Q. -/
abbrev am_D : Type := (Nat × List (Nat ⊕ Nat)) ⊕ (Nat × Nat)
abbrev am_S : Type := (Nat → Int32) × (Nat → Nat → Int32)
/-- method, pc, exceptions' room used, locals, stack, state -/
abbrev am_C : Type := Nat × Nat × Nat × List (Option Value) × List Value × am_S
/-- an outcome: an answer, or an exception of a class -/
abbrev am_O : Type := Option Value ⊕ String
abbrev am_Q : Type := am_S → am_O → Prop
/-- a step: what must hold; roads (each with its condition), or a call, or an end -/
abbrev am_N : Type := Prop × (List (Prop × am_C) ⊕ ((am_C × (am_S → Option Value → am_C)) ⊕ (am_S × am_O)))
/-- a method: name, bytes, locals, answer's type, number of its class, room -/
abbrev am_M : Type := MethodName × ByteArray × Nat × Option FieldType × Nat × Room
/-- tables: methods; fields by (class, pool place): (class, slot); calls: (kind, method, parameters); int and long constants; throws by (method, pc) -/
abbrev am_G : Type := List am_M × List ((Nat × Nat) × (Nat × Nat)) × List ((Nat × Nat) × (Nat × Nat × Nat)) × List ((Nat × Nat) × Int32) × List ((Nat × Nat) × Int64) × List ((Nat × Nat) × String)
def am_m (G : am_G) (μ : Nat) : Option am_M := G.1[μ]?
def am_ml (G : am_G) (μ : Nat) : Nat := match am_m G μ with
  | some M => M.2.2.1
  | none => 0
def am_oc (G : am_G) (μ : Nat) : Nat := match am_m G μ with
  | some M => M.2.2.2.2.1
  | none => 0
def am_nc (G : am_G) (μ : Nat) : Nat := match am_m G μ with
  | some M => M.2.2.2.2.2.cells
  | none => 0
/-- the answer's type: 0 none, 1 int, 2 boolean -/
def am_rk (t : Option FieldType) : Nat := match t with
  | none => 0
  | some .int => 1
  | some .boolean => 2
  | some _ => 3
def am_rt (G : am_G) (μ : Nat) : Nat := match am_m G μ with
  | some M => am_rk M.2.2.2.1
  | none => 3
def am_fld (G : am_G) (μ ix : Nat) : Option (Nat × Nat) := G.2.1.lookup (am_oc G μ, ix)
def am_cal (G : am_G) (μ ix : Nat) : Option (Nat × Nat × Nat) := G.2.2.1.lookup (am_oc G μ, ix)
def am_ki (G : am_G) (μ ix : Nat) : Option Int32 := G.2.2.2.1.lookup (am_oc G μ, ix)
def am_kl (G : am_G) (μ ix : Nat) : Option Int64 := G.2.2.2.2.1.lookup (am_oc G μ, ix)
def am_th (G : am_G) (μ pc : Nat) : Option String := G.2.2.2.2.2.lookup (μ, pc)
def am_nn (z : Int) : Option Nat := match z with
  | .ofNat n => some n
  | .negSucc _ => none
def am_tg (i : Instr) (pc : Nat) : Option Nat := match i with
  | .goto off => am_nn ((pc : Int) + off)
  | .ifCond _ off => am_nn ((pc : Int) + off)
  | .if_icmp _ off => am_nn ((pc : Int) + off)
  | .tableswitch off _ _ _ => am_nn ((pc : Int) + off)
  | _ => some 0
def am_ln (i : Instr) (len : Nat) : Bool := match i with
  | .tableswitch _ _ _ _ => true
  | .bipush _ | .ldc _ | .iload _ | .lload _ | .aload _ | .istore _ | .lstore _ | .astore _ => len == 2
  | .sipush _ | .ldc2_w _ | .getfield _ | .putfield _ | .goto _ | .ifCond _ _ | .if_icmp _ _ | .invokevirtual _ | .invokestatic _ | .invokespecial _ | .iinc _ _ | .new _ => len == 3
  | _ => len == 1
def am_code (G : am_G) (μ pc : Nat) : Option (Instr × Nat × Nat) := match am_m G μ with
  | some M => match decode M.2.1 pc with
    | .ok (i, len) => if am_ln i len = true then (am_tg i pc).map (fun t => (i, len, t)) else none
    | .error _ => none
  | none => none
theorem am_code_of {G : am_G} {μ pc : Nat} {M : am_M} {i : Instr} {len t : Nat} (h1 : am_m G μ = some M) (h2 : decode M.2.1 pc = .ok (i, len)) (h3 : am_ln i len = true) (h4 : am_tg i pc = some t) : am_code G μ pc = some (i, len, t) := by
  simp only [am_code, h1, h2, h3, h4, if_true, Option.map_some]
theorem am_code_spec {G : am_G} {μ pc : Nat} {M : am_M} {i : Instr} {len t : Nat} (h1 : am_m G μ = some M) (h : am_code G μ pc = some (i, len, t)) : decode M.2.1 pc = .ok (i, len) ∧ am_ln i len = true ∧ am_tg i pc = some t := by
  simp only [am_code, h1] at h
  cases hd : decode M.2.1 pc with
  | error x => rw [hd] at h; cases h
  | ok q =>
    obtain ⟨i', len'⟩ := q
    rw [hd] at h
    simp only at h
    by_cases hl : am_ln i' len' = true
    · rw [if_pos hl] at h
      cases ht : am_tg i' pc with
      | none => rw [ht] at h; cases h
      | some t' =>
        rw [ht] at h
        simp only [Option.map_some, Option.some.injEq, Prod.mk.injEq] at h
        obtain ⟨rfl, rfl, rfl⟩ := h
        exact ⟨rfl, hl, ht⟩
    · rw [if_neg hl] at h
      cases h
/-- values of one word from the stack, the last first -/
def am_pp : Nat → List Value → List Value → Option (List Value × List Value)
  | 0, st, acc => some (acc, st)
  | n + 1, v :: st, acc => if v.category = 1 then am_pp n st (v :: acc) else none
  | _ + 1, [], _ => none
def am_ct : List Value → Nat
  | [] => 0
  | v :: r => v.category + am_ct r
def am_no : Nat → List (Option Value)
  | 0 => []
  | n + 1 => none :: am_no n
/-- the locals at a method's entry -/
def am_in : Nat → List Value → List (Option Value)
  | n, [] => am_no n
  | 0, v :: r => some v :: am_in 0 r
  | n + 1, v :: r => some v :: am_in n r
def am_cut (lo : List (Option Value)) (i : Nat) : List (Option Value) := match i with
  | 0 => lo
  | j + 1 => match lo[j]? with
    | some (some v) => if v.category = 2 then lo.set j none else lo
    | _ => lo
def am_s1 (lo : List (Option Value)) (i : Nat) (v : Value) : List (Option Value) := (am_cut lo i).set i (some v)
def am_s2 (lo : List (Option Value)) (i : Nat) (v : Value) : List (Option Value) := ((am_cut lo i).set i (some v)).set (i + 1) none
def am_one (c : am_C) : Option am_N := some (True, .inl [(True, c)])
def am_two (b b' : Prop) (c c' : am_C) : Option am_N := some (True, .inl [(b, c), (b', c')])
def am_br (cc : ClassFile.Cond) (x y : Int32) (c c' : am_C) : Option am_N := match cc with
  | .eq => am_two (x = y) (¬ x = y) c c'
  | .ne => am_two (¬ x = y) (x = y) c c'
  | .lt => am_two (x < y) (¬ x < y) c c'
  | .ge => am_two (y ≤ x) (¬ y ≤ x) c c'
  | .gt => am_two (y < x) (¬ y < x) c c'
  | .le => am_two (x ≤ y) (¬ x ≤ y) c c'
def am_sw (mk : Nat → am_C) (pc : Nat) (x lo : Int) : Nat → List Int → List (Prop × am_C)
  | _, [] => []
  | j, off :: r => (x = lo + (j : Int), mk ((pc : Int) + off).toNat) :: am_sw mk pc x lo (j + 1) r
def am_swo (pc : Nat) : List Int → Bool
  | [] => true
  | off :: r => decide (0 ≤ (pc : Int) + off) && am_swo pc r
/-- the receiver is an object of the class -/
def am_rc (sh : List am_D) (oc : Nat) (args : List Value) : Prop := match args with
  | .ref o :: _ => match sh[o]? with
    | some (.inl (ci, _)) => ci = oc
    | _ => False
  | _ => False
def am_inv (G : am_G) (sh : List am_D) (μ pc nc : Nat) (lo : List (Option Value)) (st : List Value) (h : am_S) (k μ' n : Nat) : Option am_N := match am_pp n st [] with
  | some (args, rest) => some ((k ≤ 1 → am_rc sh (am_oc G μ') args) ∧ am_ct rest ≤ 8 ∧ n ≤ am_ml G μ' ∧ nc + am_nc G μ' ≤ am_nc G μ, .inr (.inl ((μ', 0, 0, am_in (am_ml G μ') args, [], h), fun h' r => (μ, pc + 3, nc + am_nc G μ', lo, r.toList ++ rest, h'))))
  | none => none
def am_op (G : am_G) (sh : List am_D) (μ pc len tg nc : Nat) (lo : List (Option Value)) (st : List Value) (h : am_S) (i : Instr) : Option am_N := match i with
  | .iconst v => am_one (μ, pc + len, nc, lo, .int (Int32.ofInt v) :: st, h)
  | .bipush v => am_one (μ, pc + len, nc, lo, .int (Int8.ofInt v).toInt32 :: st, h)
  | .sipush v => am_one (μ, pc + len, nc, lo, .int (Int16.ofInt v).toInt32 :: st, h)
  | .lconst v => am_one (μ, pc + len, nc, lo, .long (Int64.ofNat v.val) :: st, h)
  | .ldc ix => match am_ki G μ ix with
    | some v => am_one (μ, pc + len, nc, lo, .int v :: st, h)
    | none => none
  | .ldc2_w ix => match am_kl G μ ix with
    | some v => am_one (μ, pc + len, nc, lo, .long v :: st, h)
    | none => none
  | .iload_n k => match lo[k.val]? with
    | some (some (.int x)) => am_one (μ, pc + len, nc, lo, .int x :: st, h)
    | _ => none
  | .iload k => match lo[k]? with
    | some (some (.int x)) => am_one (μ, pc + len, nc, lo, .int x :: st, h)
    | _ => none
  | .lload_n k => match lo[k.val]? with
    | some (some (.long x)) => am_one (μ, pc + len, nc, lo, .long x :: st, h)
    | _ => none
  | .lload k => match lo[k]? with
    | some (some (.long x)) => am_one (μ, pc + len, nc, lo, .long x :: st, h)
    | _ => none
  | .aload_n k => match lo[k.val]? with
    | some (some (.ref x)) => am_one (μ, pc + len, nc, lo, .ref x :: st, h)
    | _ => none
  | .aload k => match lo[k]? with
    | some (some (.ref x)) => am_one (μ, pc + len, nc, lo, .ref x :: st, h)
    | _ => none
  | .istore_n k => match st with
    | .int x :: r => some (k.val < am_ml G μ, .inl [(True, (μ, pc + len, nc, am_s1 lo k.val (.int x), r, h))])
    | _ => none
  | .istore k => match st with
    | .int x :: r => some (k < am_ml G μ, .inl [(True, (μ, pc + len, nc, am_s1 lo k (.int x), r, h))])
    | _ => none
  | .lstore_n k => match st with
    | .long x :: r => some (k.val + 1 < am_ml G μ, .inl [(True, (μ, pc + len, nc, am_s2 lo k.val (.long x), r, h))])
    | _ => none
  | .lstore k => match st with
    | .long x :: r => some (k + 1 < am_ml G μ, .inl [(True, (μ, pc + len, nc, am_s2 lo k (.long x), r, h))])
    | _ => none
  | .astore_n k => match st with
    | .ref x :: r => some (k.val < am_ml G μ, .inl [(True, (μ, pc + len, nc, am_s1 lo k.val (.ref x), r, h))])
    | _ => none
  | .astore k => match st with
    | .ref x :: r => some (k < am_ml G μ, .inl [(True, (μ, pc + len, nc, am_s1 lo k (.ref x), r, h))])
    | _ => none
  | .iinc k v => match lo[k]? with
    | some (some (.int x)) => some (k < am_ml G μ, .inl [(True, (μ, pc + len, nc, am_s1 lo k (.int (x + Int32.ofInt v)), st, h))])
    | _ => none
  | .iadd => match st with
    | .int y :: .int x :: r => am_one (μ, pc + len, nc, lo, .int (x + y) :: r, h)
    | _ => none
  | .isub => match st with
    | .int y :: .int x :: r => am_one (μ, pc + len, nc, lo, .int (x - y) :: r, h)
    | _ => none
  | .imul => match st with
    | .int y :: .int x :: r => am_one (μ, pc + len, nc, lo, .int (x * y) :: r, h)
    | _ => none
  | .iand => match st with
    | .int y :: .int x :: r => am_one (μ, pc + len, nc, lo, .int (x &&& y) :: r, h)
    | _ => none
  | .ixor => match st with
    | .int y :: .int x :: r => am_one (μ, pc + len, nc, lo, .int (x ^^^ y) :: r, h)
    | _ => none
  | .irem => match st with
    | .int y :: .int x :: r => some (¬ y = 0, .inl [(True, (μ, pc + len, nc, lo, .int (x - x / y * y) :: r, h))])
    | _ => none
  | .ladd => match st with
    | .long y :: .long x :: r => am_one (μ, pc + len, nc, lo, .long (x + y) :: r, h)
    | _ => none
  | .i2l => match st with
    | .int x :: r => am_one (μ, pc + len, nc, lo, .long x.toInt64 :: r, h)
    | _ => none
  | .l2i => match st with
    | .long x :: r => am_one (μ, pc + len, nc, lo, .int x.toInt32 :: r, h)
    | _ => none
  | .dup => match st with
    | v :: r => some (v.category = 1, .inl [(True, (μ, pc + len, nc, lo, v :: v :: r, h))])
    | _ => none
  | .pop => match st with
    | v :: r => some (v.category = 1, .inl [(True, (μ, pc + len, nc, lo, r, h))])
    | _ => none
  | .dup2 => match st with
    | v :: w :: r => some (v.category = 1 ∧ w.category = 1, .inl [(True, (μ, pc + len, nc, lo, v :: w :: v :: w :: r, h))])
    | _ => none
  | .dup_x1 => match st with
    | v :: w :: r => some (v.category = 1 ∧ w.category = 1, .inl [(True, (μ, pc + len, nc, lo, v :: w :: v :: r, h))])
    | _ => none
  | .goto _ => am_one (μ, tg, nc, lo, st, h)
  | .ifCond cc _ => match st with
    | .int x :: r => am_br cc x 0 (μ, tg, nc, lo, r, h) (μ, pc + len, nc, lo, r, h)
    | _ => none
  | .if_icmp cc _ => match st with
    | .int y :: .int x :: r => am_br cc x y (μ, tg, nc, lo, r, h) (μ, pc + len, nc, lo, r, h)
    | _ => none
  | .tableswitch _ l u offs => match st with
    | .int x :: r => some (u + 1 = l + (offs.size : Int) ∧ am_swo pc offs.toList = true, .inl ((x.toInt < l ∨ u < x.toInt, (μ, tg, nc, lo, r, h)) :: am_sw (fun t => (μ, t, nc, lo, r, h)) pc x.toInt l 0 offs.toList))
    | _ => none
  | .getfield ix => match am_fld G μ ix with
    | some (ci, k) => match st with
      | .ref o :: r => match sh[o]? with
        | some (.inl (cj, fs)) => match fs[k]? with
          | some (.inl q) => some (ci = cj, .inl [(True, (μ, pc + len, nc, lo, .ref q :: r, h))])
          | some (.inr j) => some (ci = cj, .inl [(True, (μ, pc + len, nc, lo, .int (h.1 j) :: r, h))])
          | none => none
        | _ => none
      | _ => none
    | none => none
  | .putfield ix => match am_fld G μ ix with
    | some (ci, k) => match st with
      | .int x :: .ref o :: r => match sh[o]? with
        | some (.inl (cj, fs)) => match fs[k]? with
          | some (.inr j) => some (ci = cj, .inl [(True, (μ, pc + len, nc, lo, r, (upd h.1 j x, h.2)))])
          | _ => none
        | _ => none
      | _ => none
    | none => none
  | .iaload => match st with
    | .int j :: .ref o :: r => match sh[o]? with
      | some (.inr (0, n)) => some (vp_in j n, .inl [(True, (μ, pc + len, nc, lo, .int (h.2 o j.toNatClampNeg) :: r, h))])
      | _ => none
    | _ => none
  | .iastore => match st with
    | .int x :: .int j :: .ref o :: r => match sh[o]? with
      | some (.inr (0, n)) => some (vp_in j n, .inl [(True, (μ, pc + len, nc, lo, r, (h.1, va_up h.2 o (upd (h.2 o) j.toNatClampNeg x))))])
      | _ => none
    | _ => none
  | .baload => match st with
    | .int j :: .ref o :: r => match sh[o]? with
      | some (.inr (1, n)) => some (vp_in j n, .inl [(True, (μ, pc + len, nc, lo, .int (h.2 o j.toNatClampNeg) :: r, h))])
      | _ => none
    | _ => none
  | .bastore => match st with
    | .int x :: .int j :: .ref o :: r => match sh[o]? with
      | some (.inr (1, n)) => some (vp_in j n ∧ (x = 0 ∨ x = 1), .inl [(True, (μ, pc + len, nc, lo, r, (h.1, va_up h.2 o (upd (h.2 o) j.toNatClampNeg x))))])
      | _ => none
    | _ => none
  | .arraylength => match st with
    | .ref o :: r => match sh[o]? with
      | some (.inr (0, n)) => am_one (μ, pc + len, nc, lo, .int (Int32.ofNat n) :: r, h)
      | _ => none
    | _ => none
  | .invokevirtual ix => match am_cal G μ ix with
    | some (0, μ', n) => am_inv G sh μ pc nc lo st h 0 μ' (n + 1)
    | _ => none
  | .invokestatic ix => match am_cal G μ ix with
    | some (2, μ', n) => am_inv G sh μ pc nc lo st h 2 μ' n
    | some (3, _, _) => match st with
      | .int y :: .int x :: r => some (am_ct r ≤ 8 ∧ nc ≤ am_nc G μ, .inl [(True, (μ, pc + len, nc, lo, .int (if x < y then y else x) :: r, h))])
      | _ => none
    | some (4, _, _) => match st with
      | .int y :: .int x :: r => some (am_ct r ≤ 8 ∧ nc ≤ am_nc G μ, .inl [(True, (μ, pc + len, nc, lo, .int (if y < x then y else x) :: r, h))])
      | _ => none
    | some (5, _, _) => match st with
      | .long y :: .long x :: r => some (am_ct r ≤ 8 ∧ nc ≤ am_nc G μ, .inl [(True, (μ, pc + len, nc, lo, .long (if y < x then y else x) :: r, h))])
      | _ => none
    | _ => none
  | .ireturn => match st with
    | [.int x] => some ((am_rt G μ = 1 ∨ (am_rt G μ = 2 ∧ (x = 0 ∨ x = 1))) ∧ nc ≤ am_nc G μ, .inr (.inr (h, .inl (some (.int x)))))
    | _ => none
  | .return_ => match st with
    | [] => some (am_rt G μ = 0 ∧ nc ≤ am_nc G μ, .inr (.inr (h, .inl none)))
    | _ => none
  | .new _ => match am_th G μ pc with
    | some E => some (nc + 1 ≤ am_nc G μ ∧ am_ct st ≤ 8, .inr (.inr (h, .inr E)))
    | none => none
  | _ => none
def am_step (G : am_G) (sh : List am_D) (c : am_C) : Option am_N := match am_code G c.1 c.2.1 with
  | some (i, len, tg) => am_op G sh c.1 c.2.1 len tg c.2.2.1 c.2.2.2.1 c.2.2.2.2.1 c.2.2.2.2.2 i
  | none => none
def am_all (f : am_C → Prop) : List (Prop × am_C) → Prop
  | [] => True
  | q :: r => (q.1 → f q.2) ∧ am_all f r
theorem am_all_mono {f g : am_C → Prop} (hfg : ∀ c, f c → g c) : ∀ {l : List (Prop × am_C)}, am_all f l → am_all g l
  | [], _ => trivial
  | _ :: _, h => ⟨fun hq => hfg _ (h.1 hq), am_all_mono hfg h.2⟩
/-- what a caller makes of an outcome -/
def am_k (Q : am_Q) (f : am_S → Option Value → Prop) : am_Q := fun h o => match o with
  | .inl r => f h r
  | .inr E => Q h (.inr E)
theorem am_k_mono {Q Q' : am_Q} {f f' : am_S → Option Value → Prop} (hQ : ∀ h o, Q h o → Q' h o) (hf : ∀ h r, f h r → f' h r) : ∀ h o, am_k Q f h o → am_k Q' f' h o := by
  intro h o
  cases o with
  | inl r => exact hf h r
  | inr E => exact hQ h _
def am_go (P : am_C → am_Q → Prop) (F : am_C → am_Q → Prop) (n : Option am_N) (Q : am_Q) : Prop := match n with
  | none => False
  | some (ob, .inl l) => ob ∧ am_all (fun c' => F c' Q) l
  | some (ob, .inr (.inl (c', K))) => ob ∧ P c' (am_k Q (fun h r => F (K h r) Q))
  | some (ob, .inr (.inr (h, o))) => ob ∧ Q h o
def am_mono (P : am_C → am_Q → Prop) : Prop := ∀ (c : am_C) (Q Q' : am_Q), (∀ h o, Q h o → Q' h o) → P c Q → P c Q'
theorem am_go_le {P P' F F' : am_C → am_Q → Prop} (hm : am_mono P') (hP : ∀ c Q, P c Q → P' c Q) (hF : ∀ c Q, F c Q → F' c Q) {n : Option am_N} {Q : am_Q} (h : am_go P F n Q) : am_go P' F' n Q := by
  match n, h with
  | some (ob, .inl l), h => exact ⟨h.1, am_all_mono (fun c hc => hF c Q hc) h.2⟩
  | some (ob, .inr (.inl (c', K))), h => exact ⟨h.1, hm _ _ _ (am_k_mono (fun _ _ q => q) (fun h r q => hF _ _ q)) (hP _ _ h.2)⟩
  | some (ob, .inr (.inr (h0, o))), h => exact h
theorem am_go_mono {P F : am_C → am_Q → Prop} (hP : am_mono P) (hF : am_mono F) {n : Option am_N} {Q Q' : am_Q} (hQ : ∀ h o, Q h o → Q' h o) (h : am_go P F n Q) : am_go P F n Q' := by
  match n, h with
  | some (ob, .inl l), h => exact ⟨h.1, am_all_mono (fun c hc => hF c Q Q' hQ hc) h.2⟩
  | some (ob, .inr (.inl (c', K))), h => exact ⟨h.1, hP _ _ _ (am_k_mono hQ (fun h r q => hF _ _ _ hQ q)) h.2⟩
  | some (ob, .inr (.inr (h0, o))), h => exact ⟨h.1, hQ _ _ h.2⟩
/-- the least predicate that is closed under steps -/
def am_AW (G : am_G) (sh : List am_D) (c : am_C) (Q : am_Q) : Prop := ∀ P : am_C → am_Q → Prop, am_mono P → (∀ c Q, am_go P P (am_step G sh c) Q → P c Q) → P c Q
theorem am_AW_mono (G : am_G) (sh : List am_D) : am_mono (am_AW G sh) := fun c Q Q' hQ h P hm hc => hm c Q Q' hQ (h P hm hc)
theorem am_AW.fold {G : am_G} {sh : List am_D} {c : am_C} {Q : am_Q} (h : am_go (am_AW G sh) (am_AW G sh) (am_step G sh c) Q) : am_AW G sh c Q :=
  fun P hm hc => hc c Q (am_go_le hm (fun _ _ q => q P hm hc) (fun _ _ q => q P hm hc) h)
/-- n steps at once -/
def am_R (G : am_G) (sh : List am_D) : Nat → am_C → am_Q → Prop
  | 0, c, Q => am_AW G sh c Q
  | n + 1, c, Q => am_go (am_AW G sh) (fun c' Q' => am_R G sh n c' Q') (am_step G sh c) Q
theorem am_AW.run {G : am_G} {sh : List am_D} : ∀ (n : Nat) {c : am_C} {Q : am_Q}, am_R G sh n c Q → am_AW G sh c Q
  | 0, _, _, h => h
  | n + 1, _, _, h => am_AW.fold (am_go_le (am_AW_mono G sh) (fun _ _ q => q) (fun _ _ q => am_AW.run n q) h)
end
section
/-! THE ABSTRACT MACHINE IS SOUND: what am_AW says of a configuration holds of the machine. -/
def am_cv (ad : Nat → Nat) (v : Value) : Value := match v with
  | .ref k => .ref (ad k)
  | w => w
theorem am_cv_cat (ad : Nat → Nat) (v : Value) : (am_cv ad v).category = v.category := by cases v <;> rfl
def am_fv (ad : Nat → Nat) (I : Nat → Int32) (f : Nat ⊕ Nat) : Value := match f with
  | .inl r => .ref (ad r)
  | .inr i => .int (I i)
def am_E (ad : Nat → Nat) (ca : Nat → ClassId) (h : am_S) (k : Nat) (d : am_D) : va_E := match d with
  | .inl (ci, fs) => .inr (ci, fs.map (am_fv ad h.1))
  | .inr (tc, n) => .inl (ca tc, n, .inl (h.2 k))
def am_W (sh : List am_D) (ad : Nat → Nat) (ca : Nat → ClassId) (h : am_S) : va_W := sh.mapIdx (fun k d => (ad k, am_E ad ca h k d))
def am_ty (ca : Nat → ClassId) : List (ClassId × FieldType) := [(ca 0, .int), (ca 1, .boolean)]
theorem am_W_get {sh : List am_D} {ad : Nat → Nat} {ca : Nat → ClassId} {h : am_S} {k : Nat} {d : am_D} (hd : sh[k]? = some d) : (am_W sh ad ca h)[k]? = some (ad k, am_E ad ca h k d) := by
  simp [am_W, List.getElem?_mapIdx, hd]
/-- a shape's numbers have names of their own; its number fields are ints that are not final -/
def am_Sh (cl : List vw_C) (sh : List am_D) : Prop :=
  (∀ (o ci : Nat) (fs : List (Nat ⊕ Nat)) (k i : Nat), sh[o]? = some (.inl (ci, fs)) → fs[k]? = some (.inr i) → ∀ (o' ci' : Nat) (fs' : List (Nat ⊕ Nat)) (k' : Nat), sh[o']? = some (.inl (ci', fs')) → fs'[k']? = some (.inr i) → o' = o ∧ k' = k) ∧
  ∀ (o ci : Nat) (fs : List (Nat ⊕ Nat)), sh[o]? = some (.inl (ci, fs)) → ∀ (C : String) (T : u_T) (N : Nat), cl[ci]? = some (C, T, N) → fs.length = N ∧ ∀ k i : Nat, fs[k]? = some (.inr i) → parseFieldDescriptor (T k).2.2.1 = some .int ∧ (T k).2.2.2 = false
theorem am_W_row {sh : List am_D} {ad : Nat → Nat} {ca : Nat → ClassId} {h : am_S} {o tc n : Nat} {f : Nat → Int32} (hd : sh[o]? = some (.inr (tc, n))) : (am_W sh ad ca h).set o (ad o, .inl (ca tc, n, .inl f)) = am_W sh ad ca (h.1, va_up h.2 o f) := by
  apply List.ext_getElem?
  intro j
  by_cases hj : j = o
  · subst hj
    have hl : j < (am_W sh ad ca h).length := (List.getElem?_eq_some_iff.mp (am_W_get (ad := ad) (ca := ca) (h := h) hd)).1
    rw [List.getElem?_set_self hl, am_W_get hd]
    simp [am_E, va_up]
  · rw [List.getElem?_set_ne (Ne.symm hj)]
    cases hs : sh[j]? with
    | none => simp [am_W, List.getElem?_mapIdx, hs]
    | some d =>
      rw [am_W_get hs, am_W_get hs]
      cases d with
      | inl q => rfl
      | inr q => simp [am_E, va_up, hj]
theorem am_W_num {cl : List vw_C} {sh : List am_D} (hsh : am_Sh cl sh) {ad : Nat → Nat} {ca : Nat → ClassId} {h : am_S} {o ci k i : Nat} {fs : List (Nat ⊕ Nat)} {x : Int32} (hd : sh[o]? = some (.inl (ci, fs))) (hk : fs[k]? = some (.inr i)) :
    (am_W sh ad ca h).set o (ad o, .inr (ci, (fs.map (am_fv ad h.1)).set k (.int x))) = am_W sh ad ca (upd h.1 i x, h.2) := by
  have old : ∀ (o' ci' : Nat) (fs' : List (Nat ⊕ Nat)) (k' : Nat) (z : Nat ⊕ Nat), sh[o']? = some (.inl (ci', fs')) → fs'[k']? = some z → ¬ (o' = o ∧ k' = k) → am_fv ad (upd h.1 i x) z = am_fv ad h.1 z := by
    intro o' ci' fs' k' z h1 h2 h3
    cases z with
    | inl r => rfl
    | inr i' =>
      by_cases hi : i' = i
      · subst hi
        exact absurd (hsh.1 o ci fs k i' hd hk o' ci' fs' k' h1 h2) h3
      · simp [am_fv, upd, hi]
  apply List.ext_getElem?
  intro j
  by_cases hj : j = o
  · subst hj
    have hl : j < (am_W sh ad ca h).length := (List.getElem?_eq_some_iff.mp (am_W_get (ad := ad) (ca := ca) (h := h) hd)).1
    rw [List.getElem?_set_self hl, am_W_get hd]
    simp only [am_E, Option.some.injEq, Prod.mk.injEq, Sum.inr.injEq, true_and]
    apply List.ext_getElem?
    intro k'
    by_cases hk' : k' = k
    · subst hk'
      have hl2 : k' < (fs.map (am_fv ad h.1)).length := by
        rw [List.length_map]
        exact (List.getElem?_eq_some_iff.mp hk).1
      rw [List.getElem?_set_self hl2, List.getElem?_map, hk]
      simp [am_fv, upd]
    · rw [List.getElem?_set_ne (Ne.symm hk'), List.getElem?_map, List.getElem?_map]
      cases hz : fs[k']? with
      | none => rfl
      | some z =>
        simp only [Option.map_some, Option.some.injEq]
        exact (old j ci fs k' z hd hz (fun q => hk' q.2)).symm
  · rw [List.getElem?_set_ne (Ne.symm hj)]
    cases hs : sh[j]? with
    | none => simp [am_W, List.getElem?_mapIdx, hs]
    | some d =>
      rw [am_W_get hs, am_W_get hs]
      cases d with
      | inr q => rfl
      | inl q =>
        obtain ⟨c2, f2⟩ := q
        simp only [am_E, Option.some.injEq, Prod.mk.injEq, Sum.inr.injEq, true_and]
        apply List.ext_getElem?
        intro k'
        rw [List.getElem?_map, List.getElem?_map]
        cases hz : f2[k']? with
        | none => rfl
        | some z =>
          simp only [Option.map_some, Option.some.injEq]
          exact (old j c2 f2 k' z hs hz (fun q => hj q.1)).symm
/-- the locals -/
def am_lo (ad : Nat → Nat) (ls : Array Slot) (n : Nat) (lo : List (Option Value)) : Prop := ls.size = n ∧ lv_wf ls ∧ ∀ (i : Nat) (v : Value), lo[i]? = some (some v) → ls[i]? = some (.val (am_cv ad v))
def am_pl (ad : Nat → Nat) (n : Nat) (lo : List (Option Value)) : List (Nat × Value) := (List.range n).filterMap (fun i => match lo[i]? with
  | some (some v) => some (i, am_cv ad v)
  | _ => none)
theorem am_pl_mem {ad : Nat → Nat} {n : Nat} {lo : List (Option Value)} {i : Nat} {v : Value} (hi : i < n) (h : lo[i]? = some (some v)) : (i, am_cv ad v) ∈ am_pl ad n lo :=
  List.mem_filterMap.mpr ⟨i, List.mem_range.mpr hi, by rw [h]⟩
theorem am_lo.has {ad : Nat → Nat} {ls : Array Slot} {n : Nat} {lo : List (Option Value)} (h : am_lo ad ls n lo) : lv_has ls n (am_pl ad n lo) := by
  refine ⟨h.1, h.2.1, fun q hq => ?_⟩
  obtain ⟨i, -, hi⟩ := List.mem_filterMap.mp hq
  split at hi
  · rename_i v hv
    cases hi
    exact h.2.2 i v hv
  · cases hi
theorem am_lo.lt {ad : Nat → Nat} {ls : Array Slot} {n : Nat} {lo : List (Option Value)} (h : am_lo ad ls n lo) {i : Nat} {v : Value} (hv : lo[i]? = some (some v)) : i < n := by
  rw [← h.1]
  exact (Array.getElem?_eq_some_iff.mp (h.2.2 i v hv)).1
theorem am_cut_get {lo : List (Option Value)} {i j : Nat} {w : Value} (h : (am_cut lo i)[j]? = some (some w)) : lo[j]? = some (some w) ∧ ¬ (j + 1 = i ∧ w.category = 2) := by
  cases i with
  | zero => exact ⟨h, fun q => by omega⟩
  | succ i =>
    simp only [am_cut] at h
    split at h
    · rename_i v hv
      split at h
      · rename_i hc
        by_cases hj : i = j
        · subst hj
          have hl : i < lo.length := (List.getElem?_eq_some_iff.mp hv).1
          rw [List.getElem?_set_self hl] at h
          simp at h
        · rw [List.getElem?_set_ne hj] at h
          exact ⟨h, fun q => hj (by omega)⟩
      · rename_i hc
        refine ⟨h, fun q => ?_⟩
        have : j = i := by omega
        subst this
        rw [hv] at h
        cases h
        exact hc q.2
    · rename_i hn
      refine ⟨h, fun q => ?_⟩
      have : j = i := by omega
      subst this
      exact hn w h
theorem am_lo_s1 {ad : Nat → Nat} {ls ls' : Array Slot} {n i : Nat} {lo : List (Option Value)} {v : Value} (h : am_lo ad ls n lo)
    (h' : lv_has ls' n ((i, am_cv ad v) :: (am_pl ad n lo).filter (fun q => !(q.1 == i) && !(q.1 + 1 == i && q.2.category == 2)))) : am_lo ad ls' n (am_s1 lo i v) := by
  refine ⟨h'.1, h'.2.1, fun j w hj => ?_⟩
  by_cases hij : i = j
  · subst hij
    have hl : i < (am_cut lo i).length := by
      have := (List.getElem?_eq_some_iff.mp hj).1
      simpa [am_s1] using this
    rw [am_s1, List.getElem?_set_self hl] at hj
    cases hj
    exact h'.2.2 (i, am_cv ad v) List.mem_cons_self
  · rw [am_s1, List.getElem?_set_ne hij] at hj
    obtain ⟨h1, h2⟩ := am_cut_get hj
    refine h'.2.2 (j, am_cv ad w) (List.mem_cons_of_mem _ (List.mem_filter.mpr ⟨am_pl_mem (h.lt h1) h1, ?_⟩))
    have hji : ¬ j = i := fun q => hij q.symm
    simp only [Bool.and_eq_true, Bool.not_eq_true', beq_eq_false_iff_ne, ne_eq, hji, not_false_iff, true_and, am_cv_cat, Bool.and_eq_false_iff]
    by_cases ha : j + 1 = i
    · right
      exact fun q => h2 ⟨ha, q⟩
    · left
      exact ha
theorem am_lo_s2 {ad : Nat → Nat} {ls ls' : Array Slot} {n i : Nat} {lo : List (Option Value)} {v : Value} (h : am_lo ad ls n lo)
    (h' : lv_has ls' n ((i, am_cv ad v) :: (am_pl ad n lo).filter (fun q => !(q.1 == i) && (!(q.1 == i + 1) && !(q.1 + 1 == i && q.2.category == 2))))) : am_lo ad ls' n (am_s2 lo i v) := by
  refine ⟨h'.1, h'.2.1, fun j w hj => ?_⟩
  by_cases hij1 : i + 1 = j
  · subst hij1
    have hl : i + 1 < ((am_cut lo i).set i (some v)).length := by
      have := (List.getElem?_eq_some_iff.mp hj).1
      simpa [am_s2] using this
    rw [am_s2, List.getElem?_set_self hl] at hj
    cases hj
  · rw [am_s2, List.getElem?_set_ne hij1] at hj
    by_cases hij : i = j
    · subst hij
      have hl : i < (am_cut lo i).length := by
        have := (List.getElem?_eq_some_iff.mp hj).1
        simpa using this
      rw [List.getElem?_set_self hl] at hj
      cases hj
      exact h'.2.2 (i, am_cv ad v) List.mem_cons_self
    · rw [List.getElem?_set_ne hij] at hj
      obtain ⟨h1, h2⟩ := am_cut_get hj
      refine h'.2.2 (j, am_cv ad w) (List.mem_cons_of_mem _ (List.mem_filter.mpr ⟨am_pl_mem (h.lt h1) h1, ?_⟩))
      have hji : ¬ j = i := fun q => hij q.symm
      have hji1 : ¬ j = i + 1 := fun q => hij1 q.symm
      simp only [Bool.and_eq_true, Bool.not_eq_true', beq_eq_false_iff_ne, ne_eq, hji, hji1, not_false_iff, true_and, am_cv_cat, Bool.and_eq_false_iff]
      by_cases ha : j + 1 = i
      · right
        exact fun q => h2 ⟨ha, q⟩
      · left
        exact ha
theorem am_pp_spec : ∀ {n : Nat} {st acc args rest : List Value}, am_pp n st acc = some (args, rest) → ∃ pre : List Value, st = pre ++ rest ∧ args = pre.reverse ++ acc ∧ pre.length = n ∧ ∀ v ∈ pre, v.category = 1
  | 0, st, acc, args, rest, h => by
    simp only [am_pp, Option.some.injEq, Prod.mk.injEq] at h
    obtain ⟨rfl, rfl⟩ := h
    exact ⟨[], rfl, rfl, rfl, fun v hv => by cases hv⟩
  | n + 1, [], acc, args, rest, h => by simp [am_pp] at h
  | n + 1, v :: st, acc, args, rest, h => by
    simp only [am_pp] at h
    split at h
    · rename_i hc
      obtain ⟨pre, rfl, rfl, h3, h4⟩ := am_pp_spec h
      refine ⟨v :: pre, rfl, by simp, by simp [h3], fun w hw => ?_⟩
      rcases List.mem_cons.mp hw with rfl | hw
      · exact hc
      · exact h4 w hw
    · cases h
theorem am_in_get : ∀ {n : Nat} {args : List Value} {i : Nat} {v : Value}, (am_in n args)[i]? = some (some v) → args[i]? = some v
  | n, [], i, v, h => by
    exfalso
    have key : ∀ (n i : Nat), (am_no n)[i]? ≠ some (some v) := by
      intro n
      induction n with
      | zero => intro i q; simp [am_no] at q
      | succ n ih =>
        intro i q
        cases i with
        | zero => simp [am_no] at q
        | succ i => exact ih i (by simpa [am_no] using q)
    cases n <;> exact key _ _ (by simpa [am_in] using h)
  | 0, a :: r, 0, v, h => by simpa [am_in] using h
  | 0, a :: r, i + 1, v, h => by
    have := am_in_get (n := 0) (args := r) (i := i) (v := v) (by simpa [am_in] using h)
    simpa using this
  | n + 1, a :: r, 0, v, h => by simpa [am_in] using h
  | n + 1, a :: r, i + 1, v, h => by
    have := am_in_get (n := n) (args := r) (i := i) (v := v) (by simpa [am_in] using h)
    simpa using this
theorem am_sl1 : ∀ {vs : List Value}, (∀ v ∈ vs, v.category = 1) → (lg_sl vs).length = vs.length
  | [], _ => rfl
  | v :: r, h => by
    have h1 := h v List.mem_cons_self
    have ih := am_sl1 (vs := r) (fun w hw => h w (List.mem_cons_of_mem _ hw))
    simp only [lg_sl, List.flatMap_cons, h1] at ih ⊢
    simp [ih]
theorem am_args1 : ∀ {vs : List Value} {k i : Nat} {v : Value}, (∀ w ∈ vs, w.category = 1) → vs[i]? = some v → (k + i, v) ∈ lv_args k vs
  | [], k, i, v, _, h => by simp at h
  | w :: r, k, 0, v, hc, h => by
    have : w = v := by simpa using h
    subst this
    exact List.mem_cons_self
  | w :: r, k, i + 1, v, hc, h => by
    have h1 := hc w List.mem_cons_self
    have := am_args1 (k := k + 1) (i := i) (v := v) (fun w hw => hc w (List.mem_cons_of_mem _ hw)) (by simpa using h)
    refine List.mem_cons_of_mem _ ?_
    rw [h1, if_neg (by decide)]
    rw [show k + (i + 1) = k + 1 + i by omega]
    exact this
theorem am_nn_spec {z : Int} {t : Nat} (h : am_nn z = some t) : z = (t : Int) := by
  cases z with
  | ofNat n => simp only [am_nn, Option.some.injEq] at h; rw [h]; rfl
  | negSucc n => cases h
theorem am_ct_map {ad : Nat → Nat} : ∀ st : List Value, ((st.map (am_cv ad)).map fun v => v.category).sum = am_ct st
  | [] => rfl
  | v :: r => by
    simp only [List.map_cons, List.sum_cons, am_cv_cat, am_ct]
    rw [am_ct_map r]
/-- what the tables must say -/
def am_Ok (G : am_G) (TS NS : List Cond) (cl : List vw_C) : Prop :=
  (∀ w ∈ TS, goodWord w = true) ∧
  (∀ (μ : Nat) (M : am_M), am_m G μ = some M → plainName M.1.cls = true ∧ Cond.code M.1 M.2.1 M.2.2.1 M.2.2.2.1 ∈ TS ∧ Cond.initialized M.1.cls ∈ TS ∧ (M.1.cls ≠ "java/lang/invoke/MethodHandle" ∧ M.1.cls ≠ "java/lang/invoke/VarHandle") ∧ M.2.2.2.2.2.slots = 6 * M.2.2.2.2.2.cells) ∧
  (∀ (μ : Nat) (M : am_M) (ix ci k : Nat), am_m G μ = some M → am_fld G μ ix = some (ci, k) → ∃ (C : String) (T : u_T) (N : Nat) (ty : Nat → FieldType), cl[ci]? = some (C, T, N) ∧ k < N ∧ (T k).1 = C ∧ (∀ w ∈ u_ws C T N, w ∈ TS) ∧ (∀ j, j < N → parseFieldDescriptor (T j).2.2.1 = some (ty j)) ∧ (∀ a, a < N → ∀ b, b < N → a ≠ b → (T a).2.1 ≠ (T b).2.1) ∧
    (Cond.fieldLink M.1.cls ix C (T k).2.1 (T k).2.2.1 ∈ TS ∨ ∃ host, Cond.fieldLinkNest M.1.cls ix C (T k).2.1 (T k).2.2.1 host ∈ NS)) ∧
  (∀ (μ : Nat) (M : am_M) (ix μ' n : Nat), am_m G μ = some M → am_cal G μ ix = some (0, μ', n) → ∃ M' : am_M, am_m G μ' = some M' ∧ Cond.methodLink M.1.cls ix M'.1 ∈ TS ∧ Cond.instanceMethod M'.1 ∈ TS ∧ Cond.selects M'.1.cls M'.1 M'.1 ∈ TS ∧ (parseMethodDescriptor M'.1.desc).map (fun d => d.parameters.length) = some n ∧
    M'.2.2.2.2.2.frames + 1 ≤ M.2.2.2.2.2.frames ∧ 8 + (M'.2.2.1 + 11) + M'.2.2.2.2.2.locals ≤ M.2.2.2.2.2.locals ∧ ∃ (T : u_T) (N : Nat), cl[M'.2.2.2.2.1]? = some (M'.1.cls, T, N)) ∧
  (∀ (μ : Nat) (M : am_M) (ix μ' n : Nat), am_m G μ = some M → am_cal G μ ix = some (2, μ', n) → ∃ M' : am_M, am_m G μ' = some M' ∧ Cond.methodLink M.1.cls ix M'.1 ∈ TS ∧ Cond.static M'.1 ∈ TS ∧ (parseMethodDescriptor M'.1.desc).map (fun d => d.parameters.length) = some n ∧
    M'.2.2.2.2.2.frames + 1 ≤ M.2.2.2.2.2.frames ∧ 8 + (M'.2.2.1 + 11) + M'.2.2.2.2.2.locals ≤ M.2.2.2.2.2.locals) ∧
  (∀ (μ : Nat) (M : am_M) (ix a b : Nat), am_m G μ = some M → am_cal G μ ix = some (3, a, b) → Cond.methodLink M.1.cls ix Lib.Math.max.name ∈ TS ∧ Cond.static Lib.Math.max.name ∈ TS ∧ Cond.initialized "java/lang/Math" ∈ TS ∧ Cond.code Lib.Math.max.name Lib.Math.max.code 2 (some .int) ∈ TS ∧ 1 ≤ M.2.2.2.2.2.frames ∧ 23 ≤ M.2.2.2.2.2.locals) ∧
  (∀ (μ : Nat) (M : am_M) (ix a b : Nat), am_m G μ = some M → am_cal G μ ix = some (4, a, b) → Cond.methodLink M.1.cls ix Lib.Math.min.name ∈ TS ∧ Cond.static Lib.Math.min.name ∈ TS ∧ Cond.initialized "java/lang/Math" ∈ TS ∧ Cond.code Lib.Math.min.name Lib.Math.min.code 2 (some .int) ∈ TS ∧ 1 ≤ M.2.2.2.2.2.frames ∧ 23 ≤ M.2.2.2.2.2.locals) ∧
  (∀ (μ : Nat) (M : am_M) (ix a b : Nat), am_m G μ = some M → am_cal G μ ix = some (5, a, b) → Cond.methodLink M.1.cls ix Lib.MathLoose.min_long.x ∈ TS ∧ Cond.static Lib.MathLoose.min_long.x ∈ TS ∧ Cond.initialized "java/lang/Math" ∈ TS ∧ Cond.code Lib.MathLoose.min_long.x Lib.MathLoose.min_long.code 4 (some .long) ∈ TS ∧ 1 ≤ M.2.2.2.2.2.frames ∧ 23 ≤ M.2.2.2.2.2.locals) ∧
  (∀ (μ : Nat) (M : am_M) (ix : Nat) (v : Int32), am_m G μ = some M → am_ki G μ ix = some v → Cond.constant M.1.cls ix v ∈ TS) ∧
  (∀ (μ : Nat) (M : am_M) (ix : Nat) (v : Int64), am_m G μ = some M → am_kl G μ ix = some v → Cond.constantLong M.1.cls ix v ∈ TS)
/-- a method's body at work -/
def am_B (TS NS : List Cond) (M : am_M) (p : Program) (s : State) (m : MethodId) (args : Array Value) (meth : Method) (cd : Code) : Prop :=
  p.tables.exec = Jvm.exec ∧ cd.code = M.2.1 ∧ meth.sig.returnType = M.2.2.2.1 ∧ cd.maxLocals = M.2.2.1 ∧ s.vm.findClass M.1.cls = some m.cls ∧ (∀ w ∈ TS, w.before args s = true) ∧ (∀ w ∈ NS, va_Nw w s) ∧ meth.locks = false ∧ ∀ x ∈ cd.exceptionTable.toList, False
def am_PW (G : am_G) (sh : List am_D) (TS NS : List Cond) (cl : List vw_C) (EX : (Nat → Prop) → State → Heap → Prop) (l : Launch) (c : am_C) (Q : am_Q) : Prop :=
  ∀ M : am_M, am_m G c.1 = some M → ∀ (p : Program) (e : Env) (s : State) (m : MethodId) (args : Array Value) (below : List Frame) (meth : Method) (cd : Code) (H : Heap) (locs : List Loc) (A : Nat → Prop) (ls : Array Slot) (ad : Nat → Nat) (ca : Nat → ClassId) (D : va_G),
    am_B TS NS M p s m args meth cd → EX A s s.heap → va_K D cl (am_ty ca) s → va_P D cl (am_W sh ad ca c.2.2.2.2.2) H → va_D A (am_W sh ad ca c.2.2.2.2.2) → va_S A s.heap H locs → (∀ q, s.heap.size ≤ q → A q) → am_lo ad ls M.2.2.1 c.2.2.2.1 →
    ∀ (Qc : Array Value → State → Outcome → State → Prop) (XC : String → State → State → Prop),
      (∀ (h' : am_S) (r : Option Value) (t : State), Q h' (.inl r) → s.vm.Alike t.vm → va_P D cl (am_W sh ad ca h') t.heap → va_D A (am_W sh ad ca h') → va_F A s t → Qc args s (.returned (r.map (am_cv ad))) t) →
      (∀ (h' : am_S) (E : String) (t : State), Q h' (.inr E) → s.vm.Alike t.vm → va_P D cl (am_W sh ad ca h') t.heap → va_D A (am_W sh ad ca h') → va_F A s t → XC E s t) →
      W p l e M.2.2.2.2.2 s m args below meth cd H locs c.2.2.1 (6 * c.2.2.1) (vx_MQ below Qc XC args s M.2.2.2.2.2.cells M.2.2.2.2.2.slots A) (F0 m c.2.1 ls (c.2.2.2.2.1.map (am_cv ad)))
theorem am_PW_mono (G : am_G) (sh : List am_D) (TS NS : List Cond) (cl : List vw_C) (EX : (Nat → Prop) → State → Heap → Prop) (l : Launch) : am_mono (am_PW G sh TS NS cl EX l) := by
  intro c Q Q' hQ h M hM p e s m args below meth cd H locs A ls ad ca D hB hE hK hP hD hS hA hl Qc XC h1 h2
  exact h M hM p e s m args below meth cd H locs A ls ad ca D hB hE hK hP hD hS hA hl Qc XC (fun h' r t q => h1 h' r t (hQ _ _ q)) (fun h' E t q => h2 h' E t (hQ _ _ q))
/-- what moves the throws' premises along -/
def am_EX (EX : (Nat → Prop) → State → Heap → Prop) : Prop := ∀ (A B : Nat → Prop) (u U : State) (H0 H1 : Heap), EX A u H0 → u.WarmedH U.vm → (∀ a : Nat, a < H0.size → ¬ A a → H1[a]? = H0[a]?) → (∀ q, B q → A q) → EX B U H1
/-- the throws themselves -/
def am_TH (G : am_G) (TS NS : List Cond) (EX : (Nat → Prop) → State → Heap → Prop) (l : Launch) : Prop :=
  ∀ (μ : Nat) (M : am_M) (pc : Nat) (E : String), am_m G μ = some M → am_th G μ pc = some E → ∀ (p : Program) (e : Env) (s : State) (m : MethodId) (args : Array Value) (below : List Frame) (meth : Method) (cd : Code) (H : Heap) (locs : List Loc) (A : Nat → Prop) (ls : Array Slot) (rest : List Value) (nc : Nat) (Qc : Array Value → State → Outcome → State → Prop) (XC : String → State → State → Prop),
    am_B TS NS M p s m args meth cd → EX A s s.heap → va_S A s.heap H locs → ls.size = M.2.2.1 → (rest.map fun v => v.category).sum ≤ 8 → nc + 1 ≤ M.2.2.2.2.2.cells →
    (∀ t : State, s.vm.Alike t.vm → H.size ≤ t.heap.size → (∀ q : Nat, q < H.size → t.heap[q]? = H[q]?) → XC E s t) →
    W p l e M.2.2.2.2.2 s m args below meth cd H locs nc (6 * nc) (vx_MQ below Qc XC args s M.2.2.2.2.2.cells M.2.2.2.2.2.slots A) (F0 m pc ls rest)
theorem am_ml_of {G : am_G} {μ : Nat} {M : am_M} (h : am_m G μ = some M) : am_ml G μ = M.2.2.1 := by simp [am_ml, h]
theorem am_oc_of {G : am_G} {μ : Nat} {M : am_M} (h : am_m G μ = some M) : am_oc G μ = M.2.2.2.2.1 := by simp [am_oc, h]
theorem am_nc_of {G : am_G} {μ : Nat} {M : am_M} (h : am_m G μ = some M) : am_nc G μ = M.2.2.2.2.2.cells := by simp [am_nc, h]
theorem am_rt_of {G : am_G} {μ : Nat} {M : am_M} (h : am_m G μ = some M) : am_rt G μ = am_rk M.2.2.2.1 := by simp [am_rt, h]
theorem am_rk_0 {t : Option FieldType} (h : am_rk t = 0) : t = none := by
  cases t with
  | none => rfl
  | some t => cases t <;> simp [am_rk] at h
theorem am_rk_1 {t : Option FieldType} (h : am_rk t = 1) : t = some .int := by
  cases t with
  | none => simp [am_rk] at h
  | some t => cases t <;> first | rfl | simp [am_rk] at h
theorem am_rk_2 {t : Option FieldType} (h : am_rk t = 2) : t = some .boolean := by
  cases t with
  | none => simp [am_rk] at h
  | some t => cases t <;> first | rfl | simp [am_rk] at h

set_option maxHeartbeats 1000000 in
theorem am_r_iconst {G : am_G} {sh : List am_D} {TS NS : List Cond} {cl : List vw_C} {EX : (Nat → Prop) → State → Heap → Prop} {l : Launch} (hok : am_Ok G TS NS cl) (hsh : am_Sh cl sh) {μ pc len tg nc : Nat} {lo : List (Option Value)} {st : List Value} {h : am_S} {Q : am_Q} {v : Int} (hc : am_code G μ pc = some (.iconst v, len, tg))
    (hF : am_go (am_PW G sh TS NS cl EX l) (am_PW G sh TS NS cl EX l) (am_op G sh μ pc len tg nc lo st h (.iconst v)) Q) : am_PW G sh TS NS cl EX l (μ, pc, nc, lo, st, h) Q := by
  intro M hM p e s m args below meth cd H locs A ls ad ca D hB hE hK hP hD hS hA hl Qc XC hQ hX
  obtain ⟨hdec, hln, htg⟩ := am_code_spec hM hc
  obtain ⟨hx, hb, hr, hml, hown, hts, hns, hlocks, hnoex⟩ := id hB
  have go : ∀ (pc' nc' : Nat) (st' : List Value), am_PW G sh TS NS cl EX l (μ, pc', nc', lo, st', h) Q → W p l e M.2.2.2.2.2 s m args below meth cd H locs nc' (6 * nc') (vx_MQ below Qc XC args s M.2.2.2.2.2.cells M.2.2.2.2.2.slots A) (F0 m pc' ls (st'.map (am_cv ad))) :=
    fun pc' nc' st' k => k M hM p e s m args below meth cd H locs A ls ad ca D hB hE hK hP hD hS hA hl Qc XC hQ hX
  obtain rfl : len = 1 := by simpa [am_ln] using hln
  exact lv_iconst hx hb hdec rfl (go _ _ _ (hF.2.1 trivial))

set_option maxHeartbeats 1000000 in
theorem am_r_bipush {G : am_G} {sh : List am_D} {TS NS : List Cond} {cl : List vw_C} {EX : (Nat → Prop) → State → Heap → Prop} {l : Launch} (hok : am_Ok G TS NS cl) (hsh : am_Sh cl sh) {μ pc len tg nc : Nat} {lo : List (Option Value)} {st : List Value} {h : am_S} {Q : am_Q} {v : Int} (hc : am_code G μ pc = some (.bipush v, len, tg))
    (hF : am_go (am_PW G sh TS NS cl EX l) (am_PW G sh TS NS cl EX l) (am_op G sh μ pc len tg nc lo st h (.bipush v)) Q) : am_PW G sh TS NS cl EX l (μ, pc, nc, lo, st, h) Q := by
  intro M hM p e s m args below meth cd H locs A ls ad ca D hB hE hK hP hD hS hA hl Qc XC hQ hX
  obtain ⟨hdec, hln, htg⟩ := am_code_spec hM hc
  obtain ⟨hx, hb, hr, hml, hown, hts, hns, hlocks, hnoex⟩ := id hB
  have go : ∀ (pc' nc' : Nat) (st' : List Value), am_PW G sh TS NS cl EX l (μ, pc', nc', lo, st', h) Q → W p l e M.2.2.2.2.2 s m args below meth cd H locs nc' (6 * nc') (vx_MQ below Qc XC args s M.2.2.2.2.2.cells M.2.2.2.2.2.slots A) (F0 m pc' ls (st'.map (am_cv ad))) :=
    fun pc' nc' st' k => k M hM p e s m args below meth cd H locs A ls ad ca D hB hE hK hP hD hS hA hl Qc XC hQ hX
  obtain rfl : len = 2 := by simpa [am_ln] using hln
  exact lv_bipush hx hb hdec rfl (go _ _ _ (hF.2.1 trivial))

set_option maxHeartbeats 1000000 in
theorem am_r_sipush {G : am_G} {sh : List am_D} {TS NS : List Cond} {cl : List vw_C} {EX : (Nat → Prop) → State → Heap → Prop} {l : Launch} (hok : am_Ok G TS NS cl) (hsh : am_Sh cl sh) {μ pc len tg nc : Nat} {lo : List (Option Value)} {st : List Value} {h : am_S} {Q : am_Q} {v : Int} (hc : am_code G μ pc = some (.sipush v, len, tg))
    (hF : am_go (am_PW G sh TS NS cl EX l) (am_PW G sh TS NS cl EX l) (am_op G sh μ pc len tg nc lo st h (.sipush v)) Q) : am_PW G sh TS NS cl EX l (μ, pc, nc, lo, st, h) Q := by
  intro M hM p e s m args below meth cd H locs A ls ad ca D hB hE hK hP hD hS hA hl Qc XC hQ hX
  obtain ⟨hdec, hln, htg⟩ := am_code_spec hM hc
  obtain ⟨hx, hb, hr, hml, hown, hts, hns, hlocks, hnoex⟩ := id hB
  have go : ∀ (pc' nc' : Nat) (st' : List Value), am_PW G sh TS NS cl EX l (μ, pc', nc', lo, st', h) Q → W p l e M.2.2.2.2.2 s m args below meth cd H locs nc' (6 * nc') (vx_MQ below Qc XC args s M.2.2.2.2.2.cells M.2.2.2.2.2.slots A) (F0 m pc' ls (st'.map (am_cv ad))) :=
    fun pc' nc' st' k => k M hM p e s m args below meth cd H locs A ls ad ca D hB hE hK hP hD hS hA hl Qc XC hQ hX
  obtain rfl : len = 3 := by simpa [am_ln] using hln
  exact lv_sipush hx hb hdec rfl (go _ _ _ (hF.2.1 trivial))

set_option maxHeartbeats 1000000 in
theorem am_r_lconst {G : am_G} {sh : List am_D} {TS NS : List Cond} {cl : List vw_C} {EX : (Nat → Prop) → State → Heap → Prop} {l : Launch} (hok : am_Ok G TS NS cl) (hsh : am_Sh cl sh) {μ pc len tg nc : Nat} {lo : List (Option Value)} {st : List Value} {h : am_S} {Q : am_Q} {v : Fin 2} (hc : am_code G μ pc = some (.lconst v, len, tg))
    (hF : am_go (am_PW G sh TS NS cl EX l) (am_PW G sh TS NS cl EX l) (am_op G sh μ pc len tg nc lo st h (.lconst v)) Q) : am_PW G sh TS NS cl EX l (μ, pc, nc, lo, st, h) Q := by
  intro M hM p e s m args below meth cd H locs A ls ad ca D hB hE hK hP hD hS hA hl Qc XC hQ hX
  obtain ⟨hdec, hln, htg⟩ := am_code_spec hM hc
  obtain ⟨hx, hb, hr, hml, hown, hts, hns, hlocks, hnoex⟩ := id hB
  have go : ∀ (pc' nc' : Nat) (st' : List Value), am_PW G sh TS NS cl EX l (μ, pc', nc', lo, st', h) Q → W p l e M.2.2.2.2.2 s m args below meth cd H locs nc' (6 * nc') (vx_MQ below Qc XC args s M.2.2.2.2.2.cells M.2.2.2.2.2.slots A) (F0 m pc' ls (st'.map (am_cv ad))) :=
    fun pc' nc' st' k => k M hM p e s m args below meth cd H locs A ls ad ca D hB hE hK hP hD hS hA hl Qc XC hQ hX
  obtain rfl : len = 1 := by simpa [am_ln] using hln
  exact lv_lconst hx hb hdec rfl (go _ _ _ (hF.2.1 trivial))

set_option maxHeartbeats 1000000 in
theorem am_r_ldc {G : am_G} {sh : List am_D} {TS NS : List Cond} {cl : List vw_C} {EX : (Nat → Prop) → State → Heap → Prop} {l : Launch} (hok : am_Ok G TS NS cl) (hsh : am_Sh cl sh) {μ pc len tg nc : Nat} {lo : List (Option Value)} {st : List Value} {h : am_S} {Q : am_Q} {ix : Nat} (hc : am_code G μ pc = some (.ldc ix, len, tg))
    (hF : am_go (am_PW G sh TS NS cl EX l) (am_PW G sh TS NS cl EX l) (am_op G sh μ pc len tg nc lo st h (.ldc ix)) Q) : am_PW G sh TS NS cl EX l (μ, pc, nc, lo, st, h) Q := by
  intro M hM p e s m args below meth cd H locs A ls ad ca D hB hE hK hP hD hS hA hl Qc XC hQ hX
  obtain ⟨hdec, hln, htg⟩ := am_code_spec hM hc
  obtain ⟨hx, hb, hr, hml, hown, hts, hns, hlocks, hnoex⟩ := id hB
  have go : ∀ (pc' nc' : Nat) (st' : List Value), am_PW G sh TS NS cl EX l (μ, pc', nc', lo, st', h) Q → W p l e M.2.2.2.2.2 s m args below meth cd H locs nc' (6 * nc') (vx_MQ below Qc XC args s M.2.2.2.2.2.cells M.2.2.2.2.2.slots A) (F0 m pc' ls (st'.map (am_cv ad))) :=
    fun pc' nc' st' k => k M hM p e s m args below meth cd H locs A ls ad ca D hB hE hK hP hD hS hA hl Qc XC hQ hX
  obtain rfl : len = 2 := by simpa [am_ln] using hln
  dsimp only [am_op] at hF
  split at hF
  · rename_i v hv
    exact lv_ldc hx hb hown (hts _ (hok.2.2.2.2.2.2.2.2.1 μ M ix v hM hv)) hdec (go _ _ _ (hF.2.1 trivial))
  · exact hF.elim

set_option maxHeartbeats 1000000 in
theorem am_r_ldc2 {G : am_G} {sh : List am_D} {TS NS : List Cond} {cl : List vw_C} {EX : (Nat → Prop) → State → Heap → Prop} {l : Launch} (hok : am_Ok G TS NS cl) (hsh : am_Sh cl sh) {μ pc len tg nc : Nat} {lo : List (Option Value)} {st : List Value} {h : am_S} {Q : am_Q} {ix : Nat} (hc : am_code G μ pc = some (.ldc2_w ix, len, tg))
    (hF : am_go (am_PW G sh TS NS cl EX l) (am_PW G sh TS NS cl EX l) (am_op G sh μ pc len tg nc lo st h (.ldc2_w ix)) Q) : am_PW G sh TS NS cl EX l (μ, pc, nc, lo, st, h) Q := by
  intro M hM p e s m args below meth cd H locs A ls ad ca D hB hE hK hP hD hS hA hl Qc XC hQ hX
  obtain ⟨hdec, hln, htg⟩ := am_code_spec hM hc
  obtain ⟨hx, hb, hr, hml, hown, hts, hns, hlocks, hnoex⟩ := id hB
  have go : ∀ (pc' nc' : Nat) (st' : List Value), am_PW G sh TS NS cl EX l (μ, pc', nc', lo, st', h) Q → W p l e M.2.2.2.2.2 s m args below meth cd H locs nc' (6 * nc') (vx_MQ below Qc XC args s M.2.2.2.2.2.cells M.2.2.2.2.2.slots A) (F0 m pc' ls (st'.map (am_cv ad))) :=
    fun pc' nc' st' k => k M hM p e s m args below meth cd H locs A ls ad ca D hB hE hK hP hD hS hA hl Qc XC hQ hX
  obtain rfl : len = 3 := by simpa [am_ln] using hln
  dsimp only [am_op] at hF
  split at hF
  · rename_i v hv
    exact lv_ldc2 hx hb hown (hts _ (hok.2.2.2.2.2.2.2.2.2 μ M ix v hM hv)) hdec (go _ _ _ (hF.2.1 trivial))
  · exact hF.elim

set_option maxHeartbeats 1000000 in
theorem am_r_iload_n {G : am_G} {sh : List am_D} {TS NS : List Cond} {cl : List vw_C} {EX : (Nat → Prop) → State → Heap → Prop} {l : Launch} (hok : am_Ok G TS NS cl) (hsh : am_Sh cl sh) {μ pc len tg nc : Nat} {lo : List (Option Value)} {st : List Value} {h : am_S} {Q : am_Q} {k : Fin 4} (hc : am_code G μ pc = some (.iload_n k, len, tg))
    (hF : am_go (am_PW G sh TS NS cl EX l) (am_PW G sh TS NS cl EX l) (am_op G sh μ pc len tg nc lo st h (.iload_n k)) Q) : am_PW G sh TS NS cl EX l (μ, pc, nc, lo, st, h) Q := by
  intro M hM p e s m args below meth cd H locs A ls ad ca D hB hE hK hP hD hS hA hl Qc XC hQ hX
  obtain ⟨hdec, hln, htg⟩ := am_code_spec hM hc
  obtain ⟨hx, hb, hr, hml, hown, hts, hns, hlocks, hnoex⟩ := id hB
  have go : ∀ (pc' nc' : Nat) (st' : List Value), am_PW G sh TS NS cl EX l (μ, pc', nc', lo, st', h) Q → W p l e M.2.2.2.2.2 s m args below meth cd H locs nc' (6 * nc') (vx_MQ below Qc XC args s M.2.2.2.2.2.cells M.2.2.2.2.2.slots A) (F0 m pc' ls (st'.map (am_cv ad))) :=
    fun pc' nc' st' k => k M hM p e s m args below meth cd H locs A ls ad ca D hB hE hK hP hD hS hA hl Qc XC hQ hX
  obtain rfl : len = 1 := by simpa [am_ln] using hln
  dsimp only [am_op] at hF
  split at hF
  · rename_i x hv
    exact lv_iload_n hx hb hdec rfl (hl.2.2 _ _ hv) (go _ _ _ (hF.2.1 trivial))
  · exact hF.elim

set_option maxHeartbeats 1000000 in
theorem am_r_iload {G : am_G} {sh : List am_D} {TS NS : List Cond} {cl : List vw_C} {EX : (Nat → Prop) → State → Heap → Prop} {l : Launch} (hok : am_Ok G TS NS cl) (hsh : am_Sh cl sh) {μ pc len tg nc : Nat} {lo : List (Option Value)} {st : List Value} {h : am_S} {Q : am_Q} {k : Nat} (hc : am_code G μ pc = some (.iload k, len, tg))
    (hF : am_go (am_PW G sh TS NS cl EX l) (am_PW G sh TS NS cl EX l) (am_op G sh μ pc len tg nc lo st h (.iload k)) Q) : am_PW G sh TS NS cl EX l (μ, pc, nc, lo, st, h) Q := by
  intro M hM p e s m args below meth cd H locs A ls ad ca D hB hE hK hP hD hS hA hl Qc XC hQ hX
  obtain ⟨hdec, hln, htg⟩ := am_code_spec hM hc
  obtain ⟨hx, hb, hr, hml, hown, hts, hns, hlocks, hnoex⟩ := id hB
  have go : ∀ (pc' nc' : Nat) (st' : List Value), am_PW G sh TS NS cl EX l (μ, pc', nc', lo, st', h) Q → W p l e M.2.2.2.2.2 s m args below meth cd H locs nc' (6 * nc') (vx_MQ below Qc XC args s M.2.2.2.2.2.cells M.2.2.2.2.2.slots A) (F0 m pc' ls (st'.map (am_cv ad))) :=
    fun pc' nc' st' k => k M hM p e s m args below meth cd H locs A ls ad ca D hB hE hK hP hD hS hA hl Qc XC hQ hX
  obtain rfl : len = 2 := by simpa [am_ln] using hln
  dsimp only [am_op] at hF
  split at hF
  · rename_i x hv
    exact lv_iload hx hb hdec (hl.2.2 _ _ hv) (go _ _ _ (hF.2.1 trivial))
  · exact hF.elim

set_option maxHeartbeats 1000000 in
theorem am_r_lload_n {G : am_G} {sh : List am_D} {TS NS : List Cond} {cl : List vw_C} {EX : (Nat → Prop) → State → Heap → Prop} {l : Launch} (hok : am_Ok G TS NS cl) (hsh : am_Sh cl sh) {μ pc len tg nc : Nat} {lo : List (Option Value)} {st : List Value} {h : am_S} {Q : am_Q} {k : Fin 4} (hc : am_code G μ pc = some (.lload_n k, len, tg))
    (hF : am_go (am_PW G sh TS NS cl EX l) (am_PW G sh TS NS cl EX l) (am_op G sh μ pc len tg nc lo st h (.lload_n k)) Q) : am_PW G sh TS NS cl EX l (μ, pc, nc, lo, st, h) Q := by
  intro M hM p e s m args below meth cd H locs A ls ad ca D hB hE hK hP hD hS hA hl Qc XC hQ hX
  obtain ⟨hdec, hln, htg⟩ := am_code_spec hM hc
  obtain ⟨hx, hb, hr, hml, hown, hts, hns, hlocks, hnoex⟩ := id hB
  have go : ∀ (pc' nc' : Nat) (st' : List Value), am_PW G sh TS NS cl EX l (μ, pc', nc', lo, st', h) Q → W p l e M.2.2.2.2.2 s m args below meth cd H locs nc' (6 * nc') (vx_MQ below Qc XC args s M.2.2.2.2.2.cells M.2.2.2.2.2.slots A) (F0 m pc' ls (st'.map (am_cv ad))) :=
    fun pc' nc' st' k => k M hM p e s m args below meth cd H locs A ls ad ca D hB hE hK hP hD hS hA hl Qc XC hQ hX
  obtain rfl : len = 1 := by simpa [am_ln] using hln
  dsimp only [am_op] at hF
  split at hF
  · rename_i x hv
    exact lv_lload_n hx hb hdec rfl (hl.2.2 _ _ hv) (go _ _ _ (hF.2.1 trivial))
  · exact hF.elim

set_option maxHeartbeats 1000000 in
theorem am_r_lload {G : am_G} {sh : List am_D} {TS NS : List Cond} {cl : List vw_C} {EX : (Nat → Prop) → State → Heap → Prop} {l : Launch} (hok : am_Ok G TS NS cl) (hsh : am_Sh cl sh) {μ pc len tg nc : Nat} {lo : List (Option Value)} {st : List Value} {h : am_S} {Q : am_Q} {k : Nat} (hc : am_code G μ pc = some (.lload k, len, tg))
    (hF : am_go (am_PW G sh TS NS cl EX l) (am_PW G sh TS NS cl EX l) (am_op G sh μ pc len tg nc lo st h (.lload k)) Q) : am_PW G sh TS NS cl EX l (μ, pc, nc, lo, st, h) Q := by
  intro M hM p e s m args below meth cd H locs A ls ad ca D hB hE hK hP hD hS hA hl Qc XC hQ hX
  obtain ⟨hdec, hln, htg⟩ := am_code_spec hM hc
  obtain ⟨hx, hb, hr, hml, hown, hts, hns, hlocks, hnoex⟩ := id hB
  have go : ∀ (pc' nc' : Nat) (st' : List Value), am_PW G sh TS NS cl EX l (μ, pc', nc', lo, st', h) Q → W p l e M.2.2.2.2.2 s m args below meth cd H locs nc' (6 * nc') (vx_MQ below Qc XC args s M.2.2.2.2.2.cells M.2.2.2.2.2.slots A) (F0 m pc' ls (st'.map (am_cv ad))) :=
    fun pc' nc' st' k => k M hM p e s m args below meth cd H locs A ls ad ca D hB hE hK hP hD hS hA hl Qc XC hQ hX
  obtain rfl : len = 2 := by simpa [am_ln] using hln
  dsimp only [am_op] at hF
  split at hF
  · rename_i x hv
    exact lv_lload hx hb hdec (hl.2.2 _ _ hv) (go _ _ _ (hF.2.1 trivial))
  · exact hF.elim

set_option maxHeartbeats 1000000 in
theorem am_r_aload_n {G : am_G} {sh : List am_D} {TS NS : List Cond} {cl : List vw_C} {EX : (Nat → Prop) → State → Heap → Prop} {l : Launch} (hok : am_Ok G TS NS cl) (hsh : am_Sh cl sh) {μ pc len tg nc : Nat} {lo : List (Option Value)} {st : List Value} {h : am_S} {Q : am_Q} {k : Fin 4} (hc : am_code G μ pc = some (.aload_n k, len, tg))
    (hF : am_go (am_PW G sh TS NS cl EX l) (am_PW G sh TS NS cl EX l) (am_op G sh μ pc len tg nc lo st h (.aload_n k)) Q) : am_PW G sh TS NS cl EX l (μ, pc, nc, lo, st, h) Q := by
  intro M hM p e s m args below meth cd H locs A ls ad ca D hB hE hK hP hD hS hA hl Qc XC hQ hX
  obtain ⟨hdec, hln, htg⟩ := am_code_spec hM hc
  obtain ⟨hx, hb, hr, hml, hown, hts, hns, hlocks, hnoex⟩ := id hB
  have go : ∀ (pc' nc' : Nat) (st' : List Value), am_PW G sh TS NS cl EX l (μ, pc', nc', lo, st', h) Q → W p l e M.2.2.2.2.2 s m args below meth cd H locs nc' (6 * nc') (vx_MQ below Qc XC args s M.2.2.2.2.2.cells M.2.2.2.2.2.slots A) (F0 m pc' ls (st'.map (am_cv ad))) :=
    fun pc' nc' st' k => k M hM p e s m args below meth cd H locs A ls ad ca D hB hE hK hP hD hS hA hl Qc XC hQ hX
  obtain rfl : len = 1 := by simpa [am_ln] using hln
  dsimp only [am_op] at hF
  split at hF
  · rename_i x hv
    exact lv_aload_n hx hb hdec rfl (hl.2.2 _ _ hv) (go _ _ _ (hF.2.1 trivial))
  · exact hF.elim

set_option maxHeartbeats 1000000 in
theorem am_r_aload {G : am_G} {sh : List am_D} {TS NS : List Cond} {cl : List vw_C} {EX : (Nat → Prop) → State → Heap → Prop} {l : Launch} (hok : am_Ok G TS NS cl) (hsh : am_Sh cl sh) {μ pc len tg nc : Nat} {lo : List (Option Value)} {st : List Value} {h : am_S} {Q : am_Q} {k : Nat} (hc : am_code G μ pc = some (.aload k, len, tg))
    (hF : am_go (am_PW G sh TS NS cl EX l) (am_PW G sh TS NS cl EX l) (am_op G sh μ pc len tg nc lo st h (.aload k)) Q) : am_PW G sh TS NS cl EX l (μ, pc, nc, lo, st, h) Q := by
  intro M hM p e s m args below meth cd H locs A ls ad ca D hB hE hK hP hD hS hA hl Qc XC hQ hX
  obtain ⟨hdec, hln, htg⟩ := am_code_spec hM hc
  obtain ⟨hx, hb, hr, hml, hown, hts, hns, hlocks, hnoex⟩ := id hB
  have go : ∀ (pc' nc' : Nat) (st' : List Value), am_PW G sh TS NS cl EX l (μ, pc', nc', lo, st', h) Q → W p l e M.2.2.2.2.2 s m args below meth cd H locs nc' (6 * nc') (vx_MQ below Qc XC args s M.2.2.2.2.2.cells M.2.2.2.2.2.slots A) (F0 m pc' ls (st'.map (am_cv ad))) :=
    fun pc' nc' st' k => k M hM p e s m args below meth cd H locs A ls ad ca D hB hE hK hP hD hS hA hl Qc XC hQ hX
  obtain rfl : len = 2 := by simpa [am_ln] using hln
  dsimp only [am_op] at hF
  split at hF
  · rename_i x hv
    exact lv_aload hx hb hdec (hl.2.2 _ _ hv) (go _ _ _ (hF.2.1 trivial))
  · exact hF.elim

set_option maxHeartbeats 1000000 in
theorem am_r_istore_n {G : am_G} {sh : List am_D} {TS NS : List Cond} {cl : List vw_C} {EX : (Nat → Prop) → State → Heap → Prop} {l : Launch} (hok : am_Ok G TS NS cl) (hsh : am_Sh cl sh) {μ pc len tg nc : Nat} {lo : List (Option Value)} {st : List Value} {h : am_S} {Q : am_Q} {k : Fin 4} (hc : am_code G μ pc = some (.istore_n k, len, tg))
    (hF : am_go (am_PW G sh TS NS cl EX l) (am_PW G sh TS NS cl EX l) (am_op G sh μ pc len tg nc lo st h (.istore_n k)) Q) : am_PW G sh TS NS cl EX l (μ, pc, nc, lo, st, h) Q := by
  intro M hM p e s m args below meth cd H locs A ls ad ca D hB hE hK hP hD hS hA hl Qc XC hQ hX
  obtain ⟨hdec, hln, htg⟩ := am_code_spec hM hc
  obtain ⟨hx, hb, hr, hml, hown, hts, hns, hlocks, hnoex⟩ := id hB
  have go : ∀ (pc' nc' : Nat) (st' : List Value), am_PW G sh TS NS cl EX l (μ, pc', nc', lo, st', h) Q → W p l e M.2.2.2.2.2 s m args below meth cd H locs nc' (6 * nc') (vx_MQ below Qc XC args s M.2.2.2.2.2.cells M.2.2.2.2.2.slots A) (F0 m pc' ls (st'.map (am_cv ad))) :=
    fun pc' nc' st' k => k M hM p e s m args below meth cd H locs A ls ad ca D hB hE hK hP hD hS hA hl Qc XC hQ hX
  obtain rfl : len = 1 := by simpa [am_ln] using hln
  dsimp only [am_op] at hF
  split at hF
  · rename_i x r
    have hi := hF.1
    rw [am_ml_of hM] at hi
    exact lv_istore_n hx hb hdec rfl hl.has hi rfl (fun ls' hl' => hF.2.1 trivial M hM p e s m args below meth cd H locs A ls' ad ca D hB hE hK hP hD hS hA (am_lo_s1 (v := .int x) hl hl') Qc XC hQ hX)
  · exact hF.elim

set_option maxHeartbeats 1000000 in
theorem am_r_istore {G : am_G} {sh : List am_D} {TS NS : List Cond} {cl : List vw_C} {EX : (Nat → Prop) → State → Heap → Prop} {l : Launch} (hok : am_Ok G TS NS cl) (hsh : am_Sh cl sh) {μ pc len tg nc : Nat} {lo : List (Option Value)} {st : List Value} {h : am_S} {Q : am_Q} {k : Nat} (hc : am_code G μ pc = some (.istore k, len, tg))
    (hF : am_go (am_PW G sh TS NS cl EX l) (am_PW G sh TS NS cl EX l) (am_op G sh μ pc len tg nc lo st h (.istore k)) Q) : am_PW G sh TS NS cl EX l (μ, pc, nc, lo, st, h) Q := by
  intro M hM p e s m args below meth cd H locs A ls ad ca D hB hE hK hP hD hS hA hl Qc XC hQ hX
  obtain ⟨hdec, hln, htg⟩ := am_code_spec hM hc
  obtain ⟨hx, hb, hr, hml, hown, hts, hns, hlocks, hnoex⟩ := id hB
  have go : ∀ (pc' nc' : Nat) (st' : List Value), am_PW G sh TS NS cl EX l (μ, pc', nc', lo, st', h) Q → W p l e M.2.2.2.2.2 s m args below meth cd H locs nc' (6 * nc') (vx_MQ below Qc XC args s M.2.2.2.2.2.cells M.2.2.2.2.2.slots A) (F0 m pc' ls (st'.map (am_cv ad))) :=
    fun pc' nc' st' k => k M hM p e s m args below meth cd H locs A ls ad ca D hB hE hK hP hD hS hA hl Qc XC hQ hX
  obtain rfl : len = 2 := by simpa [am_ln] using hln
  dsimp only [am_op] at hF
  split at hF
  · rename_i x r
    have hi := hF.1
    rw [am_ml_of hM] at hi
    exact lv_istore hx hb hdec hl.has hi rfl (fun ls' hl' => hF.2.1 trivial M hM p e s m args below meth cd H locs A ls' ad ca D hB hE hK hP hD hS hA (am_lo_s1 (v := .int x) hl hl') Qc XC hQ hX)
  · exact hF.elim

set_option maxHeartbeats 1000000 in
theorem am_r_lstore_n {G : am_G} {sh : List am_D} {TS NS : List Cond} {cl : List vw_C} {EX : (Nat → Prop) → State → Heap → Prop} {l : Launch} (hok : am_Ok G TS NS cl) (hsh : am_Sh cl sh) {μ pc len tg nc : Nat} {lo : List (Option Value)} {st : List Value} {h : am_S} {Q : am_Q} {k : Fin 4} (hc : am_code G μ pc = some (.lstore_n k, len, tg))
    (hF : am_go (am_PW G sh TS NS cl EX l) (am_PW G sh TS NS cl EX l) (am_op G sh μ pc len tg nc lo st h (.lstore_n k)) Q) : am_PW G sh TS NS cl EX l (μ, pc, nc, lo, st, h) Q := by
  intro M hM p e s m args below meth cd H locs A ls ad ca D hB hE hK hP hD hS hA hl Qc XC hQ hX
  obtain ⟨hdec, hln, htg⟩ := am_code_spec hM hc
  obtain ⟨hx, hb, hr, hml, hown, hts, hns, hlocks, hnoex⟩ := id hB
  have go : ∀ (pc' nc' : Nat) (st' : List Value), am_PW G sh TS NS cl EX l (μ, pc', nc', lo, st', h) Q → W p l e M.2.2.2.2.2 s m args below meth cd H locs nc' (6 * nc') (vx_MQ below Qc XC args s M.2.2.2.2.2.cells M.2.2.2.2.2.slots A) (F0 m pc' ls (st'.map (am_cv ad))) :=
    fun pc' nc' st' k => k M hM p e s m args below meth cd H locs A ls ad ca D hB hE hK hP hD hS hA hl Qc XC hQ hX
  obtain rfl : len = 1 := by simpa [am_ln] using hln
  dsimp only [am_op] at hF
  split at hF
  · rename_i x r
    have hi := hF.1
    rw [am_ml_of hM] at hi
    exact lv_lstore_n hx hb hdec rfl hl.has hi rfl (fun ls' hl' => hF.2.1 trivial M hM p e s m args below meth cd H locs A ls' ad ca D hB hE hK hP hD hS hA (am_lo_s2 (v := .long x) hl hl') Qc XC hQ hX)
  · exact hF.elim

set_option maxHeartbeats 1000000 in
theorem am_r_lstore {G : am_G} {sh : List am_D} {TS NS : List Cond} {cl : List vw_C} {EX : (Nat → Prop) → State → Heap → Prop} {l : Launch} (hok : am_Ok G TS NS cl) (hsh : am_Sh cl sh) {μ pc len tg nc : Nat} {lo : List (Option Value)} {st : List Value} {h : am_S} {Q : am_Q} {k : Nat} (hc : am_code G μ pc = some (.lstore k, len, tg))
    (hF : am_go (am_PW G sh TS NS cl EX l) (am_PW G sh TS NS cl EX l) (am_op G sh μ pc len tg nc lo st h (.lstore k)) Q) : am_PW G sh TS NS cl EX l (μ, pc, nc, lo, st, h) Q := by
  intro M hM p e s m args below meth cd H locs A ls ad ca D hB hE hK hP hD hS hA hl Qc XC hQ hX
  obtain ⟨hdec, hln, htg⟩ := am_code_spec hM hc
  obtain ⟨hx, hb, hr, hml, hown, hts, hns, hlocks, hnoex⟩ := id hB
  have go : ∀ (pc' nc' : Nat) (st' : List Value), am_PW G sh TS NS cl EX l (μ, pc', nc', lo, st', h) Q → W p l e M.2.2.2.2.2 s m args below meth cd H locs nc' (6 * nc') (vx_MQ below Qc XC args s M.2.2.2.2.2.cells M.2.2.2.2.2.slots A) (F0 m pc' ls (st'.map (am_cv ad))) :=
    fun pc' nc' st' k => k M hM p e s m args below meth cd H locs A ls ad ca D hB hE hK hP hD hS hA hl Qc XC hQ hX
  obtain rfl : len = 2 := by simpa [am_ln] using hln
  dsimp only [am_op] at hF
  split at hF
  · rename_i x r
    have hi := hF.1
    rw [am_ml_of hM] at hi
    exact lv_lstore hx hb hdec hl.has hi rfl (fun ls' hl' => hF.2.1 trivial M hM p e s m args below meth cd H locs A ls' ad ca D hB hE hK hP hD hS hA (am_lo_s2 (v := .long x) hl hl') Qc XC hQ hX)
  · exact hF.elim

set_option maxHeartbeats 1000000 in
theorem am_r_astore_n {G : am_G} {sh : List am_D} {TS NS : List Cond} {cl : List vw_C} {EX : (Nat → Prop) → State → Heap → Prop} {l : Launch} (hok : am_Ok G TS NS cl) (hsh : am_Sh cl sh) {μ pc len tg nc : Nat} {lo : List (Option Value)} {st : List Value} {h : am_S} {Q : am_Q} {k : Fin 4} (hc : am_code G μ pc = some (.astore_n k, len, tg))
    (hF : am_go (am_PW G sh TS NS cl EX l) (am_PW G sh TS NS cl EX l) (am_op G sh μ pc len tg nc lo st h (.astore_n k)) Q) : am_PW G sh TS NS cl EX l (μ, pc, nc, lo, st, h) Q := by
  intro M hM p e s m args below meth cd H locs A ls ad ca D hB hE hK hP hD hS hA hl Qc XC hQ hX
  obtain ⟨hdec, hln, htg⟩ := am_code_spec hM hc
  obtain ⟨hx, hb, hr, hml, hown, hts, hns, hlocks, hnoex⟩ := id hB
  have go : ∀ (pc' nc' : Nat) (st' : List Value), am_PW G sh TS NS cl EX l (μ, pc', nc', lo, st', h) Q → W p l e M.2.2.2.2.2 s m args below meth cd H locs nc' (6 * nc') (vx_MQ below Qc XC args s M.2.2.2.2.2.cells M.2.2.2.2.2.slots A) (F0 m pc' ls (st'.map (am_cv ad))) :=
    fun pc' nc' st' k => k M hM p e s m args below meth cd H locs A ls ad ca D hB hE hK hP hD hS hA hl Qc XC hQ hX
  obtain rfl : len = 1 := by simpa [am_ln] using hln
  dsimp only [am_op] at hF
  split at hF
  · rename_i x r
    have hi := hF.1
    rw [am_ml_of hM] at hi
    exact lv_astore_n hx hb hdec rfl hl.has hi rfl (fun ls' hl' => hF.2.1 trivial M hM p e s m args below meth cd H locs A ls' ad ca D hB hE hK hP hD hS hA (am_lo_s1 (v := .ref x) hl hl') Qc XC hQ hX)
  · exact hF.elim

set_option maxHeartbeats 1000000 in
theorem am_r_astore {G : am_G} {sh : List am_D} {TS NS : List Cond} {cl : List vw_C} {EX : (Nat → Prop) → State → Heap → Prop} {l : Launch} (hok : am_Ok G TS NS cl) (hsh : am_Sh cl sh) {μ pc len tg nc : Nat} {lo : List (Option Value)} {st : List Value} {h : am_S} {Q : am_Q} {k : Nat} (hc : am_code G μ pc = some (.astore k, len, tg))
    (hF : am_go (am_PW G sh TS NS cl EX l) (am_PW G sh TS NS cl EX l) (am_op G sh μ pc len tg nc lo st h (.astore k)) Q) : am_PW G sh TS NS cl EX l (μ, pc, nc, lo, st, h) Q := by
  intro M hM p e s m args below meth cd H locs A ls ad ca D hB hE hK hP hD hS hA hl Qc XC hQ hX
  obtain ⟨hdec, hln, htg⟩ := am_code_spec hM hc
  obtain ⟨hx, hb, hr, hml, hown, hts, hns, hlocks, hnoex⟩ := id hB
  have go : ∀ (pc' nc' : Nat) (st' : List Value), am_PW G sh TS NS cl EX l (μ, pc', nc', lo, st', h) Q → W p l e M.2.2.2.2.2 s m args below meth cd H locs nc' (6 * nc') (vx_MQ below Qc XC args s M.2.2.2.2.2.cells M.2.2.2.2.2.slots A) (F0 m pc' ls (st'.map (am_cv ad))) :=
    fun pc' nc' st' k => k M hM p e s m args below meth cd H locs A ls ad ca D hB hE hK hP hD hS hA hl Qc XC hQ hX
  obtain rfl : len = 2 := by simpa [am_ln] using hln
  dsimp only [am_op] at hF
  split at hF
  · rename_i x r
    have hi := hF.1
    rw [am_ml_of hM] at hi
    exact lv_astore hx hb hdec hl.has hi rfl (fun ls' hl' => hF.2.1 trivial M hM p e s m args below meth cd H locs A ls' ad ca D hB hE hK hP hD hS hA (am_lo_s1 (v := .ref x) hl hl') Qc XC hQ hX)
  · exact hF.elim

set_option maxHeartbeats 1000000 in
theorem am_r_iinc {G : am_G} {sh : List am_D} {TS NS : List Cond} {cl : List vw_C} {EX : (Nat → Prop) → State → Heap → Prop} {l : Launch} (hok : am_Ok G TS NS cl) (hsh : am_Sh cl sh) {μ pc len tg nc : Nat} {lo : List (Option Value)} {st : List Value} {h : am_S} {Q : am_Q} {k : Nat} {v : Int} (hc : am_code G μ pc = some (.iinc k v, len, tg))
    (hF : am_go (am_PW G sh TS NS cl EX l) (am_PW G sh TS NS cl EX l) (am_op G sh μ pc len tg nc lo st h (.iinc k v)) Q) : am_PW G sh TS NS cl EX l (μ, pc, nc, lo, st, h) Q := by
  intro M hM p e s m args below meth cd H locs A ls ad ca D hB hE hK hP hD hS hA hl Qc XC hQ hX
  obtain ⟨hdec, hln, htg⟩ := am_code_spec hM hc
  obtain ⟨hx, hb, hr, hml, hown, hts, hns, hlocks, hnoex⟩ := id hB
  have go : ∀ (pc' nc' : Nat) (st' : List Value), am_PW G sh TS NS cl EX l (μ, pc', nc', lo, st', h) Q → W p l e M.2.2.2.2.2 s m args below meth cd H locs nc' (6 * nc') (vx_MQ below Qc XC args s M.2.2.2.2.2.cells M.2.2.2.2.2.slots A) (F0 m pc' ls (st'.map (am_cv ad))) :=
    fun pc' nc' st' k => k M hM p e s m args below meth cd H locs A ls ad ca D hB hE hK hP hD hS hA hl Qc XC hQ hX
  obtain rfl : len = 3 := by simpa [am_ln] using hln
  dsimp only [am_op] at hF
  split at hF
  · rename_i x hv
    have hi := hF.1
    rw [am_ml_of hM] at hi
    obtain ⟨j, hj⟩ := List.getElem?_of_mem (am_pl_mem (ad := ad) hi hv)
    exact lv_iinc hx hb hdec hl.has hj rfl hi rfl (fun ls' hl' => hF.2.1 trivial M hM p e s m args below meth cd H locs A ls' ad ca D hB hE hK hP hD hS hA (am_lo_s1 (v := .int (x + Int32.ofInt v)) hl hl') Qc XC hQ hX)
  · exact hF.elim

set_option maxHeartbeats 1000000 in
theorem am_r_iadd {G : am_G} {sh : List am_D} {TS NS : List Cond} {cl : List vw_C} {EX : (Nat → Prop) → State → Heap → Prop} {l : Launch} (hok : am_Ok G TS NS cl) (hsh : am_Sh cl sh) {μ pc len tg nc : Nat} {lo : List (Option Value)} {st : List Value} {h : am_S} {Q : am_Q} (hc : am_code G μ pc = some (.iadd, len, tg))
    (hF : am_go (am_PW G sh TS NS cl EX l) (am_PW G sh TS NS cl EX l) (am_op G sh μ pc len tg nc lo st h (.iadd)) Q) : am_PW G sh TS NS cl EX l (μ, pc, nc, lo, st, h) Q := by
  intro M hM p e s m args below meth cd H locs A ls ad ca D hB hE hK hP hD hS hA hl Qc XC hQ hX
  obtain ⟨hdec, hln, htg⟩ := am_code_spec hM hc
  obtain ⟨hx, hb, hr, hml, hown, hts, hns, hlocks, hnoex⟩ := id hB
  have go : ∀ (pc' nc' : Nat) (st' : List Value), am_PW G sh TS NS cl EX l (μ, pc', nc', lo, st', h) Q → W p l e M.2.2.2.2.2 s m args below meth cd H locs nc' (6 * nc') (vx_MQ below Qc XC args s M.2.2.2.2.2.cells M.2.2.2.2.2.slots A) (F0 m pc' ls (st'.map (am_cv ad))) :=
    fun pc' nc' st' k => k M hM p e s m args below meth cd H locs A ls ad ca D hB hE hK hP hD hS hA hl Qc XC hQ hX
  obtain rfl : len = 1 := by simpa [am_ln] using hln
  dsimp only [am_op] at hF
  split at hF
  · exact lv_iadd hx hb hdec (go _ _ _ (hF.2.1 trivial))
  · exact hF.elim

set_option maxHeartbeats 1000000 in
theorem am_r_isub {G : am_G} {sh : List am_D} {TS NS : List Cond} {cl : List vw_C} {EX : (Nat → Prop) → State → Heap → Prop} {l : Launch} (hok : am_Ok G TS NS cl) (hsh : am_Sh cl sh) {μ pc len tg nc : Nat} {lo : List (Option Value)} {st : List Value} {h : am_S} {Q : am_Q} (hc : am_code G μ pc = some (.isub, len, tg))
    (hF : am_go (am_PW G sh TS NS cl EX l) (am_PW G sh TS NS cl EX l) (am_op G sh μ pc len tg nc lo st h (.isub)) Q) : am_PW G sh TS NS cl EX l (μ, pc, nc, lo, st, h) Q := by
  intro M hM p e s m args below meth cd H locs A ls ad ca D hB hE hK hP hD hS hA hl Qc XC hQ hX
  obtain ⟨hdec, hln, htg⟩ := am_code_spec hM hc
  obtain ⟨hx, hb, hr, hml, hown, hts, hns, hlocks, hnoex⟩ := id hB
  have go : ∀ (pc' nc' : Nat) (st' : List Value), am_PW G sh TS NS cl EX l (μ, pc', nc', lo, st', h) Q → W p l e M.2.2.2.2.2 s m args below meth cd H locs nc' (6 * nc') (vx_MQ below Qc XC args s M.2.2.2.2.2.cells M.2.2.2.2.2.slots A) (F0 m pc' ls (st'.map (am_cv ad))) :=
    fun pc' nc' st' k => k M hM p e s m args below meth cd H locs A ls ad ca D hB hE hK hP hD hS hA hl Qc XC hQ hX
  obtain rfl : len = 1 := by simpa [am_ln] using hln
  dsimp only [am_op] at hF
  split at hF
  · exact lv_isub hx hb hdec (go _ _ _ (hF.2.1 trivial))
  · exact hF.elim

set_option maxHeartbeats 1000000 in
theorem am_r_imul {G : am_G} {sh : List am_D} {TS NS : List Cond} {cl : List vw_C} {EX : (Nat → Prop) → State → Heap → Prop} {l : Launch} (hok : am_Ok G TS NS cl) (hsh : am_Sh cl sh) {μ pc len tg nc : Nat} {lo : List (Option Value)} {st : List Value} {h : am_S} {Q : am_Q} (hc : am_code G μ pc = some (.imul, len, tg))
    (hF : am_go (am_PW G sh TS NS cl EX l) (am_PW G sh TS NS cl EX l) (am_op G sh μ pc len tg nc lo st h (.imul)) Q) : am_PW G sh TS NS cl EX l (μ, pc, nc, lo, st, h) Q := by
  intro M hM p e s m args below meth cd H locs A ls ad ca D hB hE hK hP hD hS hA hl Qc XC hQ hX
  obtain ⟨hdec, hln, htg⟩ := am_code_spec hM hc
  obtain ⟨hx, hb, hr, hml, hown, hts, hns, hlocks, hnoex⟩ := id hB
  have go : ∀ (pc' nc' : Nat) (st' : List Value), am_PW G sh TS NS cl EX l (μ, pc', nc', lo, st', h) Q → W p l e M.2.2.2.2.2 s m args below meth cd H locs nc' (6 * nc') (vx_MQ below Qc XC args s M.2.2.2.2.2.cells M.2.2.2.2.2.slots A) (F0 m pc' ls (st'.map (am_cv ad))) :=
    fun pc' nc' st' k => k M hM p e s m args below meth cd H locs A ls ad ca D hB hE hK hP hD hS hA hl Qc XC hQ hX
  obtain rfl : len = 1 := by simpa [am_ln] using hln
  dsimp only [am_op] at hF
  split at hF
  · exact lv_imul hx hb hdec (go _ _ _ (hF.2.1 trivial))
  · exact hF.elim

set_option maxHeartbeats 1000000 in
theorem am_r_iand {G : am_G} {sh : List am_D} {TS NS : List Cond} {cl : List vw_C} {EX : (Nat → Prop) → State → Heap → Prop} {l : Launch} (hok : am_Ok G TS NS cl) (hsh : am_Sh cl sh) {μ pc len tg nc : Nat} {lo : List (Option Value)} {st : List Value} {h : am_S} {Q : am_Q} (hc : am_code G μ pc = some (.iand, len, tg))
    (hF : am_go (am_PW G sh TS NS cl EX l) (am_PW G sh TS NS cl EX l) (am_op G sh μ pc len tg nc lo st h (.iand)) Q) : am_PW G sh TS NS cl EX l (μ, pc, nc, lo, st, h) Q := by
  intro M hM p e s m args below meth cd H locs A ls ad ca D hB hE hK hP hD hS hA hl Qc XC hQ hX
  obtain ⟨hdec, hln, htg⟩ := am_code_spec hM hc
  obtain ⟨hx, hb, hr, hml, hown, hts, hns, hlocks, hnoex⟩ := id hB
  have go : ∀ (pc' nc' : Nat) (st' : List Value), am_PW G sh TS NS cl EX l (μ, pc', nc', lo, st', h) Q → W p l e M.2.2.2.2.2 s m args below meth cd H locs nc' (6 * nc') (vx_MQ below Qc XC args s M.2.2.2.2.2.cells M.2.2.2.2.2.slots A) (F0 m pc' ls (st'.map (am_cv ad))) :=
    fun pc' nc' st' k => k M hM p e s m args below meth cd H locs A ls ad ca D hB hE hK hP hD hS hA hl Qc XC hQ hX
  obtain rfl : len = 1 := by simpa [am_ln] using hln
  dsimp only [am_op] at hF
  split at hF
  · exact lv_iand hx hb hdec (go _ _ _ (hF.2.1 trivial))
  · exact hF.elim

set_option maxHeartbeats 1000000 in
theorem am_r_ixor {G : am_G} {sh : List am_D} {TS NS : List Cond} {cl : List vw_C} {EX : (Nat → Prop) → State → Heap → Prop} {l : Launch} (hok : am_Ok G TS NS cl) (hsh : am_Sh cl sh) {μ pc len tg nc : Nat} {lo : List (Option Value)} {st : List Value} {h : am_S} {Q : am_Q} (hc : am_code G μ pc = some (.ixor, len, tg))
    (hF : am_go (am_PW G sh TS NS cl EX l) (am_PW G sh TS NS cl EX l) (am_op G sh μ pc len tg nc lo st h (.ixor)) Q) : am_PW G sh TS NS cl EX l (μ, pc, nc, lo, st, h) Q := by
  intro M hM p e s m args below meth cd H locs A ls ad ca D hB hE hK hP hD hS hA hl Qc XC hQ hX
  obtain ⟨hdec, hln, htg⟩ := am_code_spec hM hc
  obtain ⟨hx, hb, hr, hml, hown, hts, hns, hlocks, hnoex⟩ := id hB
  have go : ∀ (pc' nc' : Nat) (st' : List Value), am_PW G sh TS NS cl EX l (μ, pc', nc', lo, st', h) Q → W p l e M.2.2.2.2.2 s m args below meth cd H locs nc' (6 * nc') (vx_MQ below Qc XC args s M.2.2.2.2.2.cells M.2.2.2.2.2.slots A) (F0 m pc' ls (st'.map (am_cv ad))) :=
    fun pc' nc' st' k => k M hM p e s m args below meth cd H locs A ls ad ca D hB hE hK hP hD hS hA hl Qc XC hQ hX
  obtain rfl : len = 1 := by simpa [am_ln] using hln
  dsimp only [am_op] at hF
  split at hF
  · exact lv_ixor hx hb hdec (go _ _ _ (hF.2.1 trivial))
  · exact hF.elim

set_option maxHeartbeats 1000000 in
theorem am_r_ladd {G : am_G} {sh : List am_D} {TS NS : List Cond} {cl : List vw_C} {EX : (Nat → Prop) → State → Heap → Prop} {l : Launch} (hok : am_Ok G TS NS cl) (hsh : am_Sh cl sh) {μ pc len tg nc : Nat} {lo : List (Option Value)} {st : List Value} {h : am_S} {Q : am_Q} (hc : am_code G μ pc = some (.ladd, len, tg))
    (hF : am_go (am_PW G sh TS NS cl EX l) (am_PW G sh TS NS cl EX l) (am_op G sh μ pc len tg nc lo st h (.ladd)) Q) : am_PW G sh TS NS cl EX l (μ, pc, nc, lo, st, h) Q := by
  intro M hM p e s m args below meth cd H locs A ls ad ca D hB hE hK hP hD hS hA hl Qc XC hQ hX
  obtain ⟨hdec, hln, htg⟩ := am_code_spec hM hc
  obtain ⟨hx, hb, hr, hml, hown, hts, hns, hlocks, hnoex⟩ := id hB
  have go : ∀ (pc' nc' : Nat) (st' : List Value), am_PW G sh TS NS cl EX l (μ, pc', nc', lo, st', h) Q → W p l e M.2.2.2.2.2 s m args below meth cd H locs nc' (6 * nc') (vx_MQ below Qc XC args s M.2.2.2.2.2.cells M.2.2.2.2.2.slots A) (F0 m pc' ls (st'.map (am_cv ad))) :=
    fun pc' nc' st' k => k M hM p e s m args below meth cd H locs A ls ad ca D hB hE hK hP hD hS hA hl Qc XC hQ hX
  obtain rfl : len = 1 := by simpa [am_ln] using hln
  dsimp only [am_op] at hF
  split at hF
  · exact lv_ladd hx hb hdec (go _ _ _ (hF.2.1 trivial))
  · exact hF.elim

set_option maxHeartbeats 1000000 in
theorem am_r_irem {G : am_G} {sh : List am_D} {TS NS : List Cond} {cl : List vw_C} {EX : (Nat → Prop) → State → Heap → Prop} {l : Launch} (hok : am_Ok G TS NS cl) (hsh : am_Sh cl sh) {μ pc len tg nc : Nat} {lo : List (Option Value)} {st : List Value} {h : am_S} {Q : am_Q} (hc : am_code G μ pc = some (.irem, len, tg))
    (hF : am_go (am_PW G sh TS NS cl EX l) (am_PW G sh TS NS cl EX l) (am_op G sh μ pc len tg nc lo st h (.irem)) Q) : am_PW G sh TS NS cl EX l (μ, pc, nc, lo, st, h) Q := by
  intro M hM p e s m args below meth cd H locs A ls ad ca D hB hE hK hP hD hS hA hl Qc XC hQ hX
  obtain ⟨hdec, hln, htg⟩ := am_code_spec hM hc
  obtain ⟨hx, hb, hr, hml, hown, hts, hns, hlocks, hnoex⟩ := id hB
  have go : ∀ (pc' nc' : Nat) (st' : List Value), am_PW G sh TS NS cl EX l (μ, pc', nc', lo, st', h) Q → W p l e M.2.2.2.2.2 s m args below meth cd H locs nc' (6 * nc') (vx_MQ below Qc XC args s M.2.2.2.2.2.cells M.2.2.2.2.2.slots A) (F0 m pc' ls (st'.map (am_cv ad))) :=
    fun pc' nc' st' k => k M hM p e s m args below meth cd H locs A ls ad ca D hB hE hK hP hD hS hA hl Qc XC hQ hX
  obtain rfl : len = 1 := by simpa [am_ln] using hln
  dsimp only [am_op] at hF
  split at hF
  · exact lv_irem hx hb hdec hF.1 (go _ _ _ (hF.2.1 trivial))
  · exact hF.elim

set_option maxHeartbeats 1000000 in
theorem am_r_i2l {G : am_G} {sh : List am_D} {TS NS : List Cond} {cl : List vw_C} {EX : (Nat → Prop) → State → Heap → Prop} {l : Launch} (hok : am_Ok G TS NS cl) (hsh : am_Sh cl sh) {μ pc len tg nc : Nat} {lo : List (Option Value)} {st : List Value} {h : am_S} {Q : am_Q} (hc : am_code G μ pc = some (.i2l, len, tg))
    (hF : am_go (am_PW G sh TS NS cl EX l) (am_PW G sh TS NS cl EX l) (am_op G sh μ pc len tg nc lo st h (.i2l)) Q) : am_PW G sh TS NS cl EX l (μ, pc, nc, lo, st, h) Q := by
  intro M hM p e s m args below meth cd H locs A ls ad ca D hB hE hK hP hD hS hA hl Qc XC hQ hX
  obtain ⟨hdec, hln, htg⟩ := am_code_spec hM hc
  obtain ⟨hx, hb, hr, hml, hown, hts, hns, hlocks, hnoex⟩ := id hB
  have go : ∀ (pc' nc' : Nat) (st' : List Value), am_PW G sh TS NS cl EX l (μ, pc', nc', lo, st', h) Q → W p l e M.2.2.2.2.2 s m args below meth cd H locs nc' (6 * nc') (vx_MQ below Qc XC args s M.2.2.2.2.2.cells M.2.2.2.2.2.slots A) (F0 m pc' ls (st'.map (am_cv ad))) :=
    fun pc' nc' st' k => k M hM p e s m args below meth cd H locs A ls ad ca D hB hE hK hP hD hS hA hl Qc XC hQ hX
  obtain rfl : len = 1 := by simpa [am_ln] using hln
  dsimp only [am_op] at hF
  split at hF
  · exact lv_i2l hx hb hdec rfl (go _ _ _ (hF.2.1 trivial))
  · exact hF.elim

set_option maxHeartbeats 1000000 in
theorem am_r_l2i {G : am_G} {sh : List am_D} {TS NS : List Cond} {cl : List vw_C} {EX : (Nat → Prop) → State → Heap → Prop} {l : Launch} (hok : am_Ok G TS NS cl) (hsh : am_Sh cl sh) {μ pc len tg nc : Nat} {lo : List (Option Value)} {st : List Value} {h : am_S} {Q : am_Q} (hc : am_code G μ pc = some (.l2i, len, tg))
    (hF : am_go (am_PW G sh TS NS cl EX l) (am_PW G sh TS NS cl EX l) (am_op G sh μ pc len tg nc lo st h (.l2i)) Q) : am_PW G sh TS NS cl EX l (μ, pc, nc, lo, st, h) Q := by
  intro M hM p e s m args below meth cd H locs A ls ad ca D hB hE hK hP hD hS hA hl Qc XC hQ hX
  obtain ⟨hdec, hln, htg⟩ := am_code_spec hM hc
  obtain ⟨hx, hb, hr, hml, hown, hts, hns, hlocks, hnoex⟩ := id hB
  have go : ∀ (pc' nc' : Nat) (st' : List Value), am_PW G sh TS NS cl EX l (μ, pc', nc', lo, st', h) Q → W p l e M.2.2.2.2.2 s m args below meth cd H locs nc' (6 * nc') (vx_MQ below Qc XC args s M.2.2.2.2.2.cells M.2.2.2.2.2.slots A) (F0 m pc' ls (st'.map (am_cv ad))) :=
    fun pc' nc' st' k => k M hM p e s m args below meth cd H locs A ls ad ca D hB hE hK hP hD hS hA hl Qc XC hQ hX
  obtain rfl : len = 1 := by simpa [am_ln] using hln
  dsimp only [am_op] at hF
  split at hF
  · exact lv_l2i hx hb hdec rfl (go _ _ _ (hF.2.1 trivial))
  · exact hF.elim

set_option maxHeartbeats 1000000 in
theorem am_r_dup {G : am_G} {sh : List am_D} {TS NS : List Cond} {cl : List vw_C} {EX : (Nat → Prop) → State → Heap → Prop} {l : Launch} (hok : am_Ok G TS NS cl) (hsh : am_Sh cl sh) {μ pc len tg nc : Nat} {lo : List (Option Value)} {st : List Value} {h : am_S} {Q : am_Q} (hc : am_code G μ pc = some (.dup, len, tg))
    (hF : am_go (am_PW G sh TS NS cl EX l) (am_PW G sh TS NS cl EX l) (am_op G sh μ pc len tg nc lo st h (.dup)) Q) : am_PW G sh TS NS cl EX l (μ, pc, nc, lo, st, h) Q := by
  intro M hM p e s m args below meth cd H locs A ls ad ca D hB hE hK hP hD hS hA hl Qc XC hQ hX
  obtain ⟨hdec, hln, htg⟩ := am_code_spec hM hc
  obtain ⟨hx, hb, hr, hml, hown, hts, hns, hlocks, hnoex⟩ := id hB
  have go : ∀ (pc' nc' : Nat) (st' : List Value), am_PW G sh TS NS cl EX l (μ, pc', nc', lo, st', h) Q → W p l e M.2.2.2.2.2 s m args below meth cd H locs nc' (6 * nc') (vx_MQ below Qc XC args s M.2.2.2.2.2.cells M.2.2.2.2.2.slots A) (F0 m pc' ls (st'.map (am_cv ad))) :=
    fun pc' nc' st' k => k M hM p e s m args below meth cd H locs A ls ad ca D hB hE hK hP hD hS hA hl Qc XC hQ hX
  obtain rfl : len = 1 := by simpa [am_ln] using hln
  dsimp only [am_op] at hF
  split at hF
  · exact lv_dup hx hb hdec (by rw [am_cv_cat]; exact hF.1) (go _ _ _ (hF.2.1 trivial))
  · exact hF.elim

set_option maxHeartbeats 1000000 in
theorem am_r_pop {G : am_G} {sh : List am_D} {TS NS : List Cond} {cl : List vw_C} {EX : (Nat → Prop) → State → Heap → Prop} {l : Launch} (hok : am_Ok G TS NS cl) (hsh : am_Sh cl sh) {μ pc len tg nc : Nat} {lo : List (Option Value)} {st : List Value} {h : am_S} {Q : am_Q} (hc : am_code G μ pc = some (.pop, len, tg))
    (hF : am_go (am_PW G sh TS NS cl EX l) (am_PW G sh TS NS cl EX l) (am_op G sh μ pc len tg nc lo st h (.pop)) Q) : am_PW G sh TS NS cl EX l (μ, pc, nc, lo, st, h) Q := by
  intro M hM p e s m args below meth cd H locs A ls ad ca D hB hE hK hP hD hS hA hl Qc XC hQ hX
  obtain ⟨hdec, hln, htg⟩ := am_code_spec hM hc
  obtain ⟨hx, hb, hr, hml, hown, hts, hns, hlocks, hnoex⟩ := id hB
  have go : ∀ (pc' nc' : Nat) (st' : List Value), am_PW G sh TS NS cl EX l (μ, pc', nc', lo, st', h) Q → W p l e M.2.2.2.2.2 s m args below meth cd H locs nc' (6 * nc') (vx_MQ below Qc XC args s M.2.2.2.2.2.cells M.2.2.2.2.2.slots A) (F0 m pc' ls (st'.map (am_cv ad))) :=
    fun pc' nc' st' k => k M hM p e s m args below meth cd H locs A ls ad ca D hB hE hK hP hD hS hA hl Qc XC hQ hX
  obtain rfl : len = 1 := by simpa [am_ln] using hln
  dsimp only [am_op] at hF
  split at hF
  · exact lv_pop hx hb hdec (by rw [am_cv_cat]; exact hF.1) (go _ _ _ (hF.2.1 trivial))
  · exact hF.elim

set_option maxHeartbeats 1000000 in
theorem am_r_dup2 {G : am_G} {sh : List am_D} {TS NS : List Cond} {cl : List vw_C} {EX : (Nat → Prop) → State → Heap → Prop} {l : Launch} (hok : am_Ok G TS NS cl) (hsh : am_Sh cl sh) {μ pc len tg nc : Nat} {lo : List (Option Value)} {st : List Value} {h : am_S} {Q : am_Q} (hc : am_code G μ pc = some (.dup2, len, tg))
    (hF : am_go (am_PW G sh TS NS cl EX l) (am_PW G sh TS NS cl EX l) (am_op G sh μ pc len tg nc lo st h (.dup2)) Q) : am_PW G sh TS NS cl EX l (μ, pc, nc, lo, st, h) Q := by
  intro M hM p e s m args below meth cd H locs A ls ad ca D hB hE hK hP hD hS hA hl Qc XC hQ hX
  obtain ⟨hdec, hln, htg⟩ := am_code_spec hM hc
  obtain ⟨hx, hb, hr, hml, hown, hts, hns, hlocks, hnoex⟩ := id hB
  have go : ∀ (pc' nc' : Nat) (st' : List Value), am_PW G sh TS NS cl EX l (μ, pc', nc', lo, st', h) Q → W p l e M.2.2.2.2.2 s m args below meth cd H locs nc' (6 * nc') (vx_MQ below Qc XC args s M.2.2.2.2.2.cells M.2.2.2.2.2.slots A) (F0 m pc' ls (st'.map (am_cv ad))) :=
    fun pc' nc' st' k => k M hM p e s m args below meth cd H locs A ls ad ca D hB hE hK hP hD hS hA hl Qc XC hQ hX
  obtain rfl : len = 1 := by simpa [am_ln] using hln
  dsimp only [am_op] at hF
  split at hF
  · exact lv_dup2_11 hx hb hdec (by rw [am_cv_cat]; exact hF.1.1) (by rw [am_cv_cat]; exact hF.1.2) (go _ _ _ (hF.2.1 trivial))
  · exact hF.elim

set_option maxHeartbeats 1000000 in
theorem am_r_dup_x1 {G : am_G} {sh : List am_D} {TS NS : List Cond} {cl : List vw_C} {EX : (Nat → Prop) → State → Heap → Prop} {l : Launch} (hok : am_Ok G TS NS cl) (hsh : am_Sh cl sh) {μ pc len tg nc : Nat} {lo : List (Option Value)} {st : List Value} {h : am_S} {Q : am_Q} (hc : am_code G μ pc = some (.dup_x1, len, tg))
    (hF : am_go (am_PW G sh TS NS cl EX l) (am_PW G sh TS NS cl EX l) (am_op G sh μ pc len tg nc lo st h (.dup_x1)) Q) : am_PW G sh TS NS cl EX l (μ, pc, nc, lo, st, h) Q := by
  intro M hM p e s m args below meth cd H locs A ls ad ca D hB hE hK hP hD hS hA hl Qc XC hQ hX
  obtain ⟨hdec, hln, htg⟩ := am_code_spec hM hc
  obtain ⟨hx, hb, hr, hml, hown, hts, hns, hlocks, hnoex⟩ := id hB
  have go : ∀ (pc' nc' : Nat) (st' : List Value), am_PW G sh TS NS cl EX l (μ, pc', nc', lo, st', h) Q → W p l e M.2.2.2.2.2 s m args below meth cd H locs nc' (6 * nc') (vx_MQ below Qc XC args s M.2.2.2.2.2.cells M.2.2.2.2.2.slots A) (F0 m pc' ls (st'.map (am_cv ad))) :=
    fun pc' nc' st' k => k M hM p e s m args below meth cd H locs A ls ad ca D hB hE hK hP hD hS hA hl Qc XC hQ hX
  obtain rfl : len = 1 := by simpa [am_ln] using hln
  dsimp only [am_op] at hF
  split at hF
  · exact lv_dup_x1 hx hb hdec (by rw [am_cv_cat]; exact hF.1.1) (by rw [am_cv_cat]; exact hF.1.2) (go _ _ _ (hF.2.1 trivial))
  · exact hF.elim

set_option maxHeartbeats 1000000 in
theorem am_r_goto {G : am_G} {sh : List am_D} {TS NS : List Cond} {cl : List vw_C} {EX : (Nat → Prop) → State → Heap → Prop} {l : Launch} (hok : am_Ok G TS NS cl) (hsh : am_Sh cl sh) {μ pc len tg nc : Nat} {lo : List (Option Value)} {st : List Value} {h : am_S} {Q : am_Q} {off : Int} (hc : am_code G μ pc = some (.goto off, len, tg))
    (hF : am_go (am_PW G sh TS NS cl EX l) (am_PW G sh TS NS cl EX l) (am_op G sh μ pc len tg nc lo st h (.goto off)) Q) : am_PW G sh TS NS cl EX l (μ, pc, nc, lo, st, h) Q := by
  intro M hM p e s m args below meth cd H locs A ls ad ca D hB hE hK hP hD hS hA hl Qc XC hQ hX
  obtain ⟨hdec, hln, htg⟩ := am_code_spec hM hc
  obtain ⟨hx, hb, hr, hml, hown, hts, hns, hlocks, hnoex⟩ := id hB
  have go : ∀ (pc' nc' : Nat) (st' : List Value), am_PW G sh TS NS cl EX l (μ, pc', nc', lo, st', h) Q → W p l e M.2.2.2.2.2 s m args below meth cd H locs nc' (6 * nc') (vx_MQ below Qc XC args s M.2.2.2.2.2.cells M.2.2.2.2.2.slots A) (F0 m pc' ls (st'.map (am_cv ad))) :=
    fun pc' nc' st' k => k M hM p e s m args below meth cd H locs A ls ad ca D hB hE hK hP hD hS hA hl Qc XC hQ hX
  obtain rfl : len = 3 := by simpa [am_ln] using hln
  exact lv_goto hx hb hdec (am_nn_spec htg) (go _ _ _ (hF.2.1 trivial))

set_option maxHeartbeats 1000000 in
theorem am_r_ifCond {G : am_G} {sh : List am_D} {TS NS : List Cond} {cl : List vw_C} {EX : (Nat → Prop) → State → Heap → Prop} {l : Launch} (hok : am_Ok G TS NS cl) (hsh : am_Sh cl sh) {μ pc len tg nc : Nat} {lo : List (Option Value)} {st : List Value} {h : am_S} {Q : am_Q} {cc : ClassFile.Cond} {off : Int} (hc : am_code G μ pc = some (.ifCond cc off, len, tg))
    (hF : am_go (am_PW G sh TS NS cl EX l) (am_PW G sh TS NS cl EX l) (am_op G sh μ pc len tg nc lo st h (.ifCond cc off)) Q) : am_PW G sh TS NS cl EX l (μ, pc, nc, lo, st, h) Q := by
  intro M hM p e s m args below meth cd H locs A ls ad ca D hB hE hK hP hD hS hA hl Qc XC hQ hX
  obtain ⟨hdec, hln, htg⟩ := am_code_spec hM hc
  obtain ⟨hx, hb, hr, hml, hown, hts, hns, hlocks, hnoex⟩ := id hB
  have go : ∀ (pc' nc' : Nat) (st' : List Value), am_PW G sh TS NS cl EX l (μ, pc', nc', lo, st', h) Q → W p l e M.2.2.2.2.2 s m args below meth cd H locs nc' (6 * nc') (vx_MQ below Qc XC args s M.2.2.2.2.2.cells M.2.2.2.2.2.slots A) (F0 m pc' ls (st'.map (am_cv ad))) :=
    fun pc' nc' st' k => k M hM p e s m args below meth cd H locs A ls ad ca D hB hE hK hP hD hS hA hl Qc XC hQ hX
  obtain rfl : len = 3 := by simpa [am_ln] using hln
  dsimp only [am_op] at hF
  split at hF
  · cases cc with
    | eq => exact lv_if_eq hx hb hdec (am_nn_spec htg) (fun q => go _ _ _ (hF.2.1 q)) (fun q => go _ _ _ (hF.2.2.1 q))
    | ne => exact lv_if_ne hx hb hdec (am_nn_spec htg) (fun q => go _ _ _ (hF.2.1 q)) (fun q => go _ _ _ (hF.2.2.1 q))
    | lt => exact lv_if_lt hx hb hdec (am_nn_spec htg) (fun q => go _ _ _ (hF.2.1 q)) (fun q => go _ _ _ (hF.2.2.1 q))
    | ge => exact lv_if_ge hx hb hdec (am_nn_spec htg) (fun q => go _ _ _ (hF.2.1 q)) (fun q => go _ _ _ (hF.2.2.1 q))
    | gt => exact lv_if_gt hx hb hdec (am_nn_spec htg) (fun q => go _ _ _ (hF.2.1 q)) (fun q => go _ _ _ (hF.2.2.1 q))
    | le => exact lv_if_le hx hb hdec (am_nn_spec htg) (fun q => go _ _ _ (hF.2.1 q)) (fun q => go _ _ _ (hF.2.2.1 q))
  · exact hF.elim

set_option maxHeartbeats 1000000 in
theorem am_r_if_icmp {G : am_G} {sh : List am_D} {TS NS : List Cond} {cl : List vw_C} {EX : (Nat → Prop) → State → Heap → Prop} {l : Launch} (hok : am_Ok G TS NS cl) (hsh : am_Sh cl sh) {μ pc len tg nc : Nat} {lo : List (Option Value)} {st : List Value} {h : am_S} {Q : am_Q} {cc : ClassFile.Cond} {off : Int} (hc : am_code G μ pc = some (.if_icmp cc off, len, tg))
    (hF : am_go (am_PW G sh TS NS cl EX l) (am_PW G sh TS NS cl EX l) (am_op G sh μ pc len tg nc lo st h (.if_icmp cc off)) Q) : am_PW G sh TS NS cl EX l (μ, pc, nc, lo, st, h) Q := by
  intro M hM p e s m args below meth cd H locs A ls ad ca D hB hE hK hP hD hS hA hl Qc XC hQ hX
  obtain ⟨hdec, hln, htg⟩ := am_code_spec hM hc
  obtain ⟨hx, hb, hr, hml, hown, hts, hns, hlocks, hnoex⟩ := id hB
  have go : ∀ (pc' nc' : Nat) (st' : List Value), am_PW G sh TS NS cl EX l (μ, pc', nc', lo, st', h) Q → W p l e M.2.2.2.2.2 s m args below meth cd H locs nc' (6 * nc') (vx_MQ below Qc XC args s M.2.2.2.2.2.cells M.2.2.2.2.2.slots A) (F0 m pc' ls (st'.map (am_cv ad))) :=
    fun pc' nc' st' k => k M hM p e s m args below meth cd H locs A ls ad ca D hB hE hK hP hD hS hA hl Qc XC hQ hX
  obtain rfl : len = 3 := by simpa [am_ln] using hln
  dsimp only [am_op] at hF
  split at hF
  · cases cc with
    | eq => exact lv_icmp_eq hx hb hdec (am_nn_spec htg) (fun q => go _ _ _ (hF.2.1 q)) (fun q => go _ _ _ (hF.2.2.1 q))
    | ne => exact lv_icmp_ne hx hb hdec (am_nn_spec htg) (fun q => go _ _ _ (hF.2.1 q)) (fun q => go _ _ _ (hF.2.2.1 q))
    | lt => exact lv_icmp_lt hx hb hdec (am_nn_spec htg) (fun q => go _ _ _ (hF.2.1 q)) (fun q => go _ _ _ (hF.2.2.1 q))
    | ge => exact lv_icmp_ge hx hb hdec (am_nn_spec htg) (fun q => go _ _ _ (hF.2.1 q)) (fun q => go _ _ _ (hF.2.2.1 q))
    | gt => exact lv_icmp_gt hx hb hdec (am_nn_spec htg) (fun q => go _ _ _ (hF.2.1 q)) (fun q => go _ _ _ (hF.2.2.1 q))
    | le => exact lv_icmp_le hx hb hdec (am_nn_spec htg) (fun q => go _ _ _ (hF.2.1 q)) (fun q => go _ _ _ (hF.2.2.1 q))
  · exact hF.elim

set_option maxHeartbeats 1000000 in
theorem am_r_getfield {G : am_G} {sh : List am_D} {TS NS : List Cond} {cl : List vw_C} {EX : (Nat → Prop) → State → Heap → Prop} {l : Launch} (hok : am_Ok G TS NS cl) (hsh : am_Sh cl sh) {μ pc len tg nc : Nat} {lo : List (Option Value)} {st : List Value} {h : am_S} {Q : am_Q} {ix : Nat} (hc : am_code G μ pc = some (.getfield ix, len, tg))
    (hF : am_go (am_PW G sh TS NS cl EX l) (am_PW G sh TS NS cl EX l) (am_op G sh μ pc len tg nc lo st h (.getfield ix)) Q) : am_PW G sh TS NS cl EX l (μ, pc, nc, lo, st, h) Q := by
  intro M hM p e s m args below meth cd H locs A ls ad ca D hB hE hK hP hD hS hA hl Qc XC hQ hX
  obtain ⟨hdec, hln, htg⟩ := am_code_spec hM hc
  obtain ⟨hx, hb, hr, hml, hown, hts, hns, hlocks, hnoex⟩ := id hB
  have go : ∀ (pc' nc' : Nat) (st' : List Value), am_PW G sh TS NS cl EX l (μ, pc', nc', lo, st', h) Q → W p l e M.2.2.2.2.2 s m args below meth cd H locs nc' (6 * nc') (vx_MQ below Qc XC args s M.2.2.2.2.2.cells M.2.2.2.2.2.slots A) (F0 m pc' ls (st'.map (am_cv ad))) :=
    fun pc' nc' st' k => k M hM p e s m args below meth cd H locs A ls ad ca D hB hE hK hP hD hS hA hl Qc XC hQ hX
  obtain rfl : len = 3 := by simpa [am_ln] using hln
  dsimp only [am_op] at hF
  split at hF
  · rename_i ci k hfl
    obtain ⟨C, T, N, ty, hcl, hkN, hTC, hin, hty, hnm, hlink⟩ := hok.2.2.1 μ M ix ci k hM hfl
    split at hF
    · rename_i o r
      split at hF
      · rename_i cj fs hso
        split at hF
        · rename_i q hq
          obtain rfl : ci = cj := hF.1
          have hq2 : (fs.map (am_fv ad h.1))[k]? = some (am_fv ad h.1 (.inl q)) := by rw [List.getElem?_map, hq]; rfl
          rcases hlink with hlk | ⟨host, hlk⟩
          · exact va_get (D := D) (ci := ci) (C := C) (T := T) (N := N) hx hb hts hin hown hK hP o (am_W_get hso) hcl k hkN (hts _ hlk) (fun x9 h9 => by rw [hTC] at h9; exact h9) hq2 hdec (go _ _ _ (hF.2.1 trivial))
          · exact va_getN (D := D) (ci := ci) (C := C) (T := T) (N := N) (host := host) hx hb hts hin hown hK hP o (am_W_get hso) hcl k hkN (va_Nw.use rfl (hns _ hlk)) (fun x9 h9 => by rw [hTC] at h9; exact h9) hq2 hdec (go _ _ _ (hF.2.1 trivial))
        · rename_i q hq
          obtain rfl : ci = cj := hF.1
          have hq2 : (fs.map (am_fv ad h.1))[k]? = some (am_fv ad h.1 (.inr q)) := by rw [List.getElem?_map, hq]; rfl
          rcases hlink with hlk | ⟨host, hlk⟩
          · exact va_get (D := D) (ci := ci) (C := C) (T := T) (N := N) hx hb hts hin hown hK hP o (am_W_get hso) hcl k hkN (hts _ hlk) (fun x9 h9 => by rw [hTC] at h9; exact h9) hq2 hdec (go _ _ _ (hF.2.1 trivial))
          · exact va_getN (D := D) (ci := ci) (C := C) (T := T) (N := N) (host := host) hx hb hts hin hown hK hP o (am_W_get hso) hcl k hkN (va_Nw.use rfl (hns _ hlk)) (fun x9 h9 => by rw [hTC] at h9; exact h9) hq2 hdec (go _ _ _ (hF.2.1 trivial))
        · exact hF.elim
      · exact hF.elim
    · exact hF.elim
  · exact hF.elim

set_option maxHeartbeats 1000000 in
theorem am_r_putfield {G : am_G} {sh : List am_D} {TS NS : List Cond} {cl : List vw_C} {EX : (Nat → Prop) → State → Heap → Prop} {l : Launch} (hok : am_Ok G TS NS cl) (hsh : am_Sh cl sh) {μ pc len tg nc : Nat} {lo : List (Option Value)} {st : List Value} {h : am_S} {Q : am_Q} {ix : Nat} (hc : am_code G μ pc = some (.putfield ix, len, tg))
    (hF : am_go (am_PW G sh TS NS cl EX l) (am_PW G sh TS NS cl EX l) (am_op G sh μ pc len tg nc lo st h (.putfield ix)) Q) : am_PW G sh TS NS cl EX l (μ, pc, nc, lo, st, h) Q := by
  intro M hM p e s m args below meth cd H locs A ls ad ca D hB hE hK hP hD hS hA hl Qc XC hQ hX
  obtain ⟨hdec, hln, htg⟩ := am_code_spec hM hc
  obtain ⟨hx, hb, hr, hml, hown, hts, hns, hlocks, hnoex⟩ := id hB
  have go : ∀ (pc' nc' : Nat) (st' : List Value), am_PW G sh TS NS cl EX l (μ, pc', nc', lo, st', h) Q → W p l e M.2.2.2.2.2 s m args below meth cd H locs nc' (6 * nc') (vx_MQ below Qc XC args s M.2.2.2.2.2.cells M.2.2.2.2.2.slots A) (F0 m pc' ls (st'.map (am_cv ad))) :=
    fun pc' nc' st' k => k M hM p e s m args below meth cd H locs A ls ad ca D hB hE hK hP hD hS hA hl Qc XC hQ hX
  obtain rfl : len = 3 := by simpa [am_ln] using hln
  dsimp only [am_op] at hF
  split at hF
  · rename_i ci k hfl
    obtain ⟨C, T, N, ty, hcl, hkN, hTC, hin, hty, hnm, hlink⟩ := hok.2.2.1 μ M ix ci k hM hfl
    split at hF
    · rename_i x o r
      split at hF
      · rename_i cj fs hso
        split at hF
        · rename_i j hq
          obtain rfl : ci = cj := hF.1
          have hfs := (hsh.2 o ci fs hso C T N hcl).2 k j hq
          rcases hlink with hlk | ⟨host, hlk⟩
          · exact va_put (D := D) (ci := ci) (v := .int x) (ty := .int) (C := C) (T := T) (N := N) hx hb hts hin ty hty hnm hown hK hP hD hS o (am_W_get hso) hcl k hkN (hts _ hlk) (fun x9 h9 => by rw [hTC] at h9; exact h9) hfs.2 hfs.1 rfl rfl (by rw [List.length_map]; exact (List.getElem?_eq_some_iff.mp hq).1) hdec (fun H1 locs1 hP1 hD1 hS1 => hF.2.1 trivial M hM p e s m args below meth cd H1 locs1 A ls ad ca D hB hE hK (by rw [← am_W_num hsh hso hq]; exact hP1) (by rw [← am_W_num hsh hso hq]; exact hD1) hS1 hA hl Qc XC hQ hX)
          · exact va_putN (D := D) (ci := ci) (v := .int x) (ty := .int) (C := C) (T := T) (N := N) (host := host) hx hb hts hin ty hty hnm hown hK hP hD hS o (am_W_get hso) hcl k hkN (va_Nw.use rfl (hns _ hlk)) (fun x9 h9 => by rw [hTC] at h9; exact h9) hfs.2 hfs.1 rfl rfl (by rw [List.length_map]; exact (List.getElem?_eq_some_iff.mp hq).1) hdec (fun H1 locs1 hP1 hD1 hS1 => hF.2.1 trivial M hM p e s m args below meth cd H1 locs1 A ls ad ca D hB hE hK (by rw [← am_W_num hsh hso hq]; exact hP1) (by rw [← am_W_num hsh hso hq]; exact hD1) hS1 hA hl Qc XC hQ hX)
        · exact hF.elim
      · exact hF.elim
    · exact hF.elim
  · exact hF.elim

set_option maxHeartbeats 1000000 in
theorem am_r_iaload {G : am_G} {sh : List am_D} {TS NS : List Cond} {cl : List vw_C} {EX : (Nat → Prop) → State → Heap → Prop} {l : Launch} (hok : am_Ok G TS NS cl) (hsh : am_Sh cl sh) {μ pc len tg nc : Nat} {lo : List (Option Value)} {st : List Value} {h : am_S} {Q : am_Q} (hc : am_code G μ pc = some (.iaload, len, tg))
    (hF : am_go (am_PW G sh TS NS cl EX l) (am_PW G sh TS NS cl EX l) (am_op G sh μ pc len tg nc lo st h (.iaload)) Q) : am_PW G sh TS NS cl EX l (μ, pc, nc, lo, st, h) Q := by
  intro M hM p e s m args below meth cd H locs A ls ad ca D hB hE hK hP hD hS hA hl Qc XC hQ hX
  obtain ⟨hdec, hln, htg⟩ := am_code_spec hM hc
  obtain ⟨hx, hb, hr, hml, hown, hts, hns, hlocks, hnoex⟩ := id hB
  have go : ∀ (pc' nc' : Nat) (st' : List Value), am_PW G sh TS NS cl EX l (μ, pc', nc', lo, st', h) Q → W p l e M.2.2.2.2.2 s m args below meth cd H locs nc' (6 * nc') (vx_MQ below Qc XC args s M.2.2.2.2.2.cells M.2.2.2.2.2.slots A) (F0 m pc' ls (st'.map (am_cv ad))) :=
    fun pc' nc' st' k => k M hM p e s m args below meth cd H locs A ls ad ca D hB hE hK hP hD hS hA hl Qc XC hQ hX
  obtain rfl : len = 1 := by simpa [am_ln] using hln
  dsimp only [am_op] at hF
  split at hF
  · rename_i j o r
    split at hF
    · rename_i n hso
      exact va_iald hx hb hK hP o 0 (am_W_get hso) rfl hF.1 hdec (go _ _ _ (hF.2.1 trivial))
    · exact hF.elim
  · exact hF.elim

set_option maxHeartbeats 1000000 in
theorem am_r_baload {G : am_G} {sh : List am_D} {TS NS : List Cond} {cl : List vw_C} {EX : (Nat → Prop) → State → Heap → Prop} {l : Launch} (hok : am_Ok G TS NS cl) (hsh : am_Sh cl sh) {μ pc len tg nc : Nat} {lo : List (Option Value)} {st : List Value} {h : am_S} {Q : am_Q} (hc : am_code G μ pc = some (.baload, len, tg))
    (hF : am_go (am_PW G sh TS NS cl EX l) (am_PW G sh TS NS cl EX l) (am_op G sh μ pc len tg nc lo st h (.baload)) Q) : am_PW G sh TS NS cl EX l (μ, pc, nc, lo, st, h) Q := by
  intro M hM p e s m args below meth cd H locs A ls ad ca D hB hE hK hP hD hS hA hl Qc XC hQ hX
  obtain ⟨hdec, hln, htg⟩ := am_code_spec hM hc
  obtain ⟨hx, hb, hr, hml, hown, hts, hns, hlocks, hnoex⟩ := id hB
  have go : ∀ (pc' nc' : Nat) (st' : List Value), am_PW G sh TS NS cl EX l (μ, pc', nc', lo, st', h) Q → W p l e M.2.2.2.2.2 s m args below meth cd H locs nc' (6 * nc') (vx_MQ below Qc XC args s M.2.2.2.2.2.cells M.2.2.2.2.2.slots A) (F0 m pc' ls (st'.map (am_cv ad))) :=
    fun pc' nc' st' k => k M hM p e s m args below meth cd H locs A ls ad ca D hB hE hK hP hD hS hA hl Qc XC hQ hX
  obtain rfl : len = 1 := by simpa [am_ln] using hln
  dsimp only [am_op] at hF
  split at hF
  · rename_i j o r
    split at hF
    · rename_i n hso
      exact va_zald hx hb hK hP o 1 (am_W_get hso) rfl hF.1 hdec (go _ _ _ (hF.2.1 trivial))
    · exact hF.elim
  · exact hF.elim

set_option maxHeartbeats 1000000 in
theorem am_r_iastore {G : am_G} {sh : List am_D} {TS NS : List Cond} {cl : List vw_C} {EX : (Nat → Prop) → State → Heap → Prop} {l : Launch} (hok : am_Ok G TS NS cl) (hsh : am_Sh cl sh) {μ pc len tg nc : Nat} {lo : List (Option Value)} {st : List Value} {h : am_S} {Q : am_Q} (hc : am_code G μ pc = some (.iastore, len, tg))
    (hF : am_go (am_PW G sh TS NS cl EX l) (am_PW G sh TS NS cl EX l) (am_op G sh μ pc len tg nc lo st h (.iastore)) Q) : am_PW G sh TS NS cl EX l (μ, pc, nc, lo, st, h) Q := by
  intro M hM p e s m args below meth cd H locs A ls ad ca D hB hE hK hP hD hS hA hl Qc XC hQ hX
  obtain ⟨hdec, hln, htg⟩ := am_code_spec hM hc
  obtain ⟨hx, hb, hr, hml, hown, hts, hns, hlocks, hnoex⟩ := id hB
  have go : ∀ (pc' nc' : Nat) (st' : List Value), am_PW G sh TS NS cl EX l (μ, pc', nc', lo, st', h) Q → W p l e M.2.2.2.2.2 s m args below meth cd H locs nc' (6 * nc') (vx_MQ below Qc XC args s M.2.2.2.2.2.cells M.2.2.2.2.2.slots A) (F0 m pc' ls (st'.map (am_cv ad))) :=
    fun pc' nc' st' k => k M hM p e s m args below meth cd H locs A ls ad ca D hB hE hK hP hD hS hA hl Qc XC hQ hX
  obtain rfl : len = 1 := by simpa [am_ln] using hln
  dsimp only [am_op] at hF
  split at hF
  · rename_i x j o r
    split at hF
    · rename_i n hso
      exact va_iast hx hb hK hP hD hS o 0 (am_W_get hso) rfl hF.1 hdec (fun H1 locs1 hP1 hD1 hS1 => hF.2.1 trivial M hM p e s m args below meth cd H1 locs1 A ls ad ca D hB hE hK (by rw [← am_W_row (h := h) hso]; exact hP1) (by rw [← am_W_row (h := h) hso]; exact hD1) hS1 hA hl Qc XC hQ hX)
    · exact hF.elim
  · exact hF.elim

set_option maxHeartbeats 1000000 in
theorem am_r_bastore {G : am_G} {sh : List am_D} {TS NS : List Cond} {cl : List vw_C} {EX : (Nat → Prop) → State → Heap → Prop} {l : Launch} (hok : am_Ok G TS NS cl) (hsh : am_Sh cl sh) {μ pc len tg nc : Nat} {lo : List (Option Value)} {st : List Value} {h : am_S} {Q : am_Q} (hc : am_code G μ pc = some (.bastore, len, tg))
    (hF : am_go (am_PW G sh TS NS cl EX l) (am_PW G sh TS NS cl EX l) (am_op G sh μ pc len tg nc lo st h (.bastore)) Q) : am_PW G sh TS NS cl EX l (μ, pc, nc, lo, st, h) Q := by
  intro M hM p e s m args below meth cd H locs A ls ad ca D hB hE hK hP hD hS hA hl Qc XC hQ hX
  obtain ⟨hdec, hln, htg⟩ := am_code_spec hM hc
  obtain ⟨hx, hb, hr, hml, hown, hts, hns, hlocks, hnoex⟩ := id hB
  have go : ∀ (pc' nc' : Nat) (st' : List Value), am_PW G sh TS NS cl EX l (μ, pc', nc', lo, st', h) Q → W p l e M.2.2.2.2.2 s m args below meth cd H locs nc' (6 * nc') (vx_MQ below Qc XC args s M.2.2.2.2.2.cells M.2.2.2.2.2.slots A) (F0 m pc' ls (st'.map (am_cv ad))) :=
    fun pc' nc' st' k => k M hM p e s m args below meth cd H locs A ls ad ca D hB hE hK hP hD hS hA hl Qc XC hQ hX
  obtain rfl : len = 1 := by simpa [am_ln] using hln
  dsimp only [am_op] at hF
  split at hF
  · rename_i x j o r
    split at hF
    · rename_i n hso
      have hnar : vp_nar .boolean x = x := by rcases hF.1.2 with rfl | rfl <;> decide
      refine va_zast hx hb hK hP hD hS o 1 (am_W_get hso) rfl hF.1.1 hdec (fun H1 locs1 hP1 hD1 hS1 => ?_)
      rw [hnar] at hP1 hD1
      exact hF.2.1 trivial M hM p e s m args below meth cd H1 locs1 A ls ad ca D hB hE hK (by rw [← am_W_row (h := h) hso]; exact hP1) (by rw [← am_W_row (h := h) hso]; exact hD1) hS1 hA hl Qc XC hQ hX
    · exact hF.elim
  · exact hF.elim

set_option maxHeartbeats 1000000 in
theorem am_r_arraylength {G : am_G} {sh : List am_D} {TS NS : List Cond} {cl : List vw_C} {EX : (Nat → Prop) → State → Heap → Prop} {l : Launch} (hok : am_Ok G TS NS cl) (hsh : am_Sh cl sh) {μ pc len tg nc : Nat} {lo : List (Option Value)} {st : List Value} {h : am_S} {Q : am_Q} (hc : am_code G μ pc = some (.arraylength, len, tg))
    (hF : am_go (am_PW G sh TS NS cl EX l) (am_PW G sh TS NS cl EX l) (am_op G sh μ pc len tg nc lo st h (.arraylength)) Q) : am_PW G sh TS NS cl EX l (μ, pc, nc, lo, st, h) Q := by
  intro M hM p e s m args below meth cd H locs A ls ad ca D hB hE hK hP hD hS hA hl Qc XC hQ hX
  obtain ⟨hdec, hln, htg⟩ := am_code_spec hM hc
  obtain ⟨hx, hb, hr, hml, hown, hts, hns, hlocks, hnoex⟩ := id hB
  have go : ∀ (pc' nc' : Nat) (st' : List Value), am_PW G sh TS NS cl EX l (μ, pc', nc', lo, st', h) Q → W p l e M.2.2.2.2.2 s m args below meth cd H locs nc' (6 * nc') (vx_MQ below Qc XC args s M.2.2.2.2.2.cells M.2.2.2.2.2.slots A) (F0 m pc' ls (st'.map (am_cv ad))) :=
    fun pc' nc' st' k => k M hM p e s m args below meth cd H locs A ls ad ca D hB hE hK hP hD hS hA hl Qc XC hQ hX
  obtain rfl : len = 1 := by simpa [am_ln] using hln
  dsimp only [am_op] at hF
  split at hF
  · rename_i o r
    split at hF
    · rename_i n hso
      exact va_alen hx hb hK hP o 0 (am_W_get hso) rfl rfl hdec (go _ _ _ (hF.2.1 trivial))
    · exact hF.elim
  · exact hF.elim

set_option maxHeartbeats 1000000 in
theorem am_r_ireturn {G : am_G} {sh : List am_D} {TS NS : List Cond} {cl : List vw_C} {EX : (Nat → Prop) → State → Heap → Prop} {l : Launch} (hok : am_Ok G TS NS cl) (hsh : am_Sh cl sh) {μ pc len tg nc : Nat} {lo : List (Option Value)} {st : List Value} {h : am_S} {Q : am_Q} (hc : am_code G μ pc = some (.ireturn, len, tg))
    (hF : am_go (am_PW G sh TS NS cl EX l) (am_PW G sh TS NS cl EX l) (am_op G sh μ pc len tg nc lo st h (.ireturn)) Q) : am_PW G sh TS NS cl EX l (μ, pc, nc, lo, st, h) Q := by
  intro M hM p e s m args below meth cd H locs A ls ad ca D hB hE hK hP hD hS hA hl Qc XC hQ hX
  obtain ⟨hdec, hln, htg⟩ := am_code_spec hM hc
  obtain ⟨hx, hb, hr, hml, hown, hts, hns, hlocks, hnoex⟩ := id hB
  have go : ∀ (pc' nc' : Nat) (st' : List Value), am_PW G sh TS NS cl EX l (μ, pc', nc', lo, st', h) Q → W p l e M.2.2.2.2.2 s m args below meth cd H locs nc' (6 * nc') (vx_MQ below Qc XC args s M.2.2.2.2.2.cells M.2.2.2.2.2.slots A) (F0 m pc' ls (st'.map (am_cv ad))) :=
    fun pc' nc' st' k => k M hM p e s m args below meth cd H locs A ls ad ca D hB hE hK hP hD hS hA hl Qc XC hQ hX
  obtain rfl : len = 1 := by simpa [am_ln] using hln
  dsimp only [am_op] at hF
  split at hF
  · rename_i x
    obtain ⟨⟨hz, hn⟩, hq⟩ := hF
    rw [am_nc_of hM] at hn
    rw [am_rt_of hM] at hz
    have hsl := (hok.2.1 μ M hM).2.2.2.2
    refine vx_ret (W.widen (k := M.2.2.2.2.2.cells) (n := M.2.2.2.2.2.slots) hn (by rw [hsl]; exact Nat.mul_le_mul_left 6 hn) ?_)
    rcases hz with hz | ⟨hz, hx01⟩
    · exact W.iret hx hb (hr.trans (am_rk_1 hz)) (fun t ht hW => hQ h (some (.int x)) t hq hW.alike (by rw [ht]; exact hP) hD (hS.F ht)) hS.2.2 hdec hlocks
    · have hnar : narrow .boolean (.int x) = .int x := by rcases hx01 with rfl | rfl <;> decide
      exact W.zret (ty := .boolean) hx hb (hr.trans (am_rk_2 hz)) hnar (fun t ht hW => hQ h (some (.int x)) t hq hW.alike (by rw [ht]; exact hP) hD (hS.F ht)) hS.2.2 hdec hlocks
  · exact hF.elim

set_option maxHeartbeats 1000000 in
theorem am_r_return {G : am_G} {sh : List am_D} {TS NS : List Cond} {cl : List vw_C} {EX : (Nat → Prop) → State → Heap → Prop} {l : Launch} (hok : am_Ok G TS NS cl) (hsh : am_Sh cl sh) {μ pc len tg nc : Nat} {lo : List (Option Value)} {st : List Value} {h : am_S} {Q : am_Q} (hc : am_code G μ pc = some (.return_, len, tg))
    (hF : am_go (am_PW G sh TS NS cl EX l) (am_PW G sh TS NS cl EX l) (am_op G sh μ pc len tg nc lo st h (.return_)) Q) : am_PW G sh TS NS cl EX l (μ, pc, nc, lo, st, h) Q := by
  intro M hM p e s m args below meth cd H locs A ls ad ca D hB hE hK hP hD hS hA hl Qc XC hQ hX
  obtain ⟨hdec, hln, htg⟩ := am_code_spec hM hc
  obtain ⟨hx, hb, hr, hml, hown, hts, hns, hlocks, hnoex⟩ := id hB
  have go : ∀ (pc' nc' : Nat) (st' : List Value), am_PW G sh TS NS cl EX l (μ, pc', nc', lo, st', h) Q → W p l e M.2.2.2.2.2 s m args below meth cd H locs nc' (6 * nc') (vx_MQ below Qc XC args s M.2.2.2.2.2.cells M.2.2.2.2.2.slots A) (F0 m pc' ls (st'.map (am_cv ad))) :=
    fun pc' nc' st' k => k M hM p e s m args below meth cd H locs A ls ad ca D hB hE hK hP hD hS hA hl Qc XC hQ hX
  obtain rfl : len = 1 := by simpa [am_ln] using hln
  dsimp only [am_op] at hF
  split at hF
  · obtain ⟨⟨hz, hn⟩, hq⟩ := hF
    rw [am_nc_of hM] at hn
    rw [am_rt_of hM] at hz
    have hsl := (hok.2.1 μ M hM).2.2.2.2
    refine vx_ret (W.widen (k := M.2.2.2.2.2.cells) (n := M.2.2.2.2.2.slots) hn (by rw [hsl]; exact Nat.mul_le_mul_left 6 hn) ?_)
    exact W.vret hx hb (hr.trans (am_rk_0 hz)) (fun t ht hW => hQ h none t hq hW.alike (by rw [ht]; exact hP) hD (hS.F ht)) hS.2.2 hdec hlocks
  · exact hF.elim

set_option maxHeartbeats 1000000 in
theorem am_r_new {G : am_G} {sh : List am_D} {TS NS : List Cond} {cl : List vw_C} {EX : (Nat → Prop) → State → Heap → Prop} {l : Launch} (hok : am_Ok G TS NS cl) (hsh : am_Sh cl sh) {μ pc len tg nc : Nat} {lo : List (Option Value)} {st : List Value} {h : am_S} {Q : am_Q} (hth : am_TH G TS NS EX l) {ix : Nat} (hc : am_code G μ pc = some (.new ix, len, tg))
    (hF : am_go (am_PW G sh TS NS cl EX l) (am_PW G sh TS NS cl EX l) (am_op G sh μ pc len tg nc lo st h (.new ix)) Q) : am_PW G sh TS NS cl EX l (μ, pc, nc, lo, st, h) Q := by
  intro M hM p e s m args below meth cd H locs A ls ad ca D hB hE hK hP hD hS hA hl Qc XC hQ hX
  obtain ⟨hdec, hln, htg⟩ := am_code_spec hM hc
  obtain ⟨hx, hb, hr, hml, hown, hts, hns, hlocks, hnoex⟩ := id hB
  have go : ∀ (pc' nc' : Nat) (st' : List Value), am_PW G sh TS NS cl EX l (μ, pc', nc', lo, st', h) Q → W p l e M.2.2.2.2.2 s m args below meth cd H locs nc' (6 * nc') (vx_MQ below Qc XC args s M.2.2.2.2.2.cells M.2.2.2.2.2.slots A) (F0 m pc' ls (st'.map (am_cv ad))) :=
    fun pc' nc' st' k => k M hM p e s m args below meth cd H locs A ls ad ca D hB hE hK hP hD hS hA hl Qc XC hQ hX
  obtain rfl : len = 3 := by simpa [am_ln] using hln
  dsimp only [am_op] at hF
  split at hF
  · rename_i E hE9
    obtain ⟨⟨hn, hct⟩, hq⟩ := hF
    rw [am_nc_of hM] at hn
    refine hth μ M pc E hM hE9 p e s m args below meth cd H locs A ls _ nc Qc XC hB hE hS hl.1 (by rw [am_ct_map]; exact hct) hn (fun t ha hz hk => hX h E t hq ha (hP.kept (fun k q hkq => hk q.1 (hP k q hkq).lt)) hD ⟨Nat.le_trans hS.1 hz, fun q h1 h2 => by rw [hk q (Nat.lt_of_lt_of_le h1 hS.1)]; exact hS.2.1 q h1 h2⟩)
  · exact hF.elim

theorem am_sw_get {f : am_C → Prop} {mk : Nat → am_C} {pc : Nat} {x lo : Int} : ∀ {offs : List Int} {j : Nat}, am_all f (am_sw mk pc x lo j offs) → ∀ {i : Nat} {off : Int}, offs[i]? = some off → x = lo + ((j + i : Nat) : Int) → f (mk ((pc : Int) + off).toNat)
  | [], _, _, _, _, h, _ => by simp at h
  | o :: r, j, ha, 0, off, h, hx => by
    have : o = off := by simpa using h
    subst this
    exact ha.1 hx
  | o :: r, j, ha, i + 1, off, h, hx => am_sw_get (j := j + 1) ha.2 (i := i) (by simpa using h) (by rw [hx]; congr 2; omega)
theorem am_swo_get {pc : Nat} : ∀ {offs : List Int}, am_swo pc offs = true → ∀ {i : Nat} {off : Int}, offs[i]? = some off → 0 ≤ (pc : Int) + off
  | [], _, _, _, h => by simp at h
  | o :: r, ha, 0, off, h => by
    have : o = off := by simpa using h
    subst this
    simp only [am_swo, Bool.and_eq_true, decide_eq_true_eq] at ha
    exact ha.1
  | o :: r, ha, i + 1, off, h => by
    simp only [am_swo, Bool.and_eq_true, decide_eq_true_eq] at ha
    exact am_swo_get ha.2 (i := i) (by simpa using h)

set_option maxHeartbeats 1000000 in
theorem am_r_tableswitch {G : am_G} {sh : List am_D} {TS NS : List Cond} {cl : List vw_C} {EX : (Nat → Prop) → State → Heap → Prop} {l : Launch} (hok : am_Ok G TS NS cl) (hsh : am_Sh cl sh) {μ pc len tg nc : Nat} {lo : List (Option Value)} {st : List Value} {h : am_S} {Q : am_Q} {dflt lw up : Int} {offs : Array Int} (hc : am_code G μ pc = some (.tableswitch dflt lw up offs, len, tg))
    (hF : am_go (am_PW G sh TS NS cl EX l) (am_PW G sh TS NS cl EX l) (am_op G sh μ pc len tg nc lo st h (.tableswitch dflt lw up offs)) Q) : am_PW G sh TS NS cl EX l (μ, pc, nc, lo, st, h) Q := by
  intro M hM p e s m args below meth cd H locs A ls ad ca D hB hE hK hP hD hS hA hl Qc XC hQ hX
  obtain ⟨hdec, hln, htg⟩ := am_code_spec hM hc
  obtain ⟨hx, hb, hr, hml, hown, hts, hns, hlocks, hnoex⟩ := id hB
  have go : ∀ (pc' nc' : Nat) (st' : List Value), am_PW G sh TS NS cl EX l (μ, pc', nc', lo, st', h) Q → W p l e M.2.2.2.2.2 s m args below meth cd H locs nc' (6 * nc') (vx_MQ below Qc XC args s M.2.2.2.2.2.cells M.2.2.2.2.2.slots A) (F0 m pc' ls (st'.map (am_cv ad))) :=
    fun pc' nc' st' k => k M hM p e s m args below meth cd H locs A ls ad ca D hB hE hK hP hD hS hA hl Qc XC hQ hX
  dsimp only [am_op] at hF
  split at hF
  · rename_i x r
    obtain ⟨⟨hsz, hof⟩, hd, hrest⟩ := hF
    by_cases hout : x.toInt < lw ∨ up < x.toInt
    · exact lv_tableOut hx hb hdec hout (am_nn_spec htg) (go _ _ _ (hd hout))
    · have h1 : ¬ x.toInt < lw := fun q => hout (Or.inl q)
      have h2 : ¬ up < x.toInt := fun q => hout (Or.inr q)
      have hlt : (x.toInt - lw).toNat < offs.size := by omega
      have hget : offs[(x.toInt - lw).toNat]? = some offs[(x.toInt - lw).toNat] := Array.getElem?_eq_getElem hlt
      have hgl : offs.toList[(x.toInt - lw).toNat]? = some offs[(x.toInt - lw).toNat] := by rw [Array.getElem?_toList]; exact hget
      have hnn := am_swo_get hof hgl
      have hgo := am_sw_get (j := 0) hrest hgl (by omega)
      exact lv_tableIn hx hb hdec h1 h2 hget (Int.toNat_of_nonneg hnn).symm (go _ _ _ hgo)
  · exact hF.elim

theorem am_ctr {ad : Nat → Nat} {r : List Value} {k n : Nat} (h : am_ct r ≤ 8) (hk : 8 + k ≤ n) : ((r.map (am_cv ad)).map fun v => v.category).sum + k ≤ n := by
  rw [am_ct_map]
  omega
/-- a method's contract out of its entry -/
theorem am_met {G : am_G} {sh : List am_D} {TS NS : List Cond} {cl : List vw_C} {EX : (Nat → Prop) → State → Heap → Prop} {l : Launch} (hok : am_Ok G TS NS cl) (hEX : am_EX EX) {μ : Nat} {M : am_M} (hM : am_m G μ = some M) {av : List Value} {h : am_S} {Q : am_Q} (hlen : av.length ≤ M.2.2.1) (hcat : ∀ v ∈ av, v.category = 1) (hPW : am_PW G sh TS NS cl EX l (μ, 0, 0, am_in M.2.2.1 av, [], h) Q) (ad : Nat → Nat) (ca : Nat → ClassId) (D : va_G) (sz : Nat) :
    vx_Met l M.1 (Cond.code M.1 M.2.1 M.2.2.1 M.2.2.2.1 :: TS) M.2.2.2.2.2 (va_Pc (av.map (am_cv ad)) (fun U => U.heap.size = sz ∧ va_P D cl (am_W sh ad ca h) U.heap ∧ va_K D cl (am_ty ca) U ∧ va_D (fun _ => True) (am_W sh ad ca h) ∧ (∀ w ∈ NS, va_Nw w U) ∧ EX (va_A (am_W sh ad ca h) sz) U U.heap))
      (fun _ st oc t => (∃ (h' : am_S) (r : Option Value), oc = .returned (r.map (am_cv ad)) ∧ Q h' (.inl r) ∧ va_P D cl (am_W sh ad ca h') t.heap ∧ va_D (va_A (am_W sh ad ca h) sz) (am_W sh ad ca h')) ∧ va_F (va_A (am_W sh ad ca h) sz) st t)
      (fun E st t => ∃ h' : am_S, Q h' (.inr E) ∧ va_P D cl (am_W sh ad ca h') t.heap ∧ va_D (va_A (am_W sh ad ca h) sz) (am_W sh ad ca h') ∧ va_F (va_A (am_W sh ad ca h) sz) st t)
      M.2.2.2.2.2.cells M.2.2.2.2.2.slots (va_A (am_W sh ad ca h) sz) := by
  refine vx_ofW (cc := M.2.1) (maxL := M.2.2.1) (ret := M.2.2.2.1) (hok.2.1 μ M hM).1 rfl ?_
  intro p e s m args below meth cd s₁ B hml hnoex hv
  obtain ⟨rfl, hsz, hP, hK, hD0, hns, hE⟩ := hv
  have hts := atoms_spec (ws := Cond.code M.1 M.2.1 M.2.2.1 M.2.2.2.1 :: TS) B.pre
  have hcat' : ∀ v ∈ av.map (am_cv ad), v.category = 1 := fun v hv => by
    obtain ⟨w, hw, rfl⟩ := List.mem_map.mp hv
    rw [am_cv_cat]
    exact hcat w hw
  have hlen' : (lg_sl (av.map (am_cv ad))).length ≤ M.2.2.1 := by rw [am_sl1 hcat', List.length_map]; exact hlen
  have hl0 := lv_entry (av.map (am_cv ad)) (n := M.2.2.1) hlen'
  rw [lg_entry_eq]
  generalize (lg_sl (av.map (am_cv ad)) ++ List.replicate (M.2.2.1 - (lg_sl (av.map (am_cv ad))).length) Slot.unset).toArray = ls at hl0 ⊢
  have hl : am_lo ad ls M.2.2.1 (am_in M.2.2.1 av) := ⟨hl0.1, hl0.2.1, fun i v hi => by
    have h1 := am_in_get hi
    have h2 := am_args1 (k := 0) (i := i) (v := am_cv ad v) hcat' (by rw [List.getElem?_map, h1]; rfl)
    rw [Nat.zero_add] at h2
    exact hl0.2.2 _ h2⟩
  refine hPW M hM p e s m _ below meth cd s.heap [] (va_A (am_W sh ad ca h) sz) ls ad ca D ⟨B.exec, B.bytes, B.returns, hml, findClass_of_methodNamed B.named, fun w hw => hts w (List.mem_cons_of_mem _ hw), hns, B.notSynchronized, hnoex⟩ hE hK hP hD0.self va_S.rf (fun q hq => Or.inr (by rw [← hsz]; exact hq)) hl _ _ ?_ ?_
  · intro h' r t hq ha hP' hD' hF
    exact ⟨⟨h', r, rfl, hq, hP', hD'⟩, hF⟩
  · intro h' E t hq ha hP' hD' hF
    exact ⟨h', hq, hP', hD', hF⟩
/-- behind a call -/
theorem am_back {G : am_G} {sh : List am_D} {TS NS : List Cond} {cl : List vw_C} {EX : (Nat → Prop) → State → Heap → Prop} {l : Launch} (hok : am_Ok G TS NS cl) {μ μ' : Nat} {M M' : am_M} (hM : am_m G μ = some M) (hM' : am_m G μ' = some M') {pc nc : Nat} {lo : List (Option Value)} {rest : List Value} {h : am_S} {Q : am_Q}
    {p : Program} {e : Env} {s : State} {m : MethodId} {args : Array Value} {below : List Frame} {meth : Method} {cd : Code} {H : Heap} {locs : List Loc} {A : Nat → Prop} {ls : Array Slot} {ad : Nat → Nat} {ca : Nat → ClassId} {D : va_G}
    (hB : am_B TS NS M p s m args meth cd) (hE : EX A s s.heap) (hK : va_K D cl (am_ty ca) s) (hD : va_D A (am_W sh ad ca h)) (hS : va_S A s.heap H locs) (hA : ∀ q, s.heap.size ≤ q → A q) (hl : am_lo ad ls M.2.2.1 lo) {Qc : Array Value → State → Outcome → State → Prop} {XC : String → State → State → Prop}
    (hQ : ∀ (h' : am_S) (r : Option Value) (t : State), Q h' (.inl r) → s.vm.Alike t.vm → va_P D cl (am_W sh ad ca h') t.heap → va_D A (am_W sh ad ca h') → va_F A s t → Qc args s (.returned (r.map (am_cv ad))) t)
    (hX : ∀ (h' : am_S) (E : String) (t : State), Q h' (.inr E) → s.vm.Alike t.vm → va_P D cl (am_W sh ad ca h') t.heap → va_D A (am_W sh ad ca h') → va_F A s t → XC E s t)
    (hn : nc + M'.2.2.2.2.2.cells ≤ M.2.2.2.2.2.cells) {st0 : List Value} {a : Array Value}
    (hr : vx_Run p l e M.2.2.2.2.2 s m args below meth cd H locs nc (6 * nc) M'.2.2.2.2.2.cells M'.2.2.2.2.2.slots (F0 m pc ls st0) (rest.map (am_cv ad))
      ((fun (_ : Array Value) st oc t => (∃ (h' : am_S) (r : Option Value), oc = .returned (r.map (am_cv ad)) ∧ am_k Q (fun h' r => am_PW G sh TS NS cl EX l (μ, pc + 3, nc + am_nc G μ', lo, r.toList ++ rest, h') Q) h' (.inl r) ∧ va_P D cl (am_W sh ad ca h') t.heap ∧ va_D (va_A (am_W sh ad ca h) H.size) (am_W sh ad ca h')) ∧ va_F (va_A (am_W sh ad ca h) H.size) st t) a)
      (fun E st t => ∃ h' : am_S, am_k Q (fun h' r => am_PW G sh TS NS cl EX l (μ, pc + 3, nc + am_nc G μ', lo, r.toList ++ rest, h') Q) h' (.inr E) ∧ va_P D cl (am_W sh ad ca h') t.heap ∧ va_D (va_A (am_W sh ad ca h) H.size) (am_W sh ad ca h') ∧ va_F (va_A (am_W sh ad ca h) H.size) st t)
      (va_A (am_W sh ad ca h) H.size)) :
    W p l e M.2.2.2.2.2 s m args below meth cd H locs nc (6 * nc) (vx_MQ below Qc XC args s M.2.2.2.2.2.cells M.2.2.2.2.2.slots A) (F0 m pc ls st0) := by
  have hAA : ∀ q, va_A (am_W sh ad ca h) H.size q → A q := fun q hq => by
    rcases hq with ⟨k, e9, hk⟩ | hq
    · exact hD.2 k (q, e9) hk
    · exact hA q (Nat.le_trans hS.1 hq)
  have hsl := (hok.2.1 μ M hM).2.2.2.2
  have hsl' := (hok.2.1 μ' M' hM').2.2.2.2
  intro T hT X
  rcases hr T hT X with ⟨v, st₀, t, T', L, h0, X', hL, e1, e2, ⟨⟨h', r, hv, hPW, hP', hD'⟩, hF⟩, st⟩ | ⟨q, st₀, t, T', L, E, ce, h0, X', hL, e1, e2, ⟨h', hq, hP', hD', hF⟩, hce, hcv, hcl, st⟩
  · cases hv
    obtain ⟨k1, k2, k3⟩ := vx_keep h0 e1 hS (fun q _ z => hAA q z) hAA hL hF
    have X2 : Stand p l e M.2.2.2.2.2 s m args below meth cd T' (locs ++ L) (nc + am_nc G μ') (6 * (nc + am_nc G μ')) := by
      rw [am_nc_of hM', Nat.mul_add, ← hsl']
      exact X'
    obtain ⟨t2, a1, b1⟩ := hPW M hM p e s m args below meth cd T'.heap (locs ++ L) A ls ad ca D hB hE hK (by rw [e1]; exact hP') (hD'.weaken (fun _ _ _ z => hAA _ z)) k3 hA hl Qc XC hQ hX T' rfl X2
    refine ⟨t2, st t2 ?_, b1⟩
    have hst : (r.map (am_cv ad)).toList ++ rest.map (am_cv ad) = (r.toList ++ rest).map (am_cv ad) := by cases r <;> rfl
    show Steps p.tables e below (T'.setTop { (F0 m pc ls st0) with pc := pc + 3, stack := (r.map (am_cv ad)).toList ++ rest.map (am_cv ad) }) t2
    rw [hst]
    exact a1
  · obtain ⟨k1, k2, k3⟩ := vx_keep h0 e1 hS (fun q _ z => hAA q z) hAA hL hF
    obtain ⟨t2, a1, b1⟩ := vx_out (Qc := Qc) (XC := XC) (free := A) (pc := pc) (ls := ls) (rest := rest.map (am_cv ad)) (mc := M.2.2.2.2.2.cells) (ms := M.2.2.2.2.2.slots) (fun x hx => (hB.2.2.2.2.2.2.2.2 x hx).elim) hB.2.2.2.2.2.2.2.1 (show T'.heap[q]? = some ce by rw [e1]; exact hce) hcv hcl
      (fun t9 ht9 ha9 => hX h' E t9 hq ha9 (by rw [ht9, e1]; exact hP') (hD'.weaken (fun _ _ _ z => hAA _ z)) (k3.F ht9)) k3.2.2 hn (by rw [hsl, hsl', ← Nat.mul_add]; exact Nat.mul_le_mul_left 6 hn) T' rfl X'
    exact ⟨t2, st.trans a1, b1⟩
theorem am_pre {G : am_G} {sh : List am_D} {TS NS : List Cond} {cl : List vw_C} {EX : (Nat → Prop) → State → Heap → Prop} {l : Launch} (hEX : am_EX EX) {M' : am_M} {av : List Value} {h : am_S} {s : State} {H : Heap} {locs : List Loc} {A : Nat → Prop} {ad : Nat → Nat} {ca : Nat → ClassId} {D : va_G} (hNS : ∀ w ∈ NS, ∀ {u U : State}, u.WarmedH U.vm → va_Nw w u → va_Nw w U)
    (hE : EX A s s.heap) (hns : ∀ w ∈ NS, va_Nw w s) (hK : va_K D cl (am_ty ca) s) (hP : va_P D cl (am_W sh ad ca h) H) (hD : va_D A (am_W sh ad ca h)) (hS : va_S A s.heap H locs) (hA : ∀ q, s.heap.size ≤ q → A q) :
    PreS s H (va_Pc (av.map (am_cv ad)) (fun U => U.heap.size = H.size ∧ va_P D cl (am_W sh ad ca h) U.heap ∧ va_K D cl (am_ty ca) U ∧ va_D (fun _ => True) (am_W sh ad ca h) ∧ (∀ w ∈ NS, va_Nw w U) ∧ EX (va_A (am_W sh ad ca h) H.size) U U.heap)) (av.map (am_cv ad)) := by
  have hAA : ∀ q, va_A (am_W sh ad ca h) H.size q → A q := fun q hq => by
    rcases hq with ⟨k, e9, hk⟩ | hq
    · exact hD.2 k (q, e9) hk
    · exact hA q (Nat.le_trans hS.1 hq)
  refine ⟨fun a U g mk q => ?_, fun U hU hW => ⟨rfl, by rw [hU], by rw [hU]; exact hP, va_K.moved hW.alike hK, hD.weaken (fun _ _ _ _ => trivial), fun w hw => hNS w hw hW (hns w hw), hEX A _ s U s.heap U.heap hE hW (fun a h1 h2 => by rw [hU]; exact hS.2.1 a h1 h2) hAA⟩⟩
  obtain ⟨q0, q1, q2, q3, q4, q5, q6⟩ := q
  exact ⟨q0, q1, q2, va_K.moved (u := U) (U := U.calling g mk a) (Vm.Alike.refl U.vm) q3, q4, fun w hw => hNS w hw (u := U) (U := U.calling g mk a) (State.WarmedH.refl U) (q5 w hw), hEX _ _ U (U.calling g mk a) U.heap U.heap q6 (State.WarmedH.refl U) (fun _ _ _ => rfl) (fun _ z => z)⟩

set_option maxHeartbeats 1000000 in
theorem am_r_invokevirtual {G : am_G} {sh : List am_D} {TS NS : List Cond} {cl : List vw_C} {EX : (Nat → Prop) → State → Heap → Prop} {l : Launch} (hok : am_Ok G TS NS cl) (hsh : am_Sh cl sh) {μ pc len tg nc : Nat} {lo : List (Option Value)} {st : List Value} {h : am_S} {Q : am_Q} (hEX : am_EX EX) (hNS : ∀ w ∈ NS, ∀ {u U : State}, u.WarmedH U.vm → va_Nw w u → va_Nw w U) {ix : Nat} (hc : am_code G μ pc = some (.invokevirtual ix, len, tg))
    (hF : am_go (am_PW G sh TS NS cl EX l) (am_PW G sh TS NS cl EX l) (am_op G sh μ pc len tg nc lo st h (.invokevirtual ix)) Q) : am_PW G sh TS NS cl EX l (μ, pc, nc, lo, st, h) Q := by
  intro M hM p e s m args below meth cd H locs A ls ad ca D hB hE hK hP hD hS hA hl Qc XC hQ hX
  obtain ⟨hdec, hln, htg⟩ := am_code_spec hM hc
  obtain ⟨hx, hb, hr, hml, hown, hts, hns, hlocks, hnoex⟩ := id hB
  have go : ∀ (pc' nc' : Nat) (st' : List Value), am_PW G sh TS NS cl EX l (μ, pc', nc', lo, st', h) Q → W p l e M.2.2.2.2.2 s m args below meth cd H locs nc' (6 * nc') (vx_MQ below Qc XC args s M.2.2.2.2.2.cells M.2.2.2.2.2.slots A) (F0 m pc' ls (st'.map (am_cv ad))) :=
    fun pc' nc' st' k => k M hM p e s m args below meth cd H locs A ls ad ca D hB hE hK hP hD hS hA hl Qc XC hQ hX
  obtain rfl : len = 3 := by simpa [am_ln] using hln
  dsimp only [am_op] at hF
  split at hF
  · rename_i μ' n hcal
    obtain ⟨M', hM', hlk, hinst, hsel, hdesc, hfr, hlo, T9, N9, hcl9⟩ := hok.2.2.2.1 μ M ix μ' n hM hcal
    cases hpp : am_pp (n + 1) st [] with
    | none => simp only [am_inv, hpp] at hF; exact hF.elim
    | some q =>
      obtain ⟨av, rest⟩ := q
      simp only [am_inv, hpp] at hF
      obtain ⟨⟨hrc, hct, hnl, hn⟩, hPW⟩ := hF
      obtain ⟨pre, rfl, hav, hpl, hpc⟩ := am_pp_spec hpp
      rw [List.append_nil] at hav
      subst hav
      rw [am_nc_of hM', am_nc_of hM] at hn
      rw [am_ml_of hM'] at hnl
      rw [am_ml_of hM'] at hPW
      have hcat : ∀ v ∈ pre.reverse, v.category = 1 := fun v hv => hpc v (List.mem_reverse.mp hv)
      have hmet := am_met hok hEX hM' (by rw [List.length_reverse, hpl]; exact hnl) hcat hPW ad ca D H.size
      have hmok := hok.2.1 μ' M' hM'
      have hmok0 := hok.2.1 μ M hM
      have hpar : ∀ sig, parseMethodDescriptor M'.1.desc = some sig → n = sig.parameters.length := fun sig h9 => by
        rw [h9] at hdesc
        exact (Option.some.inj hdesc).symm
      have hcb : CallB M.2.2.2.2.2 s args M.1.cls ix M'.1 M'.2.1 M'.2.2.1 M'.2.2.2.1 (Cond.code M'.1 M'.2.1 M'.2.2.1 M'.2.2.2.1 :: TS) M'.2.2.2.2.2 M'.2.2.2.2.2.cells M'.2.2.2.2.2.slots n := by
        refine ⟨rfl, rfl, hfr, hlo, fun w hw a' U hW => ?_, List.mem_cons_self, hts _ hmok.2.1, hts _ hmok.2.2.1, hmok.2.2.2.1, hpar, hts _ hlk⟩
        rcases List.mem_cons.mp hw with rfl | hw
        · exact word_at hW (good_of_word (hok.1 _ hmok.2.1)) (hts _ hmok.2.1)
        · exact word_at hW (good_of_word (hok.1 _ hw)) (hts w hw)
      have hps := am_pre (l := l) (G := G) (TS := TS) (M' := M') hEX (av := pre.reverse) hNS hE hns hK hP hD hS hA
      have hf : nc + M'.2.2.2.2.2.cells ≤ M.2.2.2.2.2.cells ∧ 6 * nc + M'.2.2.2.2.2.slots ≤ M.2.2.2.2.2.slots := ⟨hn, by rw [hmok.2.2.2.2, hmok0.2.2.2.2, ← Nat.mul_add]; exact Nat.mul_le_mul_left 6 hn⟩
      have hst8 : ((rest.map (am_cv ad)).map fun v => v.category).sum ≤ 8 := by rw [am_ct_map]; exact hct
      have hrc := hrc (by omega)
      rw [am_oc_of hM'] at hrc
      obtain ⟨o, ps, hpr⟩ : ∃ o ps, pre.reverse = .ref o :: ps := by
        cases hz : pre.reverse with
        | nil => rw [hz] at hrc; exact hrc.elim
        | cons v ps =>
          rw [hz] at hrc
          cases v with
          | ref o => exact ⟨o, ps, rfl⟩
          | _ => exact hrc.elim
      rw [hpr] at hrc hmet hps
      have hpre : pre = ps.reverse ++ [.ref o] := by rw [← List.reverse_reverse pre, hpr]; simp
      simp only [am_rc] at hrc
      split at hrc
      · rename_i ci fs hso
        subst hrc
        have hlen : ps.length = n := by rw [hpre] at hpl; simpa using hpl
        have hrec := va_recv hK hP hcl9 (am_W_get hso)
        refine am_back hok hM hM' hB hE hK hD hS hA hl hQ hX hn (a := (Value.ref (ad o) :: ps.map (am_cv ad)).toArray) (rest := rest) (vx_runV (C := M'.1.cls) (b := ad o) (As := ps.map (am_cv ad)) (rest := rest.map (am_cv ad)) ⟨hx, hb, hml, hown, hts⟩ hmet ⟨hcb, hts _ hinst, hts _ hsel⟩ ⟨hps.1, hrec, hps.2⟩ rfl (by rw [List.length_map]; exact hlen) hl.1 ?_ (lv_room hst8) hdec hf)
        rw [hpre]
        simp [am_cv]
      · exact hrc.elim
  · exact hF.elim

set_option maxHeartbeats 1000000 in
theorem am_r_invokestatic {G : am_G} {sh : List am_D} {TS NS : List Cond} {cl : List vw_C} {EX : (Nat → Prop) → State → Heap → Prop} {l : Launch} (hok : am_Ok G TS NS cl) (hsh : am_Sh cl sh) {μ pc len tg nc : Nat} {lo : List (Option Value)} {st : List Value} {h : am_S} {Q : am_Q} (hEX : am_EX EX) (hNS : ∀ w ∈ NS, ∀ {u U : State}, u.WarmedH U.vm → va_Nw w u → va_Nw w U) {ix : Nat} (hc : am_code G μ pc = some (.invokestatic ix, len, tg))
    (hF : am_go (am_PW G sh TS NS cl EX l) (am_PW G sh TS NS cl EX l) (am_op G sh μ pc len tg nc lo st h (.invokestatic ix)) Q) : am_PW G sh TS NS cl EX l (μ, pc, nc, lo, st, h) Q := by
  intro M hM p e s m args below meth cd H locs A ls ad ca D hB hE hK hP hD hS hA hl Qc XC hQ hX
  obtain ⟨hdec, hln, htg⟩ := am_code_spec hM hc
  obtain ⟨hx, hb, hr, hml, hown, hts, hns, hlocks, hnoex⟩ := id hB
  have go : ∀ (pc' nc' : Nat) (st' : List Value), am_PW G sh TS NS cl EX l (μ, pc', nc', lo, st', h) Q → W p l e M.2.2.2.2.2 s m args below meth cd H locs nc' (6 * nc') (vx_MQ below Qc XC args s M.2.2.2.2.2.cells M.2.2.2.2.2.slots A) (F0 m pc' ls (st'.map (am_cv ad))) :=
    fun pc' nc' st' k => k M hM p e s m args below meth cd H locs A ls ad ca D hB hE hK hP hD hS hA hl Qc XC hQ hX
  obtain rfl : len = 3 := by simpa [am_ln] using hln
  dsimp only [am_op] at hF
  split at hF
  · rename_i μ' n hcal
    obtain ⟨M', hM', hlk, hstat, hdesc, hfr, hlo⟩ := hok.2.2.2.2.1 μ M ix μ' n hM hcal
    cases hpp : am_pp n st [] with
    | none => simp only [am_inv, hpp] at hF; exact hF.elim
    | some q =>
      obtain ⟨av, rest⟩ := q
      simp only [am_inv, hpp] at hF
      obtain ⟨⟨hrc, hct, hnl, hn⟩, hPW⟩ := hF
      obtain ⟨pre, rfl, hav, hpl, hpc⟩ := am_pp_spec hpp
      rw [List.append_nil] at hav
      subst hav
      rw [am_nc_of hM', am_nc_of hM] at hn
      rw [am_ml_of hM'] at hnl
      rw [am_ml_of hM'] at hPW
      have hcat : ∀ v ∈ pre.reverse, v.category = 1 := fun v hv => hpc v (List.mem_reverse.mp hv)
      have hmet := am_met hok hEX hM' (by rw [List.length_reverse, hpl]; exact hnl) hcat hPW ad ca D H.size
      have hmok := hok.2.1 μ' M' hM'
      have hmok0 := hok.2.1 μ M hM
      have hpar : ∀ sig, parseMethodDescriptor M'.1.desc = some sig → n = sig.parameters.length := fun sig h9 => by
        rw [h9] at hdesc
        exact (Option.some.inj hdesc).symm
      have hcb : CallB M.2.2.2.2.2 s args M.1.cls ix M'.1 M'.2.1 M'.2.2.1 M'.2.2.2.1 (Cond.code M'.1 M'.2.1 M'.2.2.1 M'.2.2.2.1 :: TS) M'.2.2.2.2.2 M'.2.2.2.2.2.cells M'.2.2.2.2.2.slots n := by
        refine ⟨rfl, rfl, hfr, hlo, fun w hw a' U hW => ?_, List.mem_cons_self, hts _ hmok.2.1, hts _ hmok.2.2.1, hmok.2.2.2.1, hpar, hts _ hlk⟩
        rcases List.mem_cons.mp hw with rfl | hw
        · exact word_at hW (good_of_word (hok.1 _ hmok.2.1)) (hts _ hmok.2.1)
        · exact word_at hW (good_of_word (hok.1 _ hw)) (hts w hw)
      have hps := am_pre (l := l) (G := G) (TS := TS) (M' := M') hEX (av := pre.reverse) hNS hE hns hK hP hD hS hA
      have hf : nc + M'.2.2.2.2.2.cells ≤ M.2.2.2.2.2.cells ∧ 6 * nc + M'.2.2.2.2.2.slots ≤ M.2.2.2.2.2.slots := ⟨hn, by rw [hmok.2.2.2.2, hmok0.2.2.2.2, ← Nat.mul_add]; exact Nat.mul_le_mul_left 6 hn⟩
      have hst8 : ((rest.map (am_cv ad)).map fun v => v.category).sum ≤ 8 := by rw [am_ct_map]; exact hct
      refine am_back hok hM hM' hB hE hK hD hS hA hl hQ hX hn (a := (pre.reverse.map (am_cv ad)).toArray) (rest := rest) (vx_runS (As := pre.reverse.map (am_cv ad)) (rest := rest.map (am_cv ad)) ⟨hx, hb, hml, hown, hts⟩ hmet ⟨hcb, hts _ hstat⟩ hps rfl (by rw [List.length_map, List.length_reverse]; exact hpl) hl.1 ?_ (lv_room hst8) hdec hf)
      simp [List.map_reverse]
  · rename_i a9 b9 hcal
    obtain ⟨k1, k2, k3, k4, k5, k6⟩ := hok.2.2.2.2.2.1 μ M ix a9 b9 hM hcal
    split at hF
    · have hcn := hF.1.2
      rw [am_nc_of hM] at hcn
      exact va_mmax hx hb (hml.trans hl.1.symm) hown (hts _ k1) (hts _ k2) (hts _ k3) (hts _ k4) k5 (am_ctr hF.1.1 (by omega)) hcn (by rw [(hok.2.1 μ M hM).2.2.2.2]; exact Nat.mul_le_mul_left 6 hcn) hdec (go _ _ _ (hF.2.1 trivial))
    · exact hF.elim
  · rename_i a9 b9 hcal
    obtain ⟨k1, k2, k3, k4, k5, k6⟩ := hok.2.2.2.2.2.2.1 μ M ix a9 b9 hM hcal
    split at hF
    · have hcn := hF.1.2
      rw [am_nc_of hM] at hcn
      exact va_mmin hx hb (hml.trans hl.1.symm) hown (hts _ k1) (hts _ k2) (hts _ k3) (hts _ k4) k5 (am_ctr hF.1.1 (by omega)) hcn (by rw [(hok.2.1 μ M hM).2.2.2.2]; exact Nat.mul_le_mul_left 6 hcn) hdec (go _ _ _ (hF.2.1 trivial))
    · exact hF.elim
  · rename_i a9 b9 hcal
    obtain ⟨k1, k2, k3, k4, k5, k6⟩ := hok.2.2.2.2.2.2.2.1 μ M ix a9 b9 hM hcal
    split at hF
    · have hcn := hF.1.2
      rw [am_nc_of hM] at hcn
      exact va_mmin_long hx hb (hml.trans hl.1.symm) hown (hts _ k1) (hts _ k2) (hts _ k3) (hts _ k4) k5 (am_ctr hF.1.1 (by omega)) hcn (by rw [(hok.2.1 μ M hM).2.2.2.2]; exact Nat.mul_le_mul_left 6 hcn) hdec (go _ _ _ (hF.2.1 trivial))
    · exact hF.elim
  · exact hF.elim

set_option maxHeartbeats 4000000 in
theorem am_sound {G : am_G} {sh : List am_D} {TS NS : List Cond} {cl : List vw_C} {EX : (Nat → Prop) → State → Heap → Prop} {l : Launch} (hok : am_Ok G TS NS cl) (hsh : am_Sh cl sh) (hEX : am_EX EX) (hNS : ∀ w ∈ NS, ∀ {u U : State}, u.WarmedH U.vm → va_Nw w u → va_Nw w U) (hth : am_TH G TS NS EX l) (c : am_C) (Q : am_Q) (hF : am_go (am_PW G sh TS NS cl EX l) (am_PW G sh TS NS cl EX l) (am_step G sh c) Q) : am_PW G sh TS NS cl EX l c Q := by
  obtain ⟨μ, pc, nc, lo, st, h⟩ := c
  cases hc : am_code G μ pc with
  | none => simp only [am_step, hc] at hF; exact hF.elim
  | some z =>
    obtain ⟨i, len, tg⟩ := z
    simp only [am_step, hc] at hF
    cases i with
    | iconst v => exact am_r_iconst hok hsh hc hF
    | bipush v => exact am_r_bipush hok hsh hc hF
    | sipush v => exact am_r_sipush hok hsh hc hF
    | lconst v => exact am_r_lconst hok hsh hc hF
    | ldc ix => exact am_r_ldc hok hsh hc hF
    | ldc2_w ix => exact am_r_ldc2 hok hsh hc hF
    | iload_n k => exact am_r_iload_n hok hsh hc hF
    | iload k => exact am_r_iload hok hsh hc hF
    | istore_n k => exact am_r_istore_n hok hsh hc hF
    | istore k => exact am_r_istore hok hsh hc hF
    | lload_n k => exact am_r_lload_n hok hsh hc hF
    | lload k => exact am_r_lload hok hsh hc hF
    | lstore_n k => exact am_r_lstore_n hok hsh hc hF
    | lstore k => exact am_r_lstore hok hsh hc hF
    | aload_n k => exact am_r_aload_n hok hsh hc hF
    | aload k => exact am_r_aload hok hsh hc hF
    | astore_n k => exact am_r_astore_n hok hsh hc hF
    | astore k => exact am_r_astore hok hsh hc hF
    | iinc k v => exact am_r_iinc hok hsh hc hF
    | iadd => exact am_r_iadd hok hsh hc hF
    | isub => exact am_r_isub hok hsh hc hF
    | imul => exact am_r_imul hok hsh hc hF
    | iand => exact am_r_iand hok hsh hc hF
    | ixor => exact am_r_ixor hok hsh hc hF
    | ladd => exact am_r_ladd hok hsh hc hF
    | irem => exact am_r_irem hok hsh hc hF
    | i2l => exact am_r_i2l hok hsh hc hF
    | l2i => exact am_r_l2i hok hsh hc hF
    | dup => exact am_r_dup hok hsh hc hF
    | pop => exact am_r_pop hok hsh hc hF
    | dup2 => exact am_r_dup2 hok hsh hc hF
    | dup_x1 => exact am_r_dup_x1 hok hsh hc hF
    | goto off => exact am_r_goto hok hsh hc hF
    | ifCond cc off => exact am_r_ifCond hok hsh hc hF
    | if_icmp cc off => exact am_r_if_icmp hok hsh hc hF
    | getfield ix => exact am_r_getfield hok hsh hc hF
    | putfield ix => exact am_r_putfield hok hsh hc hF
    | iaload => exact am_r_iaload hok hsh hc hF
    | baload => exact am_r_baload hok hsh hc hF
    | iastore => exact am_r_iastore hok hsh hc hF
    | bastore => exact am_r_bastore hok hsh hc hF
    | arraylength => exact am_r_arraylength hok hsh hc hF
    | ireturn => exact am_r_ireturn hok hsh hc hF
    | return_ => exact am_r_return hok hsh hc hF
    | new ix => exact am_r_new hok hsh hth hc hF
    | tableswitch d lw up offs => exact am_r_tableswitch hok hsh hc hF
    | invokevirtual ix => exact am_r_invokevirtual hok hsh hEX hNS hc hF
    | invokestatic ix => exact am_r_invokestatic hok hsh hEX hNS hc hF
    | _ => exact hF.elim
theorem am_AW.sound {G : am_G} {sh : List am_D} {TS NS : List Cond} {cl : List vw_C} {EX : (Nat → Prop) → State → Heap → Prop} {l : Launch} (hok : am_Ok G TS NS cl) (hsh : am_Sh cl sh) (hEX : am_EX EX) (hNS : ∀ w ∈ NS, ∀ {u U : State}, u.WarmedH U.vm → va_Nw w u → va_Nw w U) (hth : am_TH G TS NS EX l) {c : am_C} {Q : am_Q} (h : am_AW G sh c Q) : am_PW G sh TS NS cl EX l c Q :=
  h _ (am_PW_mono G sh TS NS cl EX l) (am_sound hok hsh hEX hNS hth)
end
section
/-! PURE: partitions by their least members; what closes them; histories of merges. No machine here. sg t: the sign of t, none for an unknown; ar s: parts of a sign; pt t k: part k of t. -/
def pu_Part (n : Nat) (g : Nat → Nat) : Prop := ∀ t, t < n → g t ≤ t ∧ g (g t) = g t
def pu_le (n : Nat) (g g' : Nat → Nat) : Prop := ∀ i j, i < n → j < n → g i = g j → g' i = g' j
theorem pu_Part.lt {n : Nat} {g : Nat → Nat} (h : pu_Part n g) {t : Nat} (ht : t < n) : g t < n := Nat.lt_of_le_of_lt (h t ht).1 ht
theorem pu_eq_of_le {n : Nat} {g g' : Nat → Nat} (h : pu_Part n g) (h' : pu_Part n g') (a : pu_le n g g') (b : pu_le n g' g) : ∀ t, t < n → g t = g' t := by
  intro t ht
  have lt1 := h.lt ht
  have lt2 := h'.lt ht
  have e1 : g' (g t) = g' t := a _ _ lt1 ht (h t ht).2
  have e2 : g (g' t) = g t := b _ _ lt2 ht (h' t ht).2
  have l1 : g' t ≤ g t := by rw [← e1]; exact (h' _ lt1).1
  have l2 : g t ≤ g' t := by rw [← e2]; exact (h _ lt2).1
  omega
def pu_np (sg : Nat → Option Nat) (ar : Nat → Nat) (t : Nat) : Nat := match sg t with
  | none => 0
  | some s => ar s
theorem pu_np_eq {sg : Nat → Option Nat} {ar : Nat → Nat} {i j : Nat} (h : sg i = sg j) : pu_np sg ar i = pu_np sg ar j := by unfold pu_np; rw [h]
def pu_Told (n : Nat) (sg : Nat → Option Nat) (ar : Nat → Nat) (pt : Nat → Nat → Nat) : Prop := ∀ t, t < n → ∀ k, k < pu_np sg ar t → pt t k < t
/-- one sign, parts in one group each -/
def pu_E (sg : Nat → Option Nat) (ar : Nat → Nat) (pt : Nat → Nat → Nat) (g : Nat → Nat) (i j : Nat) : Prop := sg i = sg j ∧ ∀ k, k < pu_np sg ar i → g (pt i k) = g (pt j k)
section PUE
variable {sg : Nat → Option Nat} {ar : Nat → Nat} {pt : Nat → Nat → Nat} {g g' : Nat → Nat} {n : Nat}
theorem pu_E.rfl' {i : Nat} : pu_E sg ar pt g i i := ⟨rfl, fun _ _ => rfl⟩
theorem pu_E.symm {i j : Nat} (h : pu_E sg ar pt g i j) : pu_E sg ar pt g j i := ⟨h.1.symm, fun k hk => (h.2 k (by rw [pu_np_eq h.1]; exact hk)).symm⟩
theorem pu_E.trans {i j k : Nat} (h : pu_E sg ar pt g i j) (h2 : pu_E sg ar pt g j k) : pu_E sg ar pt g i k := ⟨h.1.trans h2.1, fun q hq => (h.2 q hq).trans (h2.2 q (by rw [← pu_np_eq h.1]; exact hq))⟩
theorem pu_E.coarse (hT : pu_Told n sg ar pt) (hle : pu_le n g g') {i j : Nat} (hi : i < n) (hj : j < n) (h : pu_E sg ar pt g i j) : pu_E sg ar pt g' i j :=
  ⟨h.1, fun k hk => hle _ _ (Nat.lt_trans (hT i hi k hk) hi) (Nat.lt_trans (hT j hj k (by rw [← pu_np_eq h.1]; exact hk)) hj) (h.2 k hk)⟩
end PUE
/-- groups have one sign, and parts in one group -/
def pu_U (n : Nat) (sg : Nat → Option Nat) (ar : Nat → Nat) (pt : Nat → Nat → Nat) (g : Nat → Nat) : Prop := ∀ i j, i < n → j < n → sg i ≠ none → sg j ≠ none → g i = g j → pu_E sg ar pt g i j
/-- twins are in one group -/
def pu_Cg (n : Nat) (sg : Nat → Option Nat) (ar : Nat → Nat) (pt : Nat → Nat → Nat) (g : Nat → Nat) : Prop := ∀ i j, i < n → j < n → sg i ≠ none → pu_E sg ar pt g i j → g i = g j
/-- no group lies below itself -/
def pu_A (n : Nat) (sg : Nat → Option Nat) (ar : Nat → Nat) (pt : Nat → Nat → Nat) (g : Nat → Nat) : Prop := ∃ rk : Nat → Nat, ∀ t, t < n → ∀ k, k < pu_np sg ar t → rk (g (pt t k)) < rk (g t)
def pu_Good (n : Nat) (sg : Nat → Option Nat) (ar : Nat → Nat) (pt : Nat → Nat → Nat) (g : Nat → Nat) : Prop := pu_Part n g ∧ pu_U n sg ar pt g ∧ pu_Cg n sg ar pt g ∧ pu_A n sg ar pt g
/-- a closed partition, coarser than g0, that has a and b in one group -/
def pu_Clo (n : Nat) (sg : Nat → Option Nat) (ar : Nat → Nat) (pt : Nat → Nat → Nat) (g0 : Nat → Nat) (a b : Nat) (g : Nat → Nat) : Prop := pu_Part n g ∧ pu_U n sg ar pt g ∧ pu_Cg n sg ar pt g ∧ pu_le n g0 g ∧ g a = g b
/-- the finest one, and no group lies below itself -/
def pu_Res (n : Nat) (sg : Nat → Option Nat) (ar : Nat → Nat) (pt : Nat → Nat → Nat) (g0 : Nat → Nat) (a b : Nat) (g : Nat → Nat) : Prop := pu_Clo n sg ar pt g0 a b g ∧ pu_A n sg ar pt g ∧ ∀ g', pu_Clo n sg ar pt g0 a b g' → pu_le n g g'
theorem pu_Res.unique {n : Nat} {sg : Nat → Option Nat} {ar : Nat → Nat} {pt : Nat → Nat → Nat} {g0 g g' : Nat → Nat} {a b : Nat} (h : pu_Res n sg ar pt g0 a b g) (h' : pu_Res n sg ar pt g0 a b g') : ∀ t, t < n → g t = g' t :=
  pu_eq_of_le h.1.1 h'.1.1 (h.2.2 g' h'.1) (h'.2.2 g h.1)
theorem pu_A.fine {n : Nat} {sg : Nat → Option Nat} {ar : Nat → Nat} {pt : Nat → Nat → Nat} {g g' : Nat → Nat} (hT : pu_Told n sg ar pt) (hg : pu_Part n g) (hle : pu_le n g g') (h : pu_A n sg ar pt g') : pu_A n sg ar pt g := by
  obtain ⟨rk, hrk⟩ := h
  refine ⟨fun x => rk (g' x), fun t ht k hk => ?_⟩
  have hp : pt t k < n := Nat.lt_trans (hT t ht k hk) ht
  have e1 : g' (g (pt t k)) = g' (pt t k) := hle _ _ (hg.lt hp) hp (hg _ hp).2
  have e2 : g' (g t) = g' t := hle _ _ (hg.lt ht) ht (hg _ ht).2
  show rk (g' (g (pt t k))) < rk (g' (g t))
  rw [e1, e2]
  exact hrk t ht k hk
/-! Histories, the latest merge first: (w, l), the group of l has gone to w. -/
def pu_hg : List (Nat × Nat) → Nat → Nat
  | [], t => t
  | q :: hs, t => if pu_hg hs t = q.2 then q.1 else pu_hg hs t
/-- every merge was one of two leaders, the lesser has won -/
def pu_V (n : Nat) : List (Nat × Nat) → Prop
  | [] => True
  | q :: hs => q.1 < q.2 ∧ q.2 < n ∧ pu_hg hs q.1 = q.1 ∧ pu_hg hs q.2 = q.2 ∧ pu_V n hs
/-- the rings: each term's next -/
def pu_hr : List (Nat × Nat) → Nat → Nat
  | [], t => t
  | q :: hs, t => if t = q.1 then pu_hr hs q.2 else if t = q.2 then pu_hr hs q.1 else pu_hr hs t
/-- the shapes -/
def pu_hs (sg : Nat → Option Nat) : List (Nat × Nat) → Nat → Option Nat
  | [], t => if sg t = none then none else some t
  | q :: hs, t => if t = q.1 then (match pu_hs sg hs q.1 with
    | none => pu_hs sg hs q.2
    | some x => some x) else pu_hs sg hs t
/-- a leader's ring, but itself -/
def pu_ht : List (Nat × Nat) → Nat → List Nat
  | [], _ => []
  | q :: hs, a => if a = q.1 then pu_ht hs q.2 ++ q.2 :: pu_ht hs q.1 else pu_ht hs a
theorem pu_hg_part : ∀ {hs : List (Nat × Nat)} {n : Nat}, pu_V n hs → ∀ t, pu_hg hs t ≤ t ∧ pu_hg hs (pu_hg hs t) = pu_hg hs t
  | [], _, _, t => ⟨Nat.le_refl _, rfl⟩
  | q :: hs, n, h, t => by
    obtain ⟨h1, h2, h3, h4, h5⟩ := h
    obtain ⟨i1, i2⟩ := pu_hg_part h5 t
    by_cases e : pu_hg hs t = q.2
    · have ht : pu_hg (q :: hs) t = q.1 := by simp only [pu_hg]; rw [if_pos e]
      rw [ht]
      refine ⟨by omega, ?_⟩
      simp only [pu_hg]
      rw [h3, if_neg (by omega)]
    · have ht : pu_hg (q :: hs) t = pu_hg hs t := by simp only [pu_hg]; rw [if_neg e]
      rw [ht]
      refine ⟨i1, ?_⟩
      simp only [pu_hg]
      rw [i2, if_neg e]
theorem pu_V.part {hs : List (Nat × Nat)} {n : Nat} (h : pu_V n hs) : pu_Part n (pu_hg hs) := fun t _ => pu_hg_part h t
theorem pu_V.mono : ∀ {hs : List (Nat × Nat)} {n n' : Nat}, n ≤ n' → pu_V n hs → pu_V n' hs
  | [], _, _, _, _ => trivial
  | _ :: _, _, _, hn, h => ⟨h.1, Nat.lt_of_lt_of_le h.2.1 hn, h.2.2.1, h.2.2.2.1, pu_V.mono hn h.2.2.2.2⟩
theorem pu_V.drop {n : Nat} : ∀ {hs : List (Nat × Nat)} (k : Nat), pu_V n hs → pu_V n (hs.drop k)
  | [], k, _ => by rw [List.drop_nil]; trivial
  | q :: hs, 0, h => h
  | q :: hs, k + 1, h => pu_V.drop (hs := hs) k h.2.2.2.2
theorem pu_hg_new : ∀ {hs : List (Nat × Nat)} {n : Nat}, pu_V n hs → ∀ t, n ≤ t → pu_hg hs t = t
  | [], _, _, _, _ => rfl
  | q :: hs, n, h, t, ht => by
    have i := pu_hg_new h.2.2.2.2 t ht
    have := h.2.1
    simp only [pu_hg]
    rw [i, if_neg (by omega)]
theorem pu_hr_new : ∀ {hs : List (Nat × Nat)} {n : Nat}, pu_V n hs → ∀ t, n ≤ t → pu_hr hs t = t
  | [], _, _, _, _ => rfl
  | q :: hs, n, h, t, ht => by
    have i := pu_hr_new h.2.2.2.2 t ht
    have h1 := h.1
    have h2 := h.2.1
    simp only [pu_hr]
    rw [if_neg (by omega), if_neg (by omega)]
    exact i
theorem pu_hs_new (sg : Nat → Option Nat) : ∀ {hs : List (Nat × Nat)} {n : Nat}, pu_V n hs → ∀ t, n ≤ t → pu_hs sg hs t = if sg t = none then none else some t
  | [], _, _, _, _ => rfl
  | q :: hs, n, h, t, ht => by
    have i := pu_hs_new sg h.2.2.2.2 t ht
    have h1 := h.1
    have h2 := h.2.1
    simp only [pu_hs]
    rw [if_neg (by omega)]
    exact i
/-- coarser and coarser -/
theorem pu_hg_le {hs : List (Nat × Nat)} {q : Nat × Nat} {i j : Nat} (h : pu_hg hs i = pu_hg hs j) : pu_hg (q :: hs) i = pu_hg (q :: hs) j := by
  simp only [pu_hg, h]
/-- a chain of r from x through L to e -/
def pu_ch (r : Nat → Nat) : Nat → List Nat → Nat → Prop
  | x, [], e => r x = e
  | x, y :: L, e => r x = y ∧ pu_ch r y L e
theorem pu_ch_app {r : Nat → Nat} {z e : Nat} {B : List Nat} : ∀ {x : Nat} {A : List Nat}, pu_ch r x A z → pu_ch r z B e → pu_ch r x (A ++ z :: B) e
  | _, [], h, h2 => ⟨h, h2⟩
  | _, _ :: _, h, h2 => ⟨h.1, pu_ch_app h.2 h2⟩
/-- the first link from elsewhere, the others as they were -/
theorem pu_ch_from {r r' : Nat → Nat} {e : Nat} : ∀ {L : List Nat} {x x' : Nat}, pu_ch r x L e → r' x' = r x → (∀ y ∈ L, r' y = r y) → pu_ch r' x' L e
  | [], _, _, h, h1, _ => h1.trans h
  | y :: L, _, _, h, h1, h2 => ⟨h1.trans h.1, pu_ch_from h.2 (h2 y List.mem_cons_self) (fun z hz => h2 z (List.mem_cons_of_mem _ hz))⟩
/-- a leader's ring: a cycle, each of its members once, just its group -/
theorem pu_ring : ∀ {hs : List (Nat × Nat)} {n : Nat}, pu_V n hs → ∀ a, pu_hg hs a = a → pu_ch (pu_hr hs) a (pu_ht hs a) a ∧ (a :: pu_ht hs a).Nodup ∧ ∀ t, t ∈ a :: pu_ht hs a ↔ pu_hg hs t = a
  | [], _, _, a, _ => ⟨rfl, by simp [pu_ht], fun t => by simp [pu_ht, pu_hg]⟩
  | q :: hs, n, h, a, ha => by
    obtain ⟨w, l⟩ := q
    obtain ⟨h1, h2, h3, h4, h5⟩ := h
    simp only at h1 h2 h3 h4
    obtain ⟨c1, d1, m1⟩ := pu_ring h5 w h3
    obtain ⟨c2, d2, m2⟩ := pu_ring h5 l h4
    have hga : pu_hg hs a ≠ l := by
      intro e
      simp only [pu_hg, e, if_true] at ha
      subst ha
      omega
    have hga2 : pu_hg hs a = a := by
      simp only [pu_hg, if_neg hga] at ha
      exact ha
    have old : ∀ y, y ≠ w → y ≠ l → pu_hr ((w, l) :: hs) y = pu_hr hs y := fun y y1 y2 => by simp only [pu_hr, if_neg y1, if_neg y2]
    have inW : ∀ y, y ∈ pu_ht hs w → y ≠ w ∧ y ≠ l := fun y hy => by
      refine ⟨fun e => (List.nodup_cons.mp d1).1 (e ▸ hy), fun e => ?_⟩
      have := (m1 y).mp (List.mem_cons_of_mem _ hy)
      rw [e, h4] at this
      omega
    have inL : ∀ y, y ∈ pu_ht hs l → y ≠ w ∧ y ≠ l := fun y hy => by
      refine ⟨fun e => ?_, fun e => (List.nodup_cons.mp d2).1 (e ▸ hy)⟩
      have := (m2 y).mp (List.mem_cons_of_mem _ hy)
      rw [e, h3] at this
      omega
    by_cases haw : a = w
    · subst haw
      have hT : pu_ht ((a, l) :: hs) a = pu_ht hs l ++ l :: pu_ht hs a := by simp only [pu_ht, if_true]
      rw [hT]
      refine ⟨?_, ?_, fun t => ?_⟩
      · refine pu_ch_app (pu_ch_from c2 (by simp only [pu_hr, if_true]) (fun y hy => old y (inL y hy).1 (inL y hy).2)) (pu_ch_from c1 (by simp only [pu_hr]; rw [if_neg (by omega), if_pos trivial]) (fun y hy => old y (inW y hy).1 (inW y hy).2))
      · rw [List.nodup_cons, List.nodup_append]
        have n1 := List.nodup_cons.mp d1
        have n2 := List.nodup_cons.mp d2
        refine ⟨?_, n2.2, ?_, ?_⟩
        · rw [List.mem_append, List.mem_cons]
          rintro (z | z | z)
          · exact (inL a z).1 rfl
          · omega
          · exact n1.1 z
        · rw [List.nodup_cons]
          exact ⟨fun z => (inW l z).2 rfl, n1.2⟩
        · intro x hx y hy e
          subst e
          rcases List.mem_cons.mp hy with z | z
          · exact (inL x hx).2 z
          · have e1 := (m2 x).mp (List.mem_cons_of_mem _ hx)
            have e2 := (m1 x).mp (List.mem_cons_of_mem _ z)
            omega
      · have k1 := m1 t
        have k2 := m2 t
        simp only [List.mem_cons] at k1 k2
        simp only [List.mem_cons, List.mem_append, pu_hg]
        by_cases e : pu_hg hs t = l
        · rw [if_pos e]
          have := k2.mpr e
          constructor
          · intro _; rfl
          · intro _
            rcases this with z | z
            · exact Or.inr (Or.inr (Or.inl z))
            · exact Or.inr (Or.inl z)
        · rw [if_neg e]
          have ne := fun z => e (k2.mp z)
          constructor
          · rintro (z | z | z | z)
            · exact k1.mp (Or.inl z)
            · exact absurd (Or.inr z) ne
            · exact absurd (Or.inl z) ne
            · exact k1.mp (Or.inr z)
          · intro z
            rcases k1.mpr z with y | y
            · exact Or.inl y
            · exact Or.inr (Or.inr (Or.inr y))
    · have hal : a ≠ l := fun e => hga (by rw [hga2, e])
      obtain ⟨c3, d3, m3⟩ := pu_ring h5 a hga2
      have hT : pu_ht ((w, l) :: hs) a = pu_ht hs a := by simp only [pu_ht, if_neg haw]
      rw [hT]
      have inA : ∀ y, y ∈ pu_ht hs a → y ≠ w ∧ y ≠ l := fun y hy => by
        have e := (m3 y).mp (List.mem_cons_of_mem _ hy)
        refine ⟨fun z => haw ?_, fun z => hal ?_⟩
        · rw [z, h3] at e; exact e.symm
        · rw [z, h4] at e; exact e.symm
      refine ⟨pu_ch_from c3 (old a haw hal) (fun y hy => old y (inA y hy).1 (inA y hy).2), d3, fun t => ?_⟩
      rw [m3 t]
      simp only [pu_hg]
      by_cases e : pu_hg hs t = l
      · rw [if_pos e, e]
        exact ⟨fun z => absurd z.symm hal, fun z => absurd z.symm haw⟩
      · rw [if_neg e]
/-- a leader's shape: a term with a sign of its group; none only if it has none -/
theorem pu_shape (sg : Nat → Option Nat) : ∀ {hs : List (Nat × Nat)} {n : Nat}, pu_V n hs → ∀ a, pu_hg hs a = a → (∀ x, pu_hs sg hs a = some x → pu_hg hs x = a ∧ sg x ≠ none) ∧ (pu_hs sg hs a = none → ∀ t, pu_hg hs t = a → sg t = none)
  | [], _, _, a, _ => by
    refine ⟨fun x hx => ?_, fun hn t ht => ?_⟩
    · simp only [pu_hs] at hx
      by_cases e : sg a = none
      · rw [if_pos e] at hx; cases hx
      · rw [if_neg e] at hx
        cases hx
        exact ⟨rfl, e⟩
    · simp only [pu_hg] at ht
      subst ht
      simp only [pu_hs] at hn
      by_cases e : sg t = none
      · exact e
      · rw [if_neg e] at hn; cases hn
  | q :: hs, n, h, a, ha => by
    obtain ⟨w, l⟩ := q
    obtain ⟨h1, h2, h3, h4, h5⟩ := h
    simp only at h1 h2 h3 h4
    obtain ⟨sw, nw⟩ := pu_shape sg h5 w h3
    obtain ⟨sl, nl⟩ := pu_shape sg h5 l h4
    have hga : pu_hg hs a ≠ l := by
      intro e
      simp only [pu_hg, e, if_true] at ha
      subst ha
      omega
    have hga2 : pu_hg hs a = a := by
      simp only [pu_hg, if_neg hga] at ha
      exact ha
    by_cases haw : a = w
    · subst haw
      refine ⟨fun x hx => ?_, fun hn t ht => ?_⟩
      · simp only [pu_hs, if_true] at hx
        cases hsw : pu_hs sg hs a with
        | none =>
          rw [hsw] at hx
          obtain ⟨e1, e2⟩ := sl x hx
          refine ⟨?_, e2⟩
          simp only [pu_hg, e1, if_true]
        | some y =>
          rw [hsw] at hx
          cases hx
          obtain ⟨e1, e2⟩ := sw x hsw
          refine ⟨?_, e2⟩
          simp only [pu_hg, e1]
          rw [if_neg (by omega)]
      · simp only [pu_hs, if_true] at hn
        cases hsw : pu_hs sg hs a with
        | some y => rw [hsw] at hn; cases hn
        | none =>
          rw [hsw] at hn
          simp only [pu_hg] at ht
          by_cases e : pu_hg hs t = l
          · exact nl hn t e
          · rw [if_neg e] at ht
            exact nw hsw t ht
    · have hal : a ≠ l := fun e => hga (by rw [hga2, e])
      obtain ⟨sa, na⟩ := pu_shape sg h5 a hga2
      refine ⟨fun x hx => ?_, fun hn t ht => ?_⟩
      · simp only [pu_hs, if_neg haw] at hx
        obtain ⟨e1, e2⟩ := sa x hx
        refine ⟨?_, e2⟩
        simp only [pu_hg, e1]
        rw [if_neg hal]
      · simp only [pu_hs, if_neg haw] at hn
        simp only [pu_hg] at ht
        by_cases e : pu_hg hs t = l
        · rw [if_pos e] at ht
          exact absurd ht.symm haw
        · rw [if_neg e] at ht
          exact na hn t ht
end
section
/-! PURE: joins, and how the parts of what was joined are settled. -/
def pu_jn (hs : List (Nat × Nat)) (a b : Nat) : List (Nat × Nat) := if pu_hg hs a = pu_hg hs b then hs else if pu_hg hs a < pu_hg hs b then (pu_hg hs a, pu_hg hs b) :: hs else (pu_hg hs b, pu_hg hs a) :: hs
theorem pu_jn_V {n : Nat} {hs : List (Nat × Nat)} {a b : Nat} (h : pu_V n hs) (ha : a < n) (hb : b < n) : pu_V n (pu_jn hs a b) := by
  unfold pu_jn
  have pa := pu_hg_part h a
  have pb := pu_hg_part h b
  by_cases e : pu_hg hs a = pu_hg hs b
  · rw [if_pos e]; exact h
  · rw [if_neg e]
    by_cases l : pu_hg hs a < pu_hg hs b
    · rw [if_pos l]; exact ⟨l, by show pu_hg hs b < n; omega, pa.2, pb.2, h⟩
    · rw [if_neg l]; exact ⟨by show pu_hg hs b < pu_hg hs a; omega, by show pu_hg hs a < n; omega, pb.2, pa.2, h⟩
theorem pu_jn_eq {n : Nat} {hs : List (Nat × Nat)} (h : pu_V n hs) (a b : Nat) : pu_hg (pu_jn hs a b) a = pu_hg (pu_jn hs a b) b := by
  unfold pu_jn
  by_cases e : pu_hg hs a = pu_hg hs b
  · rw [if_pos e]; exact e
  · rw [if_neg e]
    by_cases l : pu_hg hs a < pu_hg hs b
    · rw [if_pos l]
      simp only [pu_hg, if_true]
      rw [if_neg e]
    · rw [if_neg l]
      simp only [pu_hg, if_true]
      rw [if_neg (fun z => e z.symm)]
theorem pu_jn_le {hs : List (Nat × Nat)} {a b i j : Nat} (h : pu_hg hs i = pu_hg hs j) : pu_hg (pu_jn hs a b) i = pu_hg (pu_jn hs a b) j := by
  unfold pu_jn
  split
  · exact h
  · split <;> exact pu_hg_le h
/-- a join goes no further than it must -/
theorem pu_jn_min {n : Nat} {hs : List (Nat × Nat)} (h : pu_V n hs) {g' : Nat → Nat} (hle : pu_le n (pu_hg hs) g') {a b : Nat} (ha : a < n) (hb : b < n) (e : g' a = g' b) : pu_le n (pu_hg (pu_jn hs a b)) g' := by
  have hP := h.part
  have ga : g' (pu_hg hs a) = g' a := hle _ _ (hP.lt ha) ha (hP a ha).2
  have gb : g' (pu_hg hs b) = g' b := hle _ _ (hP.lt hb) hb (hP b hb).2
  have key : ∀ w l : Nat, w < n → l < n → pu_hg hs w = w → pu_hg hs l = l → g' w = g' l → pu_le n (pu_hg ((w, l) :: hs)) g' := by
    intro w l hw hl ew el ewl i j hi hj hij
    have gi : g' (pu_hg hs i) = g' i := hle _ _ (hP.lt hi) hi (hP i hi).2
    have gj : g' (pu_hg hs j) = g' j := hle _ _ (hP.lt hj) hj (hP j hj).2
    simp only [pu_hg] at hij
    by_cases ei : pu_hg hs i = l <;> by_cases ej : pu_hg hs j = l
    · exact hle i j hi hj (ei.trans ej.symm)
    · rw [if_pos ei, if_neg ej] at hij
      rw [← gi, ← gj, ei, ← hij, ewl]
    · rw [if_neg ei, if_pos ej] at hij
      rw [← gi, ← gj, ej, hij, ewl]
    · rw [if_neg ei, if_neg ej] at hij
      exact hle i j hi hj hij
  unfold pu_jn
  by_cases e0 : pu_hg hs a = pu_hg hs b
  · rw [if_pos e0]; exact hle
  · rw [if_neg e0]
    by_cases l : pu_hg hs a < pu_hg hs b
    · rw [if_pos l]
      exact key _ _ (hP.lt ha) (hP.lt hb) (hP a ha).2 (hP b hb).2 (by rw [ga, gb, e])
    · rw [if_neg l]
      exact key _ _ (hP.lt hb) (hP.lt ha) (hP b hb).2 (hP a ha).2 (by rw [ga, gb, e])
/-- a shape, kept or not, is of the group -/
theorem pu_shape_of (sg : Nat → Option Nat) : ∀ {hs : List (Nat × Nat)} {n : Nat}, pu_V n hs → ∀ t x, pu_hs sg hs t = some x → pu_hg hs x = pu_hg hs t ∧ sg x ≠ none
  | [], _, _, t, x, hx => by
    simp only [pu_hs] at hx
    by_cases e : sg t = none
    · rw [if_pos e] at hx; cases hx
    · rw [if_neg e] at hx
      cases hx
      exact ⟨rfl, e⟩
  | q :: hs, n, h, t, x, hx => by
    obtain ⟨w, l⟩ := q
    obtain ⟨h1, h2, h3, h4, h5⟩ := h
    simp only at h1 h2 h3 h4
    simp only [pu_hs] at hx
    by_cases e : t = w
    · subst e
      rw [if_pos rfl] at hx
      cases hsw : pu_hs sg hs t with
      | none =>
        rw [hsw] at hx
        obtain ⟨e1, e2⟩ := pu_shape_of sg h5 l x hx
        refine ⟨?_, e2⟩
        simp only [pu_hg, e1, h4, h3, if_true]
        rw [if_neg (by omega)]
      | some y =>
        rw [hsw] at hx
        cases hx
        obtain ⟨e1, e2⟩ := pu_shape_of sg h5 t x hsw
        exact ⟨pu_hg_le e1, e2⟩
    · rw [if_neg e] at hx
      obtain ⟨e1, e2⟩ := pu_shape_of sg h5 t x hx
      exact ⟨pu_hg_le e1, e2⟩
/-- who has lost leads no more -/
theorem pu_lost : ∀ {hs : List (Nat × Nat)} {n : Nat}, pu_V n hs → ∀ q ∈ hs, pu_hg hs q.2 < q.2
  | [], _, _, q, hq => by cases hq
  | p :: hs, n, h, q, hq => by
    obtain ⟨h1, h2, h3, h4, h5⟩ := h
    rcases List.mem_cons.mp hq with e | hq
    · subst e
      simp only [pu_hg, h4, if_true]
      exact h1
    · have i := pu_lost h5 q hq
      simp only [pu_hg]
      by_cases e : pu_hg hs q.2 = p.2
      · rw [if_pos e]; omega
      · rw [if_neg e]; exact i
/-- what becomes of a term with a sign: it matches its group's shape, or that of a merge still to be looked at (from i on) -/
def pu_Lk (sg : Nat → Option Nat) (ar : Nat → Nat) (pt : Nat → Nat → Nat) (i : Nat) (hs : List (Nat × Nat)) (u : Nat) : Prop :=
  (∃ c, pu_hs sg hs (pu_hg hs u) = some c ∧ pu_E sg ar pt (pu_hg hs) u c) ∨
  ∃ (j : Nat) (q : Nat × Nat) (x : Nat), i ≤ j ∧ hs.reverse[j]? = some q ∧ pu_hs sg hs q.2 = some x ∧ pu_hg hs x = pu_hg hs u ∧ pu_E sg ar pt (pu_hg hs) u x
section PUS
variable {sg : Nat → Option Nat} {ar : Nat → Nat} {pt : Nat → Nat → Nat} {n : Nat}
theorem pu_shape_lt {hs : List (Nat × Nat)} (h : pu_V n hs) {t x : Nat} (ht : t < n) (hx : pu_hs sg hs t = some x) : x < n := by
  have e := (pu_shape_of sg h t x hx).1
  apply Nat.lt_of_not_le
  intro hn
  have h1 := pu_hg_new h x hn
  have h2 := (pu_hg_part h t).1
  omega
theorem pu_Lk_push (hT : pu_Told n sg ar pt) {hs : List (Nat × Nat)} {q : Nat × Nat} (h : pu_V n (q :: hs)) {i u : Nat} (hu : u < n) (hi : i ≤ hs.length) (hk : pu_Lk sg ar pt i hs u) : pu_Lk sg ar pt i (q :: hs) u := by
  obtain ⟨w, l⟩ := q
  obtain ⟨h1, h2, h3, h4, h5⟩ := id h
  simp only at h1 h2 h3 h4
  have hle : pu_le n (pu_hg hs) (pu_hg ((w, l) :: hs)) := fun i j _ _ e => pu_hg_le e
  have hgu : pu_hg hs u < n := h5.part.lt hu
  rcases hk with ⟨c, hc, hE⟩ | ⟨j, q, x, hj, hq, hx, hgx, hE⟩
  · have hcn : c < n := pu_shape_lt h5 hgu hc
    have hE' := hE.coarse hT hle hu hcn
    have hcg := (pu_shape_of sg h5 _ c hc).1
    rw [(pu_hg_part h5 u).2] at hcg
    by_cases e : pu_hg hs u = l
    · right
      refine ⟨hs.length, (w, l), c, hi, ?_, ?_, pu_hg_le hcg, hE'⟩
      · rw [List.reverse_cons, List.getElem?_append_right (by simp)]
        simp
      · simp only [pu_hs]
        rw [if_neg (by omega), ← e]
        exact hc
    · left
      refine ⟨c, ?_, hE'⟩
      have hgu' : pu_hg ((w, l) :: hs) u = pu_hg hs u := by simp only [pu_hg]; rw [if_neg e]
      rw [hgu']
      simp only [pu_hs]
      by_cases e2 : pu_hg hs u = w
      · rw [if_pos e2, ← e2, hc]
      · rw [if_neg e2]; exact hc
  · right
    have hxn : x < n := by
      apply Nat.lt_of_not_le
      intro hn
      have k1 := pu_hg_new h5 x hn
      omega
    refine ⟨j, q, x, hj, ?_, ?_, pu_hg_le hgx, hE.coarse hT hle hu hxn⟩
    · rw [List.reverse_cons, List.getElem?_append_left (List.getElem?_eq_some_iff.mp hq).1]
      exact hq
    · simp only [pu_hs]
      have hm : q ∈ hs := List.mem_reverse.mp (List.mem_of_getElem? hq)
      have hlt := pu_lost h5 q hm
      rw [if_neg]
      · exact hx
      · intro e
        rw [e, h3] at hlt
        omega
theorem pu_Lk_jn (hT : pu_Told n sg ar pt) {hs : List (Nat × Nat)} {a b : Nat} (h : pu_V n hs) (ha : a < n) (hb : b < n) {i u : Nat} (hu : u < n) (hi : i ≤ hs.length) (hk : pu_Lk sg ar pt i hs u) : pu_Lk sg ar pt i (pu_jn hs a b) u := by
  have hV := pu_jn_V h ha hb
  unfold pu_jn at hV ⊢
  split at hV
  · rename_i e; rw [if_pos e]; exact hk
  · rename_i e
    rw [if_neg e]
    split at hV
    · rename_i e2; rw [if_pos e2]; exact pu_Lk_push hT hV hu hi hk
    · rename_i e2; rw [if_neg e2]; exact pu_Lk_push hT hV hu hi hk
theorem pu_jn_len {hs : List (Nat × Nat)} {a b : Nat} : hs.length ≤ (pu_jn hs a b).length := by
  unfold pu_jn
  split
  · exact Nat.le_refl _
  · split <;> simp
theorem pu_jn_suf {hs : List (Nat × Nat)} {a b : Nat} : ∃ ns, pu_jn hs a b = ns ++ hs := by
  unfold pu_jn
  split
  · exact ⟨[], rfl⟩
  · split
    · exact ⟨[_], rfl⟩
    · exact ⟨[_], rfl⟩
/-- the state of settling, with the merges up to i looked at -/
def pu_SI (n : Nat) (sg : Nat → Option Nat) (ar : Nat → Nat) (pt : Nat → Nat → Nat) (hs0 : List (Nat × Nat)) (a b i : Nat) (hs : List (Nat × Nat)) : Prop :=
  pu_V n hs ∧ (∃ ns, hs = ns ++ hs0) ∧ i ≤ hs.length ∧ hs0.length ≤ i ∧ (∀ u, u < n → sg u ≠ none → pu_Lk sg ar pt i hs u) ∧
  (∀ g', pu_Part n g' → pu_U n sg ar pt g' → pu_le n (pu_hg hs0) g' → g' a = g' b → pu_le n (pu_hg hs) g') ∧ pu_hg hs a = pu_hg hs b
theorem pu_SI_0 (hT : pu_Told n sg ar pt) {hs0 : List (Nat × Nat)} (h : pu_V n hs0) (hU : pu_U n sg ar pt (pu_hg hs0)) {a b : Nat} (ha : a < n) (hb : b < n) : pu_SI n sg ar pt hs0 a b hs0.length (pu_jn hs0 a b) := by
  refine ⟨pu_jn_V h ha hb, pu_jn_suf, pu_jn_len, Nat.le_refl _, fun u hu hsu => ?_, fun g' _ _ hle e => pu_jn_min h hle ha hb e, pu_jn_eq h a b⟩
  refine pu_Lk_jn hT h ha hb hu (Nat.le_refl _) (Or.inl ?_)
  have hl := (pu_hg_part h u).2
  obtain ⟨s1, s2⟩ := pu_shape sg h (pu_hg hs0 u) hl
  cases hc : pu_hs sg hs0 (pu_hg hs0 u) with
  | none => exact absurd (s2 hc u rfl) hsu
  | some c =>
    obtain ⟨e1, e2⟩ := s1 c hc
    exact ⟨c, rfl, hU u c hu (pu_shape_lt h (h.part.lt hu) hc) hsu e2 e1.symm⟩
theorem pu_SI_end {hs0 hs : List (Nat × Nat)} {a b : Nat} (h : pu_SI n sg ar pt hs0 a b hs.length hs) : pu_U n sg ar pt (pu_hg hs) := by
  obtain ⟨hV, -, -, -, hL, -⟩ := h
  have key : ∀ u, u < n → sg u ≠ none → ∃ c, pu_hs sg hs (pu_hg hs u) = some c ∧ pu_E sg ar pt (pu_hg hs) u c := by
    intro u hu hsu
    rcases hL u hu hsu with h1 | ⟨j, q, x, hj, hq, -⟩
    · exact h1
    · exfalso
      have := (List.getElem?_eq_some_iff.mp hq).1
      rw [List.length_reverse] at this
      omega
  intro i j hi hj hsi hsj e
  obtain ⟨c, hc, hE⟩ := key i hi hsi
  obtain ⟨d, hd, hE2⟩ := key j hj hsj
  rw [e, hd] at hc
  cases hc
  exact hE.trans hE2.symm
/-- a merge that has nothing to match -/
theorem pu_SI_skip {hs0 hs : List (Nat × Nat)} {a b i : Nat} (h : pu_SI n sg ar pt hs0 a b i hs) {q : Nat × Nat} (hq : hs.reverse[i]? = some q) (hz : pu_hs sg hs q.2 = none ∨ pu_hs sg hs q.2 = pu_hs sg hs (pu_hg hs q.2)) : pu_SI n sg ar pt hs0 a b (i + 1) hs := by
  obtain ⟨hV, hns, hi, h0, hL, hm, hab⟩ := h
  have hil : i < hs.length := by
    have := (List.getElem?_eq_some_iff.mp hq).1
    rwa [List.length_reverse] at this
  refine ⟨hV, hns, hil, by omega, fun u hu hsu => ?_, hm, hab⟩
  rcases hL u hu hsu with h1 | ⟨j, q', x, hj, hq', hx, hgx, hE⟩
  · exact Or.inl h1
  · by_cases e : j = i
    · subst e
      rw [hq] at hq'
      cases hq'
      rcases hz with hz | hz
      · rw [hz] at hx; cases hx
      · left
        refine ⟨x, ?_, hE⟩
        rw [← hgx, (pu_shape_of sg hV _ x hx).1, ← hz]
        exact hx
    · exact Or.inr ⟨j, q', x, by omega, hq', hx, hgx, hE⟩
/-- the shape of a loser's group is there, if the loser had one -/
theorem pu_common {hs : List (Nat × Nat)} (hV : pu_V n hs) {l x : Nat} (hx : pu_hs sg hs l = some x) : ∃ c, pu_hs sg hs (pu_hg hs l) = some c ∧ pu_hg hs c = pu_hg hs x ∧ sg c ≠ none := by
  obtain ⟨e1, e2⟩ := pu_shape_of sg hV l x hx
  obtain ⟨s1, s2⟩ := pu_shape sg hV (pu_hg hs l) (pu_hg_part hV l).2
  cases hc : pu_hs sg hs (pu_hg hs l) with
  | none => exact absurd (s2 hc x e1) e2
  | some c => exact ⟨c, rfl, (s1 c hc).1.trans e1.symm, (s1 c hc).2⟩
/-- the joins of the parts, one by one -/
def pu_jp (pt : Nat → Nat → Nat) (x c : Nat) : Nat → List (Nat × Nat) → List (Nat × Nat)
  | 0, hs => hs
  | k + 1, hs => pu_jn (pu_jp pt x c k hs) (pt x k) (pt c k)
theorem pu_jp_all (hT : pu_Told n sg ar pt) {hs : List (Nat × Nat)} (hV : pu_V n hs) {x c : Nat} (hx : x < n) (hc : c < n) (hs2 : sg x = sg c) : ∀ k, k ≤ pu_np sg ar x →
    pu_V n (pu_jp pt x c k hs) ∧ (∃ ns, pu_jp pt x c k hs = ns ++ hs) ∧ hs.length ≤ (pu_jp pt x c k hs).length ∧ (∀ i u, u < n → i ≤ hs.length → pu_Lk sg ar pt i hs u → pu_Lk sg ar pt i (pu_jp pt x c k hs) u) ∧ (∀ i j, pu_hg hs i = pu_hg hs j → pu_hg (pu_jp pt x c k hs) i = pu_hg (pu_jp pt x c k hs) j) ∧
    (∀ j, j < k → pu_hg (pu_jp pt x c k hs) (pt x j) = pu_hg (pu_jp pt x c k hs) (pt c j)) ∧ ∀ g', pu_Part n g' → pu_U n sg ar pt g' → pu_le n (pu_hg hs) g' → pu_E sg ar pt g' x c → pu_le n (pu_hg (pu_jp pt x c k hs)) g'
  | 0, _ => ⟨hV, ⟨[], rfl⟩, Nat.le_refl _, fun _ _ _ _ h => h, fun _ _ h => h, fun j hj => by omega, fun _ _ _ h _ => h⟩
  | k + 1, hk => by
    obtain ⟨v1, ⟨ns, v2⟩, v3, v4, v5, v6, v7⟩ := pu_jp_all hT hV hx hc hs2 k (by omega)
    have p1 : pt x k < n := Nat.lt_trans (hT x hx k (by omega)) hx
    have p2 : pt c k < n := Nat.lt_trans (hT c hc k (by rw [← pu_np_eq hs2]; omega)) hc
    simp only [pu_jp]
    refine ⟨pu_jn_V v1 p1 p2, ?_, Nat.le_trans v3 pu_jn_len, fun i u hu hi h => pu_Lk_jn hT v1 p1 p2 hu (Nat.le_trans hi v3) (v4 i u hu hi h), fun i j h => pu_jn_le (v5 i j h), fun j hj => ?_, fun g' q1 q2 q3 q4 => pu_jn_min v1 (v7 g' q1 q2 q3 q4) p1 p2 (q4.2 k (by omega))⟩
    · obtain ⟨m, hm⟩ := pu_jn_suf (hs := pu_jp pt x c k hs) (a := pt x k) (b := pt c k)
      exact ⟨m ++ ns, by rw [hm]; conv => lhs; rw [v2]
                         rw [List.append_assoc]⟩
    · by_cases e : j = k
      · subst e; exact pu_jn_eq v1 _ _
      · exact pu_jn_le (v6 j (by omega))
theorem pu_SI_step (hT : pu_Told n sg ar pt) {hs0 hs : List (Nat × Nat)} {a b i : Nat} (h : pu_SI n sg ar pt hs0 a b i hs) {q : Nat × Nat} (hq : hs.reverse[i]? = some q) {x c : Nat} (hx : pu_hs sg hs q.2 = some x) (hc : pu_hs sg hs (pu_hg hs q.2) = some c) (hs2 : sg x = sg c) : pu_SI n sg ar pt hs0 a b (i + 1) (pu_jp pt x c (pu_np sg ar x) hs) := by
  obtain ⟨hV, ⟨ns, hns⟩, hi, h0, hL, hm, hab⟩ := h
  have hil : i < hs.length := by
    have := (List.getElem?_eq_some_iff.mp hq).1
    rwa [List.length_reverse] at this
  have hqn : q.2 < n := by
    have key : ∀ {hs : List (Nat × Nat)}, pu_V n hs → ∀ q ∈ hs, q.2 < n := by
      intro hs
      induction hs with
      | nil => intro _ q hq; cases hq
      | cons p hs ih =>
        intro h q hq
        rcases List.mem_cons.mp hq with e | hq
        · subst e; exact h.2.1
        · exact ih h.2.2.2.2 q hq
    exact key hV q (List.mem_reverse.mp (List.mem_of_getElem? hq))
  have hxn := pu_shape_lt hV hqn hx
  have hcn := pu_shape_lt hV (hV.part.lt hqn) hc
  obtain ⟨ex, sx⟩ := pu_shape_of sg hV _ x hx
  obtain ⟨ec, sc⟩ := pu_shape_of sg hV _ c hc
  rw [(pu_hg_part hV q.2).2] at ec
  obtain ⟨v1, ⟨ms, v2⟩, v3, v4, v5, v6, v7⟩ := pu_jp_all hT hV hxn hcn hs2 (pu_np sg ar x) (Nat.le_refl _)
  have hxc : pu_E sg ar pt (pu_hg (pu_jp pt x c (pu_np sg ar x) hs)) x c := ⟨hs2, v6⟩
  refine ⟨v1, ⟨ms ++ ns, by rw [v2, hns, List.append_assoc]⟩, by omega, by omega, fun u hu hsu => ?_, fun g' q1 q2 q3 q4 => ?_, v5 _ _ hab⟩
  · have hlc : pu_Lk sg ar pt (i + 1) hs c := Or.inl ⟨c, by rw [ec]; exact hc, pu_E.rfl'⟩
    have hlc' := v4 (i + 1) c hcn hil hlc
    rcases v4 i u hu hi (hL u hu hsu) with h1 | ⟨j, q', y, hj, hq', hy, hgy, hE⟩
    · exact Or.inl h1
    · by_cases e : j = i
      · have hq2 : (pu_jp pt x c (pu_np sg ar x) hs).reverse[i]? = some q := by
          rw [v2, List.reverse_append, List.getElem?_append_left (List.getElem?_eq_some_iff.mp hq).1]
          exact hq
        subst e
        rw [hq2] at hq'
        cases hq'
        have hyx : y = x := by
          have keep : ∀ (hs : List (Nat × Nat)) (ms : List (Nat × Nat)), pu_V n (ms ++ hs) → q ∈ hs → pu_hs sg (ms ++ hs) q.2 = pu_hs sg hs q.2 := by
            intro hs ms
            induction ms with
            | nil => intro _ _; rfl
            | cons p ms ih =>
              intro hv hm
              have hv2 : pu_V n (ms ++ hs) := hv.2.2.2.2
              have hlt := pu_lost hv2 q (List.mem_append_right _ hm)
              have hp : pu_hg (ms ++ hs) p.1 = p.1 := hv.2.2.1
              show pu_hs sg (p :: (ms ++ hs)) q.2 = _
              simp only [pu_hs]
              rw [if_neg]
              · exact ih hv2 hm
              · intro e
                rw [e, hp] at hlt
                omega
          have := keep hs ms (by rw [← v2]; exact v1) (List.mem_reverse.mp (List.mem_of_getElem? hq))
          rw [← v2, hx] at this
          rw [this] at hy
          exact (Option.some.inj hy).symm
        subst hyx
        have huc : pu_E sg ar pt (pu_hg (pu_jp pt y c (pu_np sg ar y) hs)) u c := hE.trans hxc
        have hgc : pu_hg (pu_jp pt y c (pu_np sg ar y) hs) c = pu_hg (pu_jp pt y c (pu_np sg ar y) hs) u := by
          rw [← hgy]
          exact v5 _ _ (ec.trans ex.symm)
        rcases hlc' with ⟨d, hd, hE2⟩ | ⟨j2, q2, y2, hj2, hq2', hy2, hgy2, hE2⟩
        · left
          exact ⟨d, by rw [← hgc]; exact hd, huc.trans hE2⟩
        · right
          exact ⟨j2, q2, y2, hj2, hq2', hy2, hgy2.trans hgc, huc.trans hE2⟩
      · exact Or.inr ⟨j, q', y, by omega, hq', hy, hgy, hE⟩
  · have hle := hm g' q1 q2 q3 q4
    exact v7 g' q1 q2 hle (q2 x c hxn hcn sx sc (hle x c hxn hcn (ex.trans ec.symm)))
/-- two signs clash: nothing holds it -/
theorem pu_SI_clash {hs0 hs : List (Nat × Nat)} {a b i : Nat} (h : pu_SI n sg ar pt hs0 a b i hs) {l x c : Nat} (hl : l < n) (hx : pu_hs sg hs l = some x) (hc : pu_hs sg hs (pu_hg hs l) = some c) (hne : sg x ≠ sg c) (g' : Nat → Nat) (hg : pu_Clo n sg ar pt (pu_hg hs0) a b g') : False := by
  obtain ⟨hV, -, -, -, -, hm, -⟩ := h
  have hxn := pu_shape_lt hV hl hx
  have hcn := pu_shape_lt hV (hV.part.lt hl) hc
  obtain ⟨ex, sx⟩ := pu_shape_of sg hV _ x hx
  obtain ⟨ec, sc⟩ := pu_shape_of sg hV _ c hc
  rw [(pu_hg_part hV l).2] at ec
  have hle := hm g' hg.1 hg.2.1 hg.2.2.2.1 hg.2.2.2.2
  exact hne (hg.2.1 x c hxn hcn sx sc (hle x c hxn hcn (ex.trans ec.symm))).1
end PUS
end
