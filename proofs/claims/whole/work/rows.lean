section
-- ===== PART A: goes FIRST, ahead of the names: the tables' words, and 'selects' of the private methods out of them =====
/-- a private method of a class that the tables say can be made, by its rows of tables_1 -/
def lw_okq (q : MethodName × Nat) : Prop := (q.1.cls ≠ "java/lang/invoke/MethodHandle" ∧ q.1.cls ≠ "java/lang/invoke/VarHandle") ∧ Cond.instantiable q.1.cls q.2 ∈ tables_1 ∧ Cond.privateMethod q.1 ∈ tables_1 ∧ Cond.instanceMethod q.1 ∈ tables_1
theorem lw_p0 : lw_okq (⟨"java/lang/Throwable", "fillInStackTrace", "(I)Ljava/lang/Throwable;"⟩, 6) := ⟨⟨by decide +kernel, by decide +kernel⟩, List.mem_of_getElem? (i := 215) (by decide +kernel), List.mem_of_getElem? (i := 213) (by decide +kernel), List.mem_of_getElem? (i := 214) (by decide +kernel)⟩
theorem lw_p1 : lw_okq (⟨"TermNet", "refuseWhenFull", "()V"⟩, 9) := ⟨⟨by decide +kernel, by decide +kernel⟩, List.mem_of_getElem? (i := 16) (by decide +kernel), List.mem_of_getElem? (i := 272) (by decide +kernel), List.mem_of_getElem? (i := 273) (by decide +kernel)⟩
theorem lw_p2 : lw_okq (⟨"TermNet$Groups", "leadRing", "(II)V"⟩, 6) := ⟨⟨by decide +kernel, by decide +kernel⟩, List.mem_of_getElem? (i := 53) (by decide +kernel), List.mem_of_getElem? (i := 331) (by decide +kernel), List.mem_of_getElem? (i := 332) (by decide +kernel)⟩
theorem lw_p3 : lw_okq (⟨"TermNet$Groups", "swapLinks", "(II)V"⟩, 6) := ⟨⟨by decide +kernel, by decide +kernel⟩, List.mem_of_getElem? (i := 53) (by decide +kernel), List.mem_of_getElem? (i := 335) (by decide +kernel), List.mem_of_getElem? (i := 336) (by decide +kernel)⟩
theorem lw_p4 : lw_okq (⟨"TermNet", "refuseUnlessTerm", "(I)V"⟩, 9) := ⟨⟨by decide +kernel, by decide +kernel⟩, List.mem_of_getElem? (i := 16) (by decide +kernel), List.mem_of_getElem? (i := 346) (by decide +kernel), List.mem_of_getElem? (i := 347) (by decide +kernel)⟩
theorem lw_p5 : lw_okq (⟨"TermNet$Groups", "joinParts", "(I)Z"⟩, 6) := ⟨⟨by decide +kernel, by decide +kernel⟩, List.mem_of_getElem? (i := 53) (by decide +kernel), List.mem_of_getElem? (i := 357) (by decide +kernel), List.mem_of_getElem? (i := 358) (by decide +kernel)⟩
theorem lw_p6 : lw_okq (⟨"TermNet$Walk", "begin", "()V"⟩, 8) := ⟨⟨by decide +kernel, by decide +kernel⟩, List.mem_of_getElem? (i := 80) (by decide +kernel), List.mem_of_getElem? (i := 369) (by decide +kernel), List.mem_of_getElem? (i := 370) (by decide +kernel)⟩
theorem lw_p7 : lw_okq (⟨"TermNet$Walk", "reach", "(I)Z"⟩, 8) := ⟨⟨by decide +kernel, by decide +kernel⟩, List.mem_of_getElem? (i := 80) (by decide +kernel), List.mem_of_getElem? (i := 380) (by decide +kernel), List.mem_of_getElem? (i := 381) (by decide +kernel)⟩
theorem lw_p8 : lw_okq (⟨"TermNet$Walk", "enter", "(I)Z"⟩, 8) := ⟨⟨by decide +kernel, by decide +kernel⟩, List.mem_of_getElem? (i := 80) (by decide +kernel), List.mem_of_getElem? (i := 384) (by decide +kernel), List.mem_of_getElem? (i := 385) (by decide +kernel)⟩
theorem lw_p9 : lw_okq (⟨"TermNet$Walk", "goOn", "(I)Z"⟩, 8) := ⟨⟨by decide +kernel, by decide +kernel⟩, List.mem_of_getElem? (i := 80) (by decide +kernel), List.mem_of_getElem? (i := 388) (by decide +kernel), List.mem_of_getElem? (i := 389) (by decide +kernel)⟩
theorem lw_p10 : lw_okq (⟨"TermNet$Groups", "undo", "(I)V"⟩, 6) := ⟨⟨by decide +kernel, by decide +kernel⟩, List.mem_of_getElem? (i := 53) (by decide +kernel), List.mem_of_getElem? (i := 404) (by decide +kernel), List.mem_of_getElem? (i := 405) (by decide +kernel)⟩
theorem lw_p11 : lw_okq (⟨"TermNet$Twins", "printOf", "(I)I"⟩, 4) := ⟨⟨by decide +kernel, by decide +kernel⟩, List.mem_of_getElem? (i := 113) (by decide +kernel), List.mem_of_getElem? (i := 413) (by decide +kernel), List.mem_of_getElem? (i := 414) (by decide +kernel)⟩
theorem lw_p12 : lw_okq (⟨"TermNet$Twins", "joinOrKeep", "(II)V"⟩, 4) := ⟨⟨by decide +kernel, by decide +kernel⟩, List.mem_of_getElem? (i := 113) (by decide +kernel), List.mem_of_getElem? (i := 428) (by decide +kernel), List.mem_of_getElem? (i := 429) (by decide +kernel)⟩
theorem lw_p13 : lw_okq (⟨"TermNet$Walk", "overTree", "(I)V"⟩, 8) := ⟨⟨by decide +kernel, by decide +kernel⟩, List.mem_of_getElem? (i := 80) (by decide +kernel), List.mem_of_getElem? (i := 495) (by decide +kernel), List.mem_of_getElem? (i := 496) (by decide +kernel)⟩
theorem lw_p14 : lw_okq (⟨"TermNet$Walk", "sizeOver", "(I)I"⟩, 8) := ⟨⟨by decide +kernel, by decide +kernel⟩, List.mem_of_getElem? (i := 80) (by decide +kernel), List.mem_of_getElem? (i := 499) (by decide +kernel), List.mem_of_getElem? (i := 500) (by decide +kernel)⟩
theorem lw_p15 : lw_okq (⟨"TermNet$Walk", "depthOver", "(I)I"⟩, 8) := ⟨⟨by decide +kernel, by decide +kernel⟩, List.mem_of_getElem? (i := 80) (by decide +kernel), List.mem_of_getElem? (i := 518) (by decide +kernel), List.mem_of_getElem? (i := 519) (by decide +kernel)⟩
def lw_privs_1 : List (MethodName × Nat) := [(⟨"java/lang/Throwable", "fillInStackTrace", "(I)Ljava/lang/Throwable;"⟩, 6), (⟨"TermNet", "refuseWhenFull", "()V"⟩, 9), (⟨"TermNet$Groups", "leadRing", "(II)V"⟩, 6), (⟨"TermNet$Groups", "swapLinks", "(II)V"⟩, 6), (⟨"TermNet", "refuseUnlessTerm", "(I)V"⟩, 9), (⟨"TermNet$Groups", "joinParts", "(I)Z"⟩, 6), (⟨"TermNet$Walk", "begin", "()V"⟩, 8), (⟨"TermNet$Walk", "reach", "(I)Z"⟩, 8), (⟨"TermNet$Walk", "enter", "(I)Z"⟩, 8), (⟨"TermNet$Walk", "goOn", "(I)Z"⟩, 8), (⟨"TermNet$Groups", "undo", "(I)V"⟩, 6), (⟨"TermNet$Twins", "printOf", "(I)I"⟩, 4), (⟨"TermNet$Twins", "joinOrKeep", "(II)V"⟩, 4), (⟨"TermNet$Walk", "overTree", "(I)V"⟩, 8), (⟨"TermNet$Walk", "sizeOver", "(I)I"⟩, 8), (⟨"TermNet$Walk", "depthOver", "(I)I"⟩, 8)]
theorem lw_r1 : ∀ q ∈ lw_privs_1, lw_okq q := List.forall_mem_cons.mpr ⟨lw_p0, List.forall_mem_cons.mpr ⟨lw_p1, List.forall_mem_cons.mpr ⟨lw_p2, List.forall_mem_cons.mpr ⟨lw_p3, List.forall_mem_cons.mpr ⟨lw_p4, List.forall_mem_cons.mpr ⟨lw_p5, List.forall_mem_cons.mpr ⟨lw_p6, List.forall_mem_cons.mpr ⟨lw_p7, List.forall_mem_cons.mpr ⟨lw_p8, List.forall_mem_cons.mpr ⟨lw_p9, List.forall_mem_cons.mpr ⟨lw_p10, List.forall_mem_cons.mpr ⟨lw_p11, List.forall_mem_cons.mpr ⟨lw_p12, List.forall_mem_cons.mpr ⟨lw_p13, List.forall_mem_cons.mpr ⟨lw_p14, List.forall_mem_cons.mpr ⟨lw_p15, fun _ h => absurd h List.not_mem_nil⟩⟩⟩⟩⟩⟩⟩⟩⟩⟩⟩⟩⟩⟩⟩⟩
theorem lw_p16 : lw_okq (⟨"TermNetModel", "add", "(IIII)I"⟩, 18) := ⟨⟨by decide +kernel, by decide +kernel⟩, List.mem_of_getElem? (i := 562) (by decide +kernel), List.mem_of_getElem? (i := 636) (by decide +kernel), List.mem_of_getElem? (i := 637) (by decide +kernel)⟩
theorem lw_p17 : lw_okq (⟨"TermNetModel", "close", "([I)Z"⟩, 18) := ⟨⟨by decide +kernel, by decide +kernel⟩, List.mem_of_getElem? (i := 562) (by decide +kernel), List.mem_of_getElem? (i := 640) (by decide +kernel), List.mem_of_getElem? (i := 641) (by decide +kernel)⟩
theorem lw_p18 : lw_okq (⟨"TermNetModel", "join", "([III)V"⟩, 18) := ⟨⟨by decide +kernel, by decide +kernel⟩, List.mem_of_getElem? (i := 562) (by decide +kernel), List.mem_of_getElem? (i := 644) (by decide +kernel), List.mem_of_getElem? (i := 645) (by decide +kernel)⟩
theorem lw_p19 : lw_okq (⟨"TermNetModel", "isTerm", "(I)Z"⟩, 18) := ⟨⟨by decide +kernel, by decide +kernel⟩, List.mem_of_getElem? (i := 562) (by decide +kernel), List.mem_of_getElem? (i := 652) (by decide +kernel), List.mem_of_getElem? (i := 653) (by decide +kernel)⟩
theorem lw_p20 : lw_okq (⟨"TermNetModel", "look", "([I)Z"⟩, 18) := ⟨⟨by decide +kernel, by decide +kernel⟩, List.mem_of_getElem? (i := 562) (by decide +kernel), List.mem_of_getElem? (i := 660) (by decide +kernel), List.mem_of_getElem? (i := 661) (by decide +kernel)⟩
theorem lw_p21 : lw_okq (⟨"TermNetModel", "go", "(I)V"⟩, 18) := ⟨⟨by decide +kernel, by decide +kernel⟩, List.mem_of_getElem? (i := 562) (by decide +kernel), List.mem_of_getElem? (i := 693) (by decide +kernel), List.mem_of_getElem? (i := 694) (by decide +kernel)⟩
def lw_privs_2 : List (MethodName × Nat) := [(⟨"TermNetModel", "add", "(IIII)I"⟩, 18), (⟨"TermNetModel", "close", "([I)Z"⟩, 18), (⟨"TermNetModel", "join", "([III)V"⟩, 18), (⟨"TermNetModel", "isTerm", "(I)Z"⟩, 18), (⟨"TermNetModel", "look", "([I)Z"⟩, 18), (⟨"TermNetModel", "go", "(I)V"⟩, 18)]
theorem lw_r2 : ∀ q ∈ lw_privs_2, lw_okq q := List.forall_mem_cons.mpr ⟨lw_p16, List.forall_mem_cons.mpr ⟨lw_p17, List.forall_mem_cons.mpr ⟨lw_p18, List.forall_mem_cons.mpr ⟨lw_p19, List.forall_mem_cons.mpr ⟨lw_p20, List.forall_mem_cons.mpr ⟨lw_p21, fun _ h => absurd h List.not_mem_nil⟩⟩⟩⟩⟩⟩
def lw_privs : List (MethodName × Nat) := lw_privs_1 ++ (lw_privs_2)
def lw_tbl : List Cond := k2_sels lw_privs ++ tables_1
theorem lw_privs_ok : ∀ q ∈ lw_privs, lw_okq q := by
  show ∀ q ∈ lw_privs_1 ++ (lw_privs_2), lw_okq q
  exact List.forall_mem_append.mpr ⟨lw_r1, lw_r2⟩
/-! ===== BEGIN words of one list among another's, by their places ===== -/
theorem goodIn_r {big : List Cond} (ws : List Cond) (ps : List Nat) (hp : ws = ps.filterMap (fun i => big[i]?)) (h : ws.all goodWord = true) : GoodIn big ws := by
  intro w hw
  have h1 := List.all_eq_true.mp h w hw
  rw [hp] at hw
  obtain ⟨i, -, hi⟩ := List.mem_filterMap.mp hw
  have hm : w ∈ big := by first | exact List.mem_of_getElem? hi | exact List.getElem?_mem hi
  exact ⟨hm, good_of_word h1⟩
theorem goodIn_app {big a b : List Cond} (ha : GoodIn big a) (hb : GoodIn big b) : GoodIn big (a ++ b) := fun w h => (List.mem_append.mp h).elim (ha w) (hb w)
theorem goodIn_ca {big a b : List Cond} {c : Cond} (ha : GoodIn big (c :: a)) (hb : GoodIn big b) : GoodIn big (c :: (a ++ b)) := fun w h => (List.mem_cons.mp h).elim (fun e => ha w (List.mem_cons.mpr (Or.inl e))) (fun h => (List.mem_append.mp h).elim (fun h => ha w (List.mem_cons.mpr (Or.inr h))) (hb w))
theorem goodIn_sub {big ws : List Cond} (hm : ∀ w ∈ ws, w ∈ big) (h : ws.all goodWord = true) : GoodIn big ws := fun w hw => ⟨hm w hw, good_of_word (List.all_eq_true.mp h w hw)⟩
/-! ===== END ===== -/

/-! ===== BEGIN exceptions that leave a method, and their catching by the caller (launches without stack traces) ===== -/
section VXA
/-! The laws vx_back, vx_callV, vx_callS, vx_callSW, vx_throw0, vx_throwS follow proofs of the library, with one case more: JvmDerived/Free/Laws.lean (Back.of_free), Shelf42/LK1.lean (callV, callS), Shelf/KitTraced.lean (throwNew0V, throwNewS). -/
/-- where a method has thrown q: the class by its name, the cell, what was written, the world -/
def vx_T (XC : String → State → State → Prop) (st : State) (q : Addr) (t : State) (mc ms : Nat) (free : Addr → Prop) : Prop :=
  ∃ (E : String) (ce : Cell) (L : List Loc), XC E st t ∧ t.heap[q]? = some ce ∧ ce.vm = .none ∧ st.vm.findClass E = some ce.cls ∧ st.WarmedH t.vm ∧ st.sameButNew ({ t with vm := st.vm } : State) L mc ms ∧ ∀ z ∈ L, free z.base
def vx_Q (Qc : Array Value → State → Outcome → State → Prop) (XC : String → State → State → Prop) (mc ms : Nat) (free : Addr → Prop) : Array Value → State → Outcome → State → Prop := fun a st o t =>
  (Qc a st o t ∧ ∃ L, FrameEnd st o t L mc ms ∧ ∀ q ∈ L, free q.base) ∨ ∃ q, o = .threw q ∧ vx_T XC st q t mc ms free
/-- a callee that returns or throws -/
def vx_Met (l : Launch) (y : MethodName) (ws : List Cond) (rm : Room) (Pc : Array Value → State → Prop) (Qc : Array Value → State → Outcome → State → Prop) (XC : String → State → State → Prop) (mc ms : Nat) (free : Addr → Prop) : Prop :=
  MetFree l y (headSpec ws rm) Pc (fun _ _ _ _ _ => True) (vx_Q Qc XC mc ms free)
def vx_Post (XC : String → State → State → Prop) (mc ms : Nat) (free : Addr → Prop) : Pt → Array Value → Addr → Pt → Prop := fun A a q B =>
  ∃ (g : JFrame) (mk : MethodId) (t : State) (L : List Loc) (E : String) (ce : Cell), B.U.heap = t.heap ∧ B.U.vm = t.vm ∧ XC E (A.U.calling g mk a) t ∧ t.heap[q]? = some ce ∧ ce.vm = .none ∧ A.U.vm.findClass E = some ce.cls ∧ B.locs = A.locs ++ L ∧ (∀ z ∈ L, free z.base) ∧ B.cells = A.cells + mc ∧ B.slots = A.slots + ms
def vx_Back (l : Launch) (R : Room) (p : Program) (e : Env) (below : List Frame) (s : State) (sargs : Array Value) (y : MethodName) (len W9 : Nat)
    (Pre : Pt → Array Value → Prop) (Post : Pt → Array Value → Option Value → Pt → Prop) (PostX : Pt → Array Value → Addr → Pt → Prop) : Prop :=
  ∀ (m : MethodId) (meth : Method) (c : Code) (A : Pt) (g : JFrame) (ig : Instr) (mk : MethodId) (a : Array Value),
    Stand p l e R s m sargs below meth c A.U A.locs A.cells A.slots → g.method = m → g.locals.size = c.maxLocals → decode c.code g.pc = .ok (ig, len) →
    2 * g.monitorRoom + (g.stack.map fun v => v.category).sum ≤ W9 → A.U.methodNamed? y = some mk → Pre A a →
    (∃ (v : Option Value) (B : Pt), Stand p l e R s m sargs below meth c B.U B.locs B.cells B.slots ∧ Post A a v B ∧
      Steps p.tables e below (doInvoke e (A.U.setTop g) [] mk a).1 (B.U.setTop { g with pc := g.pc + len, stack := v.toList ++ g.stack })) ∨
    (∃ (q : Addr) (B : Pt), Stand p l e R s m sargs below meth c B.U B.locs B.cells B.slots ∧ PostX A a q B ∧
      Steps p.tables e below (doInvoke e (A.U.setTop g) [] mk a).1 ((B.U.setTop g).pushFrame (.throwing q)))
section Payer
variable {l : Launch} {R : Room} {p : Program} {e : Env} {below : List Frame} {s : State} {sargs : Array Value} {y : MethodName} {len W9 : Nat}
theorem vx_back {ws : List Cond} {rm : Room} {Pc : Array Value → State → Prop} {Qc : Array Value → State → Outcome → State → Prop} {XC : String → State → State → Prop} {mc ms : Nat} {free : Addr → Prop} {bytes : ByteArray} {maxL : Nat} {ret : Option FieldType}
    (hM : vx_Met l y ws rm Pc Qc XC mc ms free) (hblind : FrameBlind Pc) (hrc : rm.cells = mc) (hrs : rm.slots = ms)
    (hframes : rm.frames + 1 ≤ R.frames) (hlocals : W9 + (maxL + 11) + rm.locals ≤ R.locals)
    (hws : ∀ w ∈ ws, ∀ a' U, s.WarmedH U.vm → w.before a' U = true) (hcode : Cond.code y bytes maxL ret ∈ ws) (hinit : ∀ a' U, s.WarmedH U.vm → (Cond.initialized y.cls).before a' U = true) :
    vx_Back l R p e below s sargs y len W9 (PreOf R mc ms Pc) (PostOf Qc mc ms free) (vx_Post XC mc ms free) := by
  intro m meth c A g ig mk a X hg hsize hdg hW hn hp
  have h1 : (headSpec ws rm).pre.before a A.U = true := atoms_intro fun w hw => hws w hw _ _ X.warmed
  have h2 : (Cond.code y bytes maxL ret).before a A.U = true := hws _ hcode _ _ X.warmed
  have h3 : (Cond.initialized y.cls).before a A.U = true := hinit _ _ X.warmed
  have h4 : A.cells + (headSpec ws rm).room.cells ≤ R.cells := by rw [show (headSpec ws rm).room.cells = mc from hrc]; exact hp.1
  have h5 : A.slots + (headSpec ws rm).room.slots ≤ R.slots := by rw [show (headSpec ws rm).room.slots = ms from hrs]; exact hp.2.1
  have hPc : Pc a (A.U.calling g mk a) := hblind _ _ _ _ hp.2.2
  obtain ⟨U, Ls, c0, s0⟩ := A
  dsimp only [Pt.U, Pt.locs, Pt.cells, Pt.slots] at h1 h2 h3 h4 h5 X hn hPc ⊢
  obtain ⟨methY, cY, hmY, hcY, -, hlY, -, -, -, -⟩ := Cond.code_spec hn h2
  obtain ⟨kY, hkY, -⟩ := className_of_methodNamed hn
  have hinitY : kY.init = .initialized := Cond.initialized_spec (findClass_of_methodNamed hn) hkY h3
  have h : At U g.method c below := by rw [hg]; exact X.here
  have hlocals9 : W9 + (maxL + 11) + (headSpec ws rm).room.locals ≤ R.locals := hlocals
  have happ : (headSpec ws rm).appliesLoose y e.platform (U.calling g mk a) = true :=
    Spec.appliesLoose_calling (g := g) h hdg hn hkY hinitY
      (X.room_calling (g := g) (R' := (headSpec ws rm).room) hsize hmY hcY hframes (by rw [hlY]; omega) h4 h5) h1
  obtain ⟨mid, hmid⟩ := h.above
  have hfr : (U.setTop g).frames = (.java g :: mid) ++ below := by rw [State.frames_setTop' g h.top, hmid]; rfl
  obtain ⟨o, s₂, hsteps, -, hend, hq⟩ := Steps.callFree hM p X.admits X.cas X.clock (acts := []) hfr happ hPc trivial
  have hq' : vx_Q Qc XC mc ms free a (U.calling g mk a) o s₂ := hq
  rw [State.frames_setTop' g h.top] at hend
  obtain ⟨g₀, hg0⟩ := Option.isSome_iff_exists.mp h.top
  obtain ⟨r, hr⟩ := State.topJava?_eq_some.mp hg0
  have hr' : (({ U with heap := s₂.heap, slotsUsed := s₂.slotsUsed } : State).setVm s₂.vm).frames = .java g₀ :: r := hr
  rcases hq' with ⟨hqc, L, hfe, hL⟩ | ⟨q, rfl, E, ce, L, hx, hce, hcv, hcl, hW₂, hsm, hL⟩
  · obtain ⟨⟨v, rfl⟩, hW₂, e2, q2, q3, q4, q5, q6⟩ := id hfe
    have e3 : s₂ = ({ (U.calling g mk a).setFrames s₂.frames with heap := s₂.heap, slotsUsed := s₂.slotsUsed } : State).setVm s₂.vm := by
      have : s₂ = ({ s₂ with vm := (U.calling g mk a).vm } : State).setVm s₂.vm := rfl
      rw [e2] at this
      exact this
    obtain ⟨c₂, i₂, len₂, hc₂, hd₂, hf₂⟩ := hend
    have hW' : U.WarmedH s₂.vm := hW₂
    have hcc : c₂ = c := by
      have h1 : s₂.code? g.method = U.code? g.method := by
        rw [State.code?_eq, State.code?_eq, hW'.alike.method?]
      exact Option.some.inj (hc₂.symm.trans (h1.trans h.code))
    subst hcc
    have hlen : len₂ = len := by rw [hdg] at hd₂; cases hd₂; rfl
    subst hlen
    have hs₂ : s₂ = (({ U with heap := s₂.heap, slotsUsed := s₂.slotsUsed } : State).setVm s₂.vm).setTop { g with pc := g.pc + len₂, stack := v.toList ++ g.stack } := by
      refine e3.trans ?_
      rw [hf₂, State.calling_eq h.top, State.setFrames_setFrames, State.setTop_of_frames _ hr', hr]
      rfl
    have hsame : U.sameButNew ({ U with heap := s₂.heap, slotsUsed := s₂.slotsUsed } : State) L mc ms := by
      refine ⟨?_, q2, q3, q4, q5, q6⟩
      obtain ⟨t, ht, -⟩ := State.frames_cons hr
      show ({ U with heap := s₂.heap, slotsUsed := s₂.slotsUsed } : State) = { U.setFrames U.frames with heap := s₂.heap, slotsUsed := s₂.slotsUsed }
      rw [State.setFrames_self ht]
    subst hg
    refine Or.inl ⟨v, ⟨(({ U with heap := s₂.heap, slotsUsed := s₂.slotsUsed } : State).setVm s₂.vm), Ls ++ L, c0 + mc, s0 + ms⟩,
      ⟨X.admits, X.cas, X.clock, X.frames, X.room, X.hears, X.method, X.code, (X.here.setHeapUsed s₂.heap s₂.slotsUsed).setVm hW'.alike, X.tail, State.WarmedH.trans X.warmed hW', X.limits, X.bytes, X.same.trans (hsame.setVm s.vm)⟩,
      ⟨g, mk, s₂, L, rfl, rfl, hqc, rfl, hL, rfl, rfl⟩, ?_⟩
    show Steps p.tables e below _ ((({ U with heap := s₂.heap, slotsUsed := s₂.slotsUsed } : State).setVm s₂.vm).setTop { g with pc := g.pc + len₂, stack := v.toList ++ g.stack })
    rw [← hs₂]
    exact hsteps
  · obtain ⟨e2, q2, q3, q4, q5, q6⟩ := id hsm
    have e3 : s₂ = ({ (U.calling g mk a).setFrames s₂.frames with heap := s₂.heap, slotsUsed := s₂.slotsUsed } : State).setVm s₂.vm := by
      have : s₂ = ({ s₂ with vm := (U.calling g mk a).vm } : State).setVm s₂.vm := rfl
      rw [e2] at this
      exact this
    have hf₂ : s₂.frames = .throwing q :: .java g :: U.frames.tail := hend
    have hW' : U.WarmedH s₂.vm := hW₂
    have hs₂ : s₂ = ((({ U with heap := s₂.heap, slotsUsed := s₂.slotsUsed } : State).setVm s₂.vm).setTop g).pushFrame (.throwing q) := by
      refine e3.trans ?_
      rw [hf₂, State.calling_eq h.top, State.setFrames_setFrames, State.pushFrame, State.frames_setTop _ hr', State.setTop_of_frames _ hr', State.setFrames_setFrames, hr]
      rfl
    have hsame : U.sameButNew ({ U with heap := s₂.heap, slotsUsed := s₂.slotsUsed } : State) L mc ms := by
      refine ⟨?_, q2, q3, q4, q5, q6⟩
      obtain ⟨t, ht, -⟩ := State.frames_cons hr
      show ({ U with heap := s₂.heap, slotsUsed := s₂.slotsUsed } : State) = { U.setFrames U.frames with heap := s₂.heap, slotsUsed := s₂.slotsUsed }
      rw [State.setFrames_self ht]
    subst hg
    refine Or.inr ⟨q, ⟨(({ U with heap := s₂.heap, slotsUsed := s₂.slotsUsed } : State).setVm s₂.vm), Ls ++ L, c0 + mc, s0 + ms⟩,
      ⟨X.admits, X.cas, X.clock, X.frames, X.room, X.hears, X.method, X.code, (X.here.setHeapUsed s₂.heap s₂.slotsUsed).setVm hW'.alike, X.tail, State.WarmedH.trans X.warmed hW', X.limits, X.bytes, X.same.trans (hsame.setVm s.vm)⟩,
      ⟨g, mk, s₂, L, E, ce, rfl, rfl, hx, hce, hcv, hcl, rfl, hL, rfl, rfl⟩, ?_⟩
    show Steps p.tables e below _ (((({ U with heap := s₂.heap, slotsUsed := s₂.slotsUsed } : State).setVm s₂.vm).setTop g).pushFrame (.throwing q))
    rw [← hs₂]
    exact hsteps
end Payer
section Calls
variable {p : Program} {l : Launch} {e : Env} {R : Room} {s : State} {m : MethodId} {args : Array Value} {below : List Frame} {meth : Method} {c : Code} {T : State} {locs : List Loc} {cells slots : Nat}
theorem vx_callV (X : Stand p l e R s m args below meth c T locs cells slots) (hexec : p.tables.exec = Jvm.exec) {own C : String} {index : Nat} {y : MethodName} {bytes : ByteArray} {maxL : Nat} {ret : Option FieldType}
    (hown : s.vm.findClass own = some m.cls) (hlink : (Cond.methodLink own index y).before args s = true) (hinst : (Cond.instanceMethod y).before args s = true) (hsel : (Cond.selects C y y).before args s = true)
    (hcode : (Cond.code y bytes maxL ret).before args s = true) (hy : y.cls ≠ "java/lang/invoke/MethodHandle" ∧ y.cls ≠ "java/lang/invoke/VarHandle")
    {W9 : Nat} {Pre : Pt → Array Value → Prop} {Post : Pt → Array Value → Option Value → Pt → Prop} {PostX : Pt → Array Value → Addr → Pt → Prop} (hK : vx_Back l R p e below s args y 3 W9 Pre Post PostX)
    {b : Addr} {cellB : Cell} (hcell : T.heap[b]? = some cellB) (hobj : cellB.vm.isStatics = false) (hcls : s.vm.findClass C = some cellB.cls)
    {g : JFrame} (hg : g.method = m) (hsize : g.locals.size = c.maxLocals) {argsL rest : List Value} (hlen : ∀ sig, parseMethodDescriptor y.desc = some sig → argsL.length = sig.parameters.length)
    (hstack : g.stack = argsL.reverse ++ .ref b :: rest) (hW : 2 * g.monitorRoom + (rest.map fun v => v.category).sum ≤ W9) (hdg : decode c.code g.pc = .ok (.invokevirtual index, 3))
    (hpre : ∀ vm₁, s.WarmedH vm₁ → Pre ⟨T.setVm vm₁, locs, cells, slots⟩ (Value.ref b :: argsL).toArray) :
    (∃ (v : Option Value) (vm₁ : Vm) (B : Pt), s.WarmedH vm₁ ∧ Stand p l e R s m args below meth c B.U B.locs B.cells B.slots ∧ Post ⟨T.setVm vm₁, locs, cells, slots⟩ (Value.ref b :: argsL).toArray v B ∧
      ∀ target, Steps p.tables e below (B.U.setTop { g with pc := g.pc + 3, stack := v.toList ++ rest }) target → Steps p.tables e below (T.setTop g) target) ∨
    (∃ (q : Addr) (vm₁ : Vm) (B : Pt), s.WarmedH vm₁ ∧ Stand p l e R s m args below meth c B.U B.locs B.cells B.slots ∧ PostX ⟨T.setVm vm₁, locs, cells, slots⟩ (Value.ref b :: argsL).toArray q B ∧
      Steps p.tables e below (T.setTop g) ((B.U.setTop { g with stack := rest }).pushFrame (.throwing q))) := by
  obtain ⟨mk, methM, hnamed, hmethM, hstM, habM⟩ := Cond.instanceMethod_spec hinst
  obtain ⟨methM', cM, hmethM', -, -, -, -, -, -, hsigM⟩ := Cond.code_spec hnamed hcode
  cases hmethM.symm.trans hmethM'
  obtain ⟨c2, r2, m2, q1, q2, q3, q4, kP, hkP, hkPi⟩ := Cond.selects_spec hsel
  cases hcls.symm.trans q1
  cases (State.methodFound?_of_named hnamed hy).symm.trans q2
  cases hnamed.symm.trans q3
  have hselP : selectMethod e.platform s.vm cellB.cls mk = .method mk := by rw [Launch.admits_selectMethod X.admits]; exact q4
  obtain ⟨vm₁, X₁, hstep₁⟩ := X.invokevirtual hexec hown hlink hnamed hmethM hstM hkP hkPi hy (a := b) (cell := cellB) hcell
    (fun z h => by rw [h] at hobj; cases hobj) hselP hmethM habM hkP hkPi (g := g) hg (argsL := argsL) (rest := rest) (hlen _ hsigM) hstack hdg
  rcases hK m meth c ⟨T.setVm vm₁, locs, cells, slots⟩ { g with stack := rest } (.invokevirtual index) mk (Value.ref b :: argsL).toArray X₁ hg hsize hdg hW (X₁.named hnamed) (hpre vm₁ X₁.warmed) with ⟨v, B, X', hpost, hsteps⟩ | ⟨q, B, X', hpost, hsteps⟩
  · exact Or.inl ⟨v, vm₁, B, X₁.warmed, X', hpost, fun target h => hstep₁ _ fun acts => by rw [doInvoke_state]; exact hsteps.trans h⟩
  · exact Or.inr ⟨q, vm₁, B, X₁.warmed, X', hpost, hstep₁ _ fun acts => by rw [doInvoke_state]; exact hsteps⟩
theorem vx_callS (X : Stand p l e R s m args below meth c T locs cells slots) (hexec : p.tables.exec = Jvm.exec) {own : String} {index : Nat} {y : MethodName} {bytes : ByteArray} {maxL : Nat} {ret : Option FieldType}
    (hown : s.vm.findClass own = some m.cls) (hlink : (Cond.methodLink own index y).before args s = true) (hstat : (Cond.static y).before args s = true) (hinit : (Cond.initialized y.cls).before args s = true)
    (hcode : (Cond.code y bytes maxL ret).before args s = true) (hy : y.cls ≠ "java/lang/invoke/MethodHandle" ∧ y.cls ≠ "java/lang/invoke/VarHandle")
    {W9 : Nat} {Pre : Pt → Array Value → Prop} {Post : Pt → Array Value → Option Value → Pt → Prop} {PostX : Pt → Array Value → Addr → Pt → Prop} (hK : vx_Back l R p e below s args y 3 W9 Pre Post PostX)
    {g : JFrame} (hg : g.method = m) (hsize : g.locals.size = c.maxLocals) {argsL rest : List Value} (hlen : ∀ sig, parseMethodDescriptor y.desc = some sig → argsL.length = sig.parameters.length)
    (hstack : g.stack = argsL.reverse ++ rest) (hW : 2 * g.monitorRoom + (rest.map fun v => v.category).sum ≤ W9) (hdg : decode c.code g.pc = .ok (.invokestatic index, 3))
    (hpre : ∀ vm₁, s.WarmedH vm₁ → Pre ⟨T.setVm vm₁, locs, cells, slots⟩ argsL.toArray) :
    (∃ (v : Option Value) (vm₁ : Vm) (B : Pt), s.WarmedH vm₁ ∧ Stand p l e R s m args below meth c B.U B.locs B.cells B.slots ∧ Post ⟨T.setVm vm₁, locs, cells, slots⟩ argsL.toArray v B ∧
      ∀ target, Steps p.tables e below (B.U.setTop { g with pc := g.pc + 3, stack := v.toList ++ rest }) target → Steps p.tables e below (T.setTop g) target) ∨
    (∃ (q : Addr) (vm₁ : Vm) (B : Pt), s.WarmedH vm₁ ∧ Stand p l e R s m args below meth c B.U B.locs B.cells B.slots ∧ PostX ⟨T.setVm vm₁, locs, cells, slots⟩ argsL.toArray q B ∧
      Steps p.tables e below (T.setTop g) ((B.U.setTop { g with stack := rest }).pushFrame (.throwing q))) := by
  obtain ⟨mk, hnamed⟩ := Cond.code_named hcode
  obtain ⟨methM, cM, hmethM, -, -, -, -, -, -, hsigM⟩ := Cond.code_spec hnamed hcode
  have hstatic : methM.isStatic = true := Cond.static_spec hnamed hmethM hstat
  obtain ⟨kP, hkP, -⟩ := className_of_methodNamed hnamed
  have hinitP : kP.init = .initialized := Cond.initialized_spec (findClass_of_methodNamed hnamed) hkP hinit
  obtain ⟨vm₁, X₁, hstep₁⟩ := X.invokestatic hexec hown hlink hnamed hmethM hstatic hkP hinitP hy (g := g) hg (argsL := argsL) (rest := rest) (hlen _ hsigM) hstack hdg
  rcases hK m meth c ⟨T.setVm vm₁, locs, cells, slots⟩ { g with stack := rest } (.invokestatic index) mk argsL.toArray X₁ hg hsize hdg hW (X₁.named hnamed) (hpre vm₁ X₁.warmed) with ⟨v, B, X', hpost, hsteps⟩ | ⟨q, B, X', hpost, hsteps⟩
  · exact Or.inl ⟨v, vm₁, B, X₁.warmed, X', hpost, fun target h => hstep₁ _ fun acts => by rw [doInvoke_state]; exact hsteps.trans h⟩
  · exact Or.inr ⟨q, vm₁, B, X₁.warmed, X', hpost, hstep₁ _ fun acts => by rw [doInvoke_state]; exact hsteps⟩
end Calls
theorem vx_cls {s : State} {T : State} {vm₁ : Vm} {E : String} {k : ClassId} (hW : s.WarmedH vm₁) (h : (T.setVm vm₁).vm.findClass E = some k) : s.vm.findClass E = some k := by
  have h1 : vm₁.findClass E = some k := h
  rw [hW.alike.findClass] at h1
  exact h1
/-- the method's frame g, with q thrown over it -/
def vx_W (p : Program) (l : Launch) (e : Env) (R : Room) (s : State) (m : MethodId) (args : Array Value) (below : List Frame) (meth : Method) (c : Code) (H : Heap) (locs : List Loc) (cells slots : Nat) (Q : State → Prop) (g : JFrame) (q : Addr) : Prop :=
  ∀ T : State, T.heap = H → Stand p l e R s m args below meth c T locs cells slots → ∃ t, Steps p.tables e below ((T.setTop g).pushFrame (.throwing q)) t ∧ Q t
def vx_Run (p : Program) (l : Launch) (e : Env) (R : Room) (s : State) (m : MethodId) (args : Array Value) (below : List Frame) (meth : Method) (c : Code) (H : Heap) (locs : List Loc) (cells slots mc ms : Nat) (g : JFrame) (rest : List Value) (Qa : State → Outcome → State → Prop) (XC : String → State → State → Prop) (free : Addr → Prop) : Prop :=
  ∀ T : State, T.heap = H → Stand p l e R s m args below meth c T locs cells slots →
    (∃ (v : Option Value) (st₀ t T' : State) (L : List Loc), st₀.heap = H ∧ Stand p l e R s m args below meth c T' (locs ++ L) (cells + mc) (slots + ms) ∧ (∀ q ∈ L, free q.base) ∧ T'.heap = t.heap ∧ T'.vm = t.vm ∧ Qa st₀ (.returned v) t ∧
      Goes p e below T g T' { g with pc := g.pc + 3, stack := v.toList ++ rest }) ∨
    (∃ (q : Addr) (st₀ t T' : State) (L : List Loc) (E : String) (ce : Cell), st₀.heap = H ∧ Stand p l e R s m args below meth c T' (locs ++ L) (cells + mc) (slots + ms) ∧ (∀ z ∈ L, free z.base) ∧ T'.heap = t.heap ∧ T'.vm = t.vm ∧ XC E st₀ t ∧ t.heap[q]? = some ce ∧ ce.vm = .none ∧ s.vm.findClass E = some ce.cls ∧
      Steps p.tables e below (T.setTop g) ((T'.setTop { g with stack := rest }).pushFrame (.throwing q)))
def vx_X {S : Type} (px : S → Prop) (B : String → S → State → Prop) (A : Nat → Prop) : String → State → State → Prop := fun E st t => ∃ u : S, px u ∧ B E u t ∧ va_F A st t
section Runs
variable {p : Program} {l : Launch} {e : Env} {R : Room} {s : State} {m : MethodId} {args : Array Value} {below : List Frame} {meth : Method} {c : Code} {H : Heap} {locs : List Loc} {cells slots : Nat}
variable {y : MethodName} {bytes cc : ByteArray} {maxL nL mc ms n index : Nat} {ret : Option FieldType} {ws : List Cond} {rm : Room} {Pc : Array Value → State → Prop} {Qc : Array Value → State → Outcome → State → Prop} {XC : String → State → State → Prop} {free : Addr → Prop} {Ts : List Cond} {own C : String} {b : Addr} {As rest : List Value} {g : JFrame}
theorem vx_callBack (cb : CallB R s args own index y bytes maxL ret ws rm mc ms n) (hM : vx_Met l y ws rm Pc Qc XC mc ms free) (hbl : FrameBlind Pc) : vx_Back l R p e below s args y 3 8 (PreOf R mc ms Pc) (PostOf Qc mc ms free) (vx_Post XC mc ms free) := by
  obtain ⟨hrc, hrs, hfr, hlo, hws, hcw, -, hini, -⟩ := cb
  exact vx_back (bytes := bytes) (maxL := maxL) (ret := ret) hM hbl hrc hrs hfr hlo hws hcw (fun a' U hW => word_at hW (Or.inl (by first | rfl | simp [Cond.onTables, Cond.keeps, Cond.steady])) hini)
theorem vx_runV (S : CallFix p m c cc nL s args Ts own) (hM : vx_Met l y ws rm Pc Qc XC mc ms free) (cw : CallW R s args own C index y bytes maxL ret ws rm mc ms n) (hp : PreV s H C b Pc As)
    (hg : g.method = m) (hn : As.length = n) (hsize : g.locals.size = nL) (hstack : g.stack = As.reverse ++ .ref b :: rest) (hW : 2 * g.monitorRoom + (rest.map fun v => v.category).sum ≤ 8) (hdg : decode cc g.pc = .ok (.invokevirtual index, 3)) (hf : cells + mc ≤ R.cells ∧ slots + ms ≤ R.slots) :
    vx_Run p l e R s m args below meth c H locs cells slots mc ms g rest (Qc (Value.ref b :: As).toArray) XC free := by
  have hK : vx_Back l R p e below s args y 3 8 (PreOf R mc ms Pc) (PostOf Qc mc ms free) (vx_Post XC mc ms free) := vx_callBack cw.1 hM hp.1
  obtain ⟨⟨-, -, -, -, -, -, hcode, -, hy, hlen, hl⟩, hin, hse⟩ := cw
  obtain ⟨hx, hb, hml, ho, -⟩ := S
  obtain ⟨-, ⟨cellB, hcB, hoB, hclB⟩, hPc⟩ := hp
  intro T hT X
  rcases vx_callV X hx (C := C) (bytes := bytes) (maxL := maxL) (ret := ret) ho hl hin hse hcode hy hK (by rw [hT]; exact hcB) hoB hclB hg (hsize.trans hml.symm) (argsL := As) (rest := rest) (fun sig h => hn.trans (hlen sig h)) hstack hW (by rw [hb]; exact hdg)
    (fun vm₁ hW₁ => ⟨hf.1, hf.2, hPc (T.setVm vm₁) hT hW₁⟩) with ⟨v, vm₁, ⟨U', l2, c2, s2⟩, hW₁, X', ⟨g', mk, t, L, e1, e2, hq, h1, hL, h2, h3⟩, st⟩ | ⟨q, vm₁, ⟨U', l2, c2, s2⟩, hW₁, X', ⟨g', mk, t, L, E, ce, e1, e2, hq, hce, hcv, hcl, h1, hL, h2, h3⟩, st⟩
  · dsimp only [Pt.U, Pt.locs, Pt.cells, Pt.slots] at X' e1 e2 h1 h2 h3 st
    subst h1; subst h2; subst h3
    exact Or.inl ⟨v, (T.setVm vm₁).calling g' mk (Value.ref b :: As).toArray, t, U', L, hT, X', hL, e1, e2, hq, st⟩
  · dsimp only [Pt.U, Pt.locs, Pt.cells, Pt.slots] at X' e1 e2 h1 h2 h3 st hcl
    subst h1; subst h2; subst h3
    exact Or.inr ⟨q, (T.setVm vm₁).calling g' mk (Value.ref b :: As).toArray, t, U', L, E, ce, hT, X', hL, e1, e2, hq, hce, hcv, vx_cls hW₁ hcl, st⟩
theorem vx_runS (S : CallFix p m c cc nL s args Ts own) (hM : vx_Met l y ws rm Pc Qc XC mc ms free) (cw : CallB R s args own index y bytes maxL ret ws rm mc ms n ∧ (Cond.static y).before args s = true) (hp : PreS s H Pc As)
    (hg : g.method = m) (hn : As.length = n) (hsize : g.locals.size = nL) (hstack : g.stack = As.reverse ++ rest) (hW : 2 * g.monitorRoom + (rest.map fun v => v.category).sum ≤ 8) (hdg : decode cc g.pc = .ok (.invokestatic index, 3)) (hf : cells + mc ≤ R.cells ∧ slots + ms ≤ R.slots) :
    vx_Run p l e R s m args below meth c H locs cells slots mc ms g rest (Qc As.toArray) XC free := by
  have hK : vx_Back l R p e below s args y 3 8 (PreOf R mc ms Pc) (PostOf Qc mc ms free) (vx_Post XC mc ms free) := vx_callBack cw.1 hM hp.1
  obtain ⟨⟨-, -, -, -, -, -, hcode, hini, hy, hlen, hl⟩, hstt⟩ := cw
  obtain ⟨hx, hb, hml, ho, -⟩ := S
  intro T hT X
  rcases vx_callS X hx (bytes := bytes) (maxL := maxL) (ret := ret) ho hl hstt hini hcode hy hK hg (hsize.trans hml.symm) (argsL := As) (rest := rest) (fun sig h => hn.trans (hlen sig h)) hstack hW (by rw [hb]; exact hdg)
    (fun vm₁ hW₁ => ⟨hf.1, hf.2, hp.2 (T.setVm vm₁) hT hW₁⟩) with ⟨v, vm₁, ⟨U', l2, c2, s2⟩, hW₁, X', ⟨g', mk, t, L, e1, e2, hq, h1, hL, h2, h3⟩, st⟩ | ⟨q, vm₁, ⟨U', l2, c2, s2⟩, hW₁, X', ⟨g', mk, t, L, E, ce, e1, e2, hq, hce, hcv, hcl, h1, hL, h2, h3⟩, st⟩
  · dsimp only [Pt.U, Pt.locs, Pt.cells, Pt.slots] at X' e1 e2 h1 h2 h3 st
    subst h1; subst h2; subst h3
    exact Or.inl ⟨v, (T.setVm vm₁).calling g' mk As.toArray, t, U', L, hT, X', hL, e1, e2, hq, st⟩
  · dsimp only [Pt.U, Pt.locs, Pt.cells, Pt.slots] at X' e1 e2 h1 h2 h3 st hcl
    subst h1; subst h2; subst h3
    exact Or.inr ⟨q, (T.setVm vm₁).calling g' mk As.toArray, t, U', L, E, ce, hT, X', hL, e1, e2, hq, hce, hcv, vx_cls hW₁ hcl, st⟩
end Runs
section Rows
variable {p : Program} {l : Launch} {e : Env} {R : Room} {s : State} {m : MethodId} {args : Array Value} {below : List Frame} {meth : Method} {c : Code} {H : Heap} {locs : List Loc} {cells slots : Nat} {Q : State → Prop}
variable {mc ms : Nat} {free : Addr → Prop} {A0 A1 : Nat → Prop} {H0 : Heap} {a : Array Value} {pc : Nat} {ls : Array Slot} {st0 rest : List Value}
theorem vx_keep {st₀ t T' : State} {L : List Loc} (h0 : st₀.heap = H) (e1 : T'.heap = t.heap) (hS : va_S A0 H0 H locs) (hA : ∀ q, q < H.size → A1 q → A0 q) (hf : ∀ q, free q → A0 q) (hL : ∀ q ∈ L, free q.base) (hF : va_F A1 st₀ t) :
    H.size ≤ T'.heap.size ∧ (∀ q : Nat, q < H.size → ¬ A1 q → T'.heap[q]? = H[q]?) ∧ va_S A0 H0 T'.heap (locs ++ L) := by
  obtain ⟨hz, hk⟩ := hF
  rw [h0] at hz hk
  exact ⟨by rw [e1]; exact hz, fun q h1 h2 => by rw [e1]; exact hk q h1 h2,
    ⟨Nat.le_trans hS.1 (by rw [e1]; exact hz), fun q h1 h2 => by rw [e1, hk q (Nat.lt_of_lt_of_le h1 hS.1) (fun z => h2 (hA q (Nat.lt_of_lt_of_le h1 hS.1) z))]; exact hS.2.1 q h1 h2, fun q hq => by
      rcases List.mem_append.mp hq with h | h
      · exact hS.2.2 q h
      · exact hf _ (hL q h)⟩⟩
theorem vx_calli {S SX : Type} {post : Int32 → S → Prop} {px : SX → Prop} {B : S → State → Prop} {BX : String → SX → State → Prop} {AX : Nat → Prop} (hr : vx_Run p l e R s m args below meth c H locs cells slots mc ms (F0 m pc ls st0) rest (va_Qi post B A1 a) (vx_X px BX AX) free) (hS : va_S A0 H0 H locs) (hA : ∀ q, q < H.size → A1 q → A0 q) (hf : ∀ q, free q → A0 q) (hAX : ∀ q, q < H.size → AX q → A0 q)
    (kx : ∀ (E : String) (ce : Cell) (q9 : Addr) (u : SX) (t : State) (H1 : Heap) (locs1 : List Loc), t.heap = H1 → s.vm.Alike t.vm → px u → BX E u t → H.size ≤ H1.size → (∀ q : Nat, q < H.size → ¬ AX q → H1[q]? = H[q]?) → va_S A0 H0 H1 locs1 → H1[q9]? = some ce → ce.vm = .none → s.vm.findClass E = some ce.cls → vx_W p l e R s m args below meth c H1 locs1 (cells + mc) (slots + ms) Q (F0 m pc ls rest) q9)
    (kk : ∀ (r : Int32) (u : S) (t : State) (H1 : Heap) (locs1 : List Loc), t.heap = H1 → s.vm.Alike t.vm → post r u → B u t → H.size ≤ H1.size → (∀ q : Nat, q < H.size → ¬ A1 q → H1[q]? = H[q]?) → va_S A0 H0 H1 locs1 → W p l e R s m args below meth c H1 locs1 (cells + mc) (slots + ms) Q (F0 m (pc + 3) ls (.int r :: rest))) : W p l e R s m args below meth c H locs cells slots Q (F0 m pc ls st0) := by
  intro T hT X
  rcases hr T hT X with ⟨v, st₀, t, T', L, h0, X', hL, e1, e2, ⟨⟨r, u, hv, hp, hb⟩, hF⟩, st⟩ | ⟨q, st₀, t, T', L, E, ce, h0, X', hL, e1, e2, ⟨u, hp, hb, hF⟩, hce, hcv, hcl, st⟩
  · cases hv
    obtain ⟨k1, k2, k3⟩ := vx_keep h0 e1 hS hA hf hL hF
    obtain ⟨t2, a1, b1⟩ := kk r u t T'.heap (locs ++ L) e1.symm (by rw [← e2]; exact X'.warmed.alike) hp hb k1 k2 k3 T' rfl X'
    exact ⟨t2, st t2 a1, b1⟩
  · obtain ⟨k1, k2, k3⟩ := vx_keep h0 e1 hS hAX hf hL hF
    obtain ⟨t2, a1, b1⟩ := kx E ce q u t T'.heap (locs ++ L) e1.symm (by rw [← e2]; exact X'.warmed.alike) hp hb k1 k2 k3 (by rw [e1]; exact hce) hcv hcl T' rfl X'
    exact ⟨t2, st.trans a1, b1⟩
theorem vx_calll {S SX : Type} {post : Int64 → S → Prop} {px : SX → Prop} {B : S → State → Prop} {BX : String → SX → State → Prop} {AX : Nat → Prop} (hr : vx_Run p l e R s m args below meth c H locs cells slots mc ms (F0 m pc ls st0) rest (va_Ql post B A1 a) (vx_X px BX AX) free) (hS : va_S A0 H0 H locs) (hA : ∀ q, q < H.size → A1 q → A0 q) (hf : ∀ q, free q → A0 q) (hAX : ∀ q, q < H.size → AX q → A0 q)
    (kx : ∀ (E : String) (ce : Cell) (q9 : Addr) (u : SX) (t : State) (H1 : Heap) (locs1 : List Loc), t.heap = H1 → s.vm.Alike t.vm → px u → BX E u t → H.size ≤ H1.size → (∀ q : Nat, q < H.size → ¬ AX q → H1[q]? = H[q]?) → va_S A0 H0 H1 locs1 → H1[q9]? = some ce → ce.vm = .none → s.vm.findClass E = some ce.cls → vx_W p l e R s m args below meth c H1 locs1 (cells + mc) (slots + ms) Q (F0 m pc ls rest) q9)
    (kk : ∀ (r : Int64) (u : S) (t : State) (H1 : Heap) (locs1 : List Loc), t.heap = H1 → s.vm.Alike t.vm → post r u → B u t → H.size ≤ H1.size → (∀ q : Nat, q < H.size → ¬ A1 q → H1[q]? = H[q]?) → va_S A0 H0 H1 locs1 → W p l e R s m args below meth c H1 locs1 (cells + mc) (slots + ms) Q (F0 m (pc + 3) ls (.long r :: rest))) : W p l e R s m args below meth c H locs cells slots Q (F0 m pc ls st0) := by
  intro T hT X
  rcases hr T hT X with ⟨v, st₀, t, T', L, h0, X', hL, e1, e2, ⟨⟨r, u, hv, hp, hb⟩, hF⟩, st⟩ | ⟨q, st₀, t, T', L, E, ce, h0, X', hL, e1, e2, ⟨u, hp, hb, hF⟩, hce, hcv, hcl, st⟩
  · cases hv
    obtain ⟨k1, k2, k3⟩ := vx_keep h0 e1 hS hA hf hL hF
    obtain ⟨t2, a1, b1⟩ := kk r u t T'.heap (locs ++ L) e1.symm (by rw [← e2]; exact X'.warmed.alike) hp hb k1 k2 k3 T' rfl X'
    exact ⟨t2, st t2 a1, b1⟩
  · obtain ⟨k1, k2, k3⟩ := vx_keep h0 e1 hS hAX hf hL hF
    obtain ⟨t2, a1, b1⟩ := kx E ce q u t T'.heap (locs ++ L) e1.symm (by rw [← e2]; exact X'.warmed.alike) hp hb k1 k2 k3 (by rw [e1]; exact hce) hcv hcl T' rfl X'
    exact ⟨t2, st.trans a1, b1⟩
theorem vx_callf {S SX : Type} {post : UInt32 → S → Prop} {px : SX → Prop} {B : S → State → Prop} {BX : String → SX → State → Prop} {AX : Nat → Prop} (hr : vx_Run p l e R s m args below meth c H locs cells slots mc ms (F0 m pc ls st0) rest (va_Qf post B A1 a) (vx_X px BX AX) free) (hS : va_S A0 H0 H locs) (hA : ∀ q, q < H.size → A1 q → A0 q) (hf : ∀ q, free q → A0 q) (hAX : ∀ q, q < H.size → AX q → A0 q)
    (kx : ∀ (E : String) (ce : Cell) (q9 : Addr) (u : SX) (t : State) (H1 : Heap) (locs1 : List Loc), t.heap = H1 → s.vm.Alike t.vm → px u → BX E u t → H.size ≤ H1.size → (∀ q : Nat, q < H.size → ¬ AX q → H1[q]? = H[q]?) → va_S A0 H0 H1 locs1 → H1[q9]? = some ce → ce.vm = .none → s.vm.findClass E = some ce.cls → vx_W p l e R s m args below meth c H1 locs1 (cells + mc) (slots + ms) Q (F0 m pc ls rest) q9)
    (kk : ∀ (r : UInt32) (u : S) (t : State) (H1 : Heap) (locs1 : List Loc), t.heap = H1 → s.vm.Alike t.vm → post r u → B u t → H.size ≤ H1.size → (∀ q : Nat, q < H.size → ¬ A1 q → H1[q]? = H[q]?) → va_S A0 H0 H1 locs1 → W p l e R s m args below meth c H1 locs1 (cells + mc) (slots + ms) Q (F0 m (pc + 3) ls (.float r :: rest))) : W p l e R s m args below meth c H locs cells slots Q (F0 m pc ls st0) := by
  intro T hT X
  rcases hr T hT X with ⟨v, st₀, t, T', L, h0, X', hL, e1, e2, ⟨⟨r, u, hv, hp, hb⟩, hF⟩, st⟩ | ⟨q, st₀, t, T', L, E, ce, h0, X', hL, e1, e2, ⟨u, hp, hb, hF⟩, hce, hcv, hcl, st⟩
  · cases hv
    obtain ⟨k1, k2, k3⟩ := vx_keep h0 e1 hS hA hf hL hF
    obtain ⟨t2, a1, b1⟩ := kk r u t T'.heap (locs ++ L) e1.symm (by rw [← e2]; exact X'.warmed.alike) hp hb k1 k2 k3 T' rfl X'
    exact ⟨t2, st t2 a1, b1⟩
  · obtain ⟨k1, k2, k3⟩ := vx_keep h0 e1 hS hAX hf hL hF
    obtain ⟨t2, a1, b1⟩ := kx E ce q u t T'.heap (locs ++ L) e1.symm (by rw [← e2]; exact X'.warmed.alike) hp hb k1 k2 k3 (by rw [e1]; exact hce) hcv hcl T' rfl X'
    exact ⟨t2, st.trans a1, b1⟩
theorem vx_calld {S SX : Type} {post : UInt64 → S → Prop} {px : SX → Prop} {B : S → State → Prop} {BX : String → SX → State → Prop} {AX : Nat → Prop} (hr : vx_Run p l e R s m args below meth c H locs cells slots mc ms (F0 m pc ls st0) rest (va_Qd post B A1 a) (vx_X px BX AX) free) (hS : va_S A0 H0 H locs) (hA : ∀ q, q < H.size → A1 q → A0 q) (hf : ∀ q, free q → A0 q) (hAX : ∀ q, q < H.size → AX q → A0 q)
    (kx : ∀ (E : String) (ce : Cell) (q9 : Addr) (u : SX) (t : State) (H1 : Heap) (locs1 : List Loc), t.heap = H1 → s.vm.Alike t.vm → px u → BX E u t → H.size ≤ H1.size → (∀ q : Nat, q < H.size → ¬ AX q → H1[q]? = H[q]?) → va_S A0 H0 H1 locs1 → H1[q9]? = some ce → ce.vm = .none → s.vm.findClass E = some ce.cls → vx_W p l e R s m args below meth c H1 locs1 (cells + mc) (slots + ms) Q (F0 m pc ls rest) q9)
    (kk : ∀ (r : UInt64) (u : S) (t : State) (H1 : Heap) (locs1 : List Loc), t.heap = H1 → s.vm.Alike t.vm → post r u → B u t → H.size ≤ H1.size → (∀ q : Nat, q < H.size → ¬ A1 q → H1[q]? = H[q]?) → va_S A0 H0 H1 locs1 → W p l e R s m args below meth c H1 locs1 (cells + mc) (slots + ms) Q (F0 m (pc + 3) ls (.double r :: rest))) : W p l e R s m args below meth c H locs cells slots Q (F0 m pc ls st0) := by
  intro T hT X
  rcases hr T hT X with ⟨v, st₀, t, T', L, h0, X', hL, e1, e2, ⟨⟨r, u, hv, hp, hb⟩, hF⟩, st⟩ | ⟨q, st₀, t, T', L, E, ce, h0, X', hL, e1, e2, ⟨u, hp, hb, hF⟩, hce, hcv, hcl, st⟩
  · cases hv
    obtain ⟨k1, k2, k3⟩ := vx_keep h0 e1 hS hA hf hL hF
    obtain ⟨t2, a1, b1⟩ := kk r u t T'.heap (locs ++ L) e1.symm (by rw [← e2]; exact X'.warmed.alike) hp hb k1 k2 k3 T' rfl X'
    exact ⟨t2, st t2 a1, b1⟩
  · obtain ⟨k1, k2, k3⟩ := vx_keep h0 e1 hS hAX hf hL hF
    obtain ⟨t2, a1, b1⟩ := kx E ce q u t T'.heap (locs ++ L) e1.symm (by rw [← e2]; exact X'.warmed.alike) hp hb k1 k2 k3 (by rw [e1]; exact hce) hcv hcl T' rfl X'
    exact ⟨t2, st.trans a1, b1⟩
theorem vx_callv {S SX : Type} {post : S → Prop} {px : SX → Prop} {B : S → State → Prop} {BX : String → SX → State → Prop} {AX : Nat → Prop} (hr : vx_Run p l e R s m args below meth c H locs cells slots mc ms (F0 m pc ls st0) rest (va_Qv post B A1 a) (vx_X px BX AX) free) (hS : va_S A0 H0 H locs) (hA : ∀ q, q < H.size → A1 q → A0 q) (hf : ∀ q, free q → A0 q) (hAX : ∀ q, q < H.size → AX q → A0 q)
    (kx : ∀ (E : String) (ce : Cell) (q9 : Addr) (u : SX) (t : State) (H1 : Heap) (locs1 : List Loc), t.heap = H1 → s.vm.Alike t.vm → px u → BX E u t → H.size ≤ H1.size → (∀ q : Nat, q < H.size → ¬ AX q → H1[q]? = H[q]?) → va_S A0 H0 H1 locs1 → H1[q9]? = some ce → ce.vm = .none → s.vm.findClass E = some ce.cls → vx_W p l e R s m args below meth c H1 locs1 (cells + mc) (slots + ms) Q (F0 m pc ls rest) q9)
    (kk : ∀ (u : S) (t : State) (H1 : Heap) (locs1 : List Loc), t.heap = H1 → s.vm.Alike t.vm → post u → B u t → H.size ≤ H1.size → (∀ q : Nat, q < H.size → ¬ A1 q → H1[q]? = H[q]?) → va_S A0 H0 H1 locs1 → W p l e R s m args below meth c H1 locs1 (cells + mc) (slots + ms) Q (F0 m (pc + 3) ls (rest))) : W p l e R s m args below meth c H locs cells slots Q (F0 m pc ls st0) := by
  intro T hT X
  rcases hr T hT X with ⟨v, st₀, t, T', L, h0, X', hL, e1, e2, ⟨⟨u, hv, hp, hb⟩, hF⟩, st⟩ | ⟨q, st₀, t, T', L, E, ce, h0, X', hL, e1, e2, ⟨u, hp, hb, hF⟩, hce, hcv, hcl, st⟩
  · cases hv
    obtain ⟨k1, k2, k3⟩ := vx_keep h0 e1 hS hA hf hL hF
    obtain ⟨t2, a1, b1⟩ := kk u t T'.heap (locs ++ L) e1.symm (by rw [← e2]; exact X'.warmed.alike) hp hb k1 k2 k3 T' rfl X'
    exact ⟨t2, st t2 a1, b1⟩
  · obtain ⟨k1, k2, k3⟩ := vx_keep h0 e1 hS hAX hf hL hF
    obtain ⟨t2, a1, b1⟩ := kx E ce q u t T'.heap (locs ++ L) e1.symm (by rw [← e2]; exact X'.warmed.alike) hp hb k1 k2 k3 (by rw [e1]; exact hce) hcv hcl T' rfl X'
    exact ⟨t2, st.trans a1, b1⟩
/-- caught by the row x of this method's table; the rows ahead don't take it -/
theorem vx_catch {own name : String} {E : String} {ce : Cell} {q : Addr} (hown : s.vm.findClass own = some m.cls) (pre : List ExceptionTableEntry) (x : ExceptionTableEntry) (suf : List ExceptionTableEntry) (hsplit : c.exceptionTable.toList = pre ++ x :: suf)
    (hpass : ∀ z ∈ pre, covers z pc = false ∨ (z.catchType ≠ 0 ∧ ∃ nm : String, (Cond.classLink own z.catchType nm).before args s = true ∧ va_Nc E nm s)) (hx : covers x pc = true) (h0 : x.catchType ≠ 0)
    (hlink : (Cond.classLink own x.catchType name).before args s = true) (hcast : (Cond.castable E name).before args s = true) (hcell : H[q]? = some ce) (hv : ce.vm = .none) (hcl : s.vm.findClass E = some ce.cls)
    (kk : W p l e R s m args below meth c H locs cells slots Q (F0 m x.handlerPc ls [.ref q])) : vx_W p l e R s m args below meth c H locs cells slots Q (F0 m pc ls rest) q := by
  intro T hT X
  have hpl : e.platform.magicAccessors = ({} : Platform).magicAccessors := by rw [X.admits.platform]
  obtain ⟨c3, c4, hc3, hc4, hasg⟩ := Cond.castable_spec hcast
  cases Option.some.inj (hc3.symm.trans hcl)
  obtain ⟨c5, hc5, hcl5⟩ := Cond.classLink_spec hown hlink e.platform hpl
  cases Option.some.inj (hc4.symm.trans hc5)
  obtain ⟨vm', X', st⟩ := X.thenCaughtThrough q (g := F0 m pc ls rest) rfl (Steps.refl _) (by rw [hT]; exact hcell) (by rw [hv]; rfl) (by obtain ⟨k9, h9, -⟩ := Vm.findClass_spec hcl; exact ⟨k9, h9⟩) pre x suf hsplit
    (fun z hz => by
      rcases hpass z hz with h | ⟨hz0, nm, hl1, hn1⟩
      · exact Or.inl h
      · obtain ⟨c6, hc6, hcl6⟩ := Cond.classLink_spec hown hl1 e.platform hpl
        obtain ⟨a8, b8, h1, h2, h3⟩ := hn1
        cases Option.some.inj (h1.symm.trans hcl)
        cases Option.some.inj (h2.symm.trans hc6)
        exact Or.inr ⟨hz0, _, hcl6, h3⟩) hx (Or.inr ⟨h0, c4, hcl5, hasg⟩)
  obtain ⟨t, a1, b1⟩ := kk (T.setVm vm') hT X'
  exact ⟨t, st.trans a1, b1⟩
end Rows
section Ends
variable {p : Program} {l : Launch} {e : Env} {R : Room} {s : State} {m : MethodId} {args : Array Value} {below : List Frame} {meth : Method} {c : Code} {H : Heap} {locs : List Loc} {cells slots : Nat} {Q : State → Prop}
variable {mc ms : Nat} {free : Addr → Prop} {A0 A1 : Nat → Prop} {H0 : Heap} {a : Array Value} {ls : Array Slot} {st0 rest : List Value}
variable {Qc : Array Value → State → Outcome → State → Prop} {XC : String → State → State → Prop}
/-- what a body that may throw owes at its end -/
def vx_MQ (below : List Frame) (Qc : Array Value → State → Outcome → State → Prop) (XC : String → State → State → Prop) (a : Array Value) (s : State) (mc ms : Nat) (free : Addr → Prop) : State → Prop := fun t =>
  ∃ o, t.status = .running ∧ Ended t below o ∧ vx_Q Qc XC mc ms free a s o t
theorem vx_ret {g : JFrame} {mc ms : Nat} (k : W p l e R s m args below meth c H locs cells slots (MQ below Qc args s mc ms free) g) : W p l e R s m args below meth c H locs cells slots (vx_MQ below Qc XC args s mc ms free) g := by
  intro T hT X
  obtain ⟨t, a1, o, b1, b2, b3, b4⟩ := k T hT X
  exact ⟨t, a1, o, b1, b2, Or.inl ⟨b3, b4⟩⟩
/-- not caught here: it goes on to the caller -/
theorem vx_widen {g : JFrame} {q : Addr} {k n : Nat} (h1 : cells ≤ k) (h2 : slots ≤ n) (kk : vx_W p l e R s m args below meth c H locs k n Q g q) : vx_W p l e R s m args below meth c H locs cells slots Q g q := fun T hT X => kk T hT (stand_widen X h1 h2)
theorem vx_out {pc : Nat} {E : String} {ce : Cell} {q : Addr} {mc ms : Nat} (hout : ∀ x ∈ c.exceptionTable.toList, covers x pc = false) (hlocks : meth.locks = false) (hcell : H[q]? = some ce) (hv : ce.vm = .none) (hcl : s.vm.findClass E = some ce.cls)
    (hx : ∀ t : State, t.heap = H → s.vm.Alike t.vm → XC E s t) (hf : ∀ z ∈ locs, free z.base) (hc : cells ≤ mc) (hs : slots ≤ ms) :
    vx_W p l e R s m args below meth c H locs cells slots (vx_MQ below Qc XC args s mc ms free) (F0 m pc ls rest) q := by
  intro T hT X
  obtain ⟨st1, hrun, hend, hW, hsm⟩ := X.leaveThrown q (g := F0 m pc ls rest) rfl rfl rfl hout hlocks
  have hcell9 : (T.setFrames (.throwing q :: below)).heap[q]? = some ce := by
    show T.heap[q]? = some ce
    rw [hT]; exact hcell
  exact ⟨_, st1, .threw q, hrun, hend, Or.inr ⟨q, rfl, E, ce, locs, hx _ hT hW.alike, hcell9, hv, hcl, hW, hsm.mono hc hs, hf⟩⟩
theorem vx_frame {U : State} {k n : Nat} (h : s.sameButNew ({ U with vm := s.vm } : State) locs k n) : s.heap.size ≤ U.heap.size ∧ ∀ q : Nat, q < s.heap.size → (∀ z ∈ locs, z.base ≠ q) → U.heap[q]? = s.heap[q]? := by
  obtain ⟨-, h2, -, -, -, h6⟩ := h
  refine ⟨h2, fun q hq hz => ?_⟩
  obtain ⟨c9, e1, e2, e3, e4⟩ := h6 q _ (Array.getElem?_eq_getElem hq)
  have hs : c9.slots = (s.heap[q]).slots := Array.ext_getElem? fun i => e4 i fun hm => hz _ hm rfl
  have h9 : c9 = s.heap[q] := by
    rw [hs] at e2
    exact e2
  have e5 : U.heap[q]? = some c9 := e1
  rw [e5, h9, Array.getElem?_eq_getElem hq]
/-- the words of a throw but the four that speak of the heap -/
def vx_no (w : Cond) : Bool := decide (w ≠ .isRef (.static Bundle.tN "UNASSIGNED_STACK" Bundle.steD)) && decide (w ≠ .isRef (.static Bundle.tN "SUPPRESSED_SENTINEL" Bundle.listD)) && decide (w ≠ .laysStatic Bundle.tN "UNASSIGNED_STACK" Bundle.steD) && decide (w ≠ .laysStatic Bundle.tN "SUPPRESSED_SENTINEL" Bundle.listD)
def vx_at0 (own : String) (ic : Nat) (X : String) (names : List String) : List Cond := (Bundle.ownAtoms0 own ic X names).filter vx_no
def vx_atS (own : String) (ic : Nat) (X : String) (names : List String) : List Cond := (Bundle.ownAtoms own ic X names).filter vx_no
/-- a word that the tables alone decide, or a good one -/
def vx_ot (w : Cond) : Bool := w.onTables || goodWord w
theorem vx_ot_at {args a' : Array Value} {s U : State} {w : Cond} (hW : s.WarmedH U.vm) (hvm : s.vm = U.vm) (hg : vx_ot w = true) (h : w.before args s = true) : w.before a' U = true := by
  simp only [vx_ot, Bool.or_eq_true] at hg
  rcases hg with hg | hg
  · exact va_tabs hg hvm h
  · exact word_at hW (good_of_word hg) h
/-- a list's words: the good ones out of the method's own list, the others by premises of their own -/
theorem vx_hat {args : Array Value} {s : State} {L B : List Cond} (h1 : ∀ w ∈ L.filter goodWord, w.before args s = true) (h2 : ∀ w ∈ L.filter (fun w => !goodWord w), w ∈ B) (h3 : ∀ w ∈ B, w.before args s = true) : ∀ w ∈ L, w.before args s = true := by
  intro w hw
  by_cases g : goodWord w = true
  · exact h1 w (List.mem_filter.mpr ⟨hw, g⟩)
  · refine h3 w (h2 w (List.mem_filter.mpr ⟨hw, ?_⟩))
    show (!goodWord w) = true
    cases hgw : goodWord w
    · rfl
    · exact absurd hgw g
theorem vx_c {args : Array Value} {s : State} {w : Cond} {B : List Cond} (h : w.before args s = true) (t : ∀ w ∈ B, w.before args s = true) : ∀ w' ∈ w :: B, w'.before args s = true := fun w' h' => (List.mem_cons.mp h').elim (fun e => by rw [e]; exact h) (t w')
theorem vx_n {args : Array Value} {s : State} : ∀ w ∈ ([] : List Cond), w.before args s = true := fun _ h => nomatch h
theorem vx_own {args : Array Value} {s : State} {L : List Cond} (h1 : ∀ w ∈ L.filter vx_no, w.before args s = true)
    (hU : (Cond.isRef (.static Bundle.tN "UNASSIGNED_STACK" Bundle.steD)).before args s = true) (hN : (Cond.isRef (.static Bundle.tN "SUPPRESSED_SENTINEL" Bundle.listD)).before args s = true)
    (lU : (Cond.laysStatic Bundle.tN "UNASSIGNED_STACK" Bundle.steD).before args s = true) (lN : (Cond.laysStatic Bundle.tN "SUPPRESSED_SENTINEL" Bundle.listD).before args s = true) : ∀ w ∈ L, w.before args s = true := by
  intro w hw
  by_cases e1 : w = .isRef (.static Bundle.tN "UNASSIGNED_STACK" Bundle.steD)
  · rw [e1]; exact hU
  · by_cases e2 : w = .isRef (.static Bundle.tN "SUPPRESSED_SENTINEL" Bundle.listD)
    · rw [e2]; exact hN
    · by_cases e3 : w = .laysStatic Bundle.tN "UNASSIGNED_STACK" Bundle.steD
      · rw [e3]; exact lU
      · by_cases e4 : w = .laysStatic Bundle.tN "SUPPRESSED_SENTINEL" Bundle.listD
        · rw [e4]; exact lN
        · exact h1 w (List.mem_filter.mpr ⟨hw, by unfold vx_no; rw [decide_eq_true e1, decide_eq_true e2, decide_eq_true e3, decide_eq_true e4]; rfl⟩)
/-- where a static field lies, its class's statics cell in H -/
def vx_L (C n d : String) (A : Nat → Prop) (U : State) (H : Heap) : Prop := ∃ (c : ClassId) (k : Class) (i : Nat) (f : Field) (a : Nat) (cell : Cell), U.vm.findClass C = some c ∧ U.fieldFound? C n d = some (c, k, i, f) ∧ f.isStatic = true ∧ k.statics = some a ∧ H[a]? = some cell ∧ cell.vm.isStatics = true ∧ cell.cls = c ∧ f.slot < cell.slots.size ∧ k.staticTypes[f.slot]? = some f.type ∧ ¬ A a
theorem vx_L.moved {C n d : String} {A : Nat → Prop} {u U : State} {H : Heap} (hvm : u.vm.Alike U.vm) (h : vx_L C n d A u H) : vx_L C n d A U H := by
  obtain ⟨c, k, i, f, a, cell, h1, h2, h3, h4, h5, h6, h7, h8, h9, h10⟩ := h
  obtain ⟨k', hi', he⟩ := State.fieldFound?_setVm hvm h2
  exact ⟨c, k', i, f, a, cell, by rw [hvm.findClass]; exact h1, hi', h3, by rw [he]; exact h4, h5, h6, h7, h8, by rw [he]; exact h9, h10⟩
theorem vx_L.kept {C n d : String} {A : Nat → Prop} {U : State} {H H1 : Heap} (h : vx_L C n d A U H) (hq : ∀ a : Nat, a < H.size → ¬ A a → H1[a]? = H[a]?) : vx_L C n d A U H1 := by
  obtain ⟨c, k, i, f, a, cell, h1, h2, h3, h4, h5, h6, h7, h8, h9, h10⟩ := h
  exact ⟨c, k, i, f, a, cell, h1, h2, h3, h4, by rw [hq a (Array.getElem?_eq_some_iff.mp h5).1 h10]; exact h5, h6, h7, h8, h9, h10⟩
theorem vx_L.narrow {C n d : String} {A B : Nat → Prop} {U : State} {H : Heap} (h : vx_L C n d A U H) (hAB : ∀ q, B q → A q) : vx_L C n d B U H := by
  obtain ⟨c, k, i, f, a, cell, h1, h2, h3, h4, h5, h6, h7, h8, h9, h10⟩ := h
  exact ⟨c, k, i, f, a, cell, h1, h2, h3, h4, h5, h6, h7, h8, h9, fun z => h10 (hAB _ z)⟩
theorem vx_L.word {C n d : String} {A : Nat → Prop} {s : State} {args : Array Value} (h : vx_L C n d A s s.heap) : (Cond.laysStatic C n d).before args s = true := by
  obtain ⟨c, k, i, f, a, cell, h1, h2, h3, h4, h5, h6, h7, h8, h9, -⟩ := h
  show (Cond.laysStatic C n d).holds args s none s [] = true
  exact Cond.laysStatic_of h1 h2 h3 h4 h5 h6 h7 h8 h9
/-- .. and what it holds: null or some reference -/
def vx_Zq (C n d : String) (A : Nat → Prop) (U : State) (H : Heap) : Prop := va_Zq C n d A U H ∧ vx_L C n d A U H
theorem vx_Zq.moved {C n d : String} {A : Nat → Prop} {u U : State} {H : Heap} (hvm : u.vm.Alike U.vm) (h : vx_Zq C n d A u H) : vx_Zq C n d A U H := ⟨va_Zq.moved hvm h.1, vx_L.moved hvm h.2⟩
theorem vx_Zq.kept {C n d : String} {A : Nat → Prop} {U : State} {H H1 : Heap} (h : vx_Zq C n d A U H) (hq : ∀ a : Nat, a < H.size → ¬ A a → H1[a]? = H[a]?) : vx_Zq C n d A U H1 := ⟨va_Zq.kept h.1 hq, vx_L.kept h.2 hq⟩
theorem vx_Zq.narrow {C n d : String} {A B : Nat → Prop} {U : State} {H : Heap} (h : vx_Zq C n d A U H) (hAB : ∀ q, B q → A q) : vx_Zq C n d B U H := ⟨va_Zq.narrow h.1 hAB, vx_L.narrow h.2 hAB⟩
theorem vx_Zqof {args : Array Value} {s : State} {C n d : String} {A : Nat → Prop} (hl : (Cond.laysStatic C n d).before args s = true) (hini : (Cond.initialized C).before args s = true) (h : (Cond.isRef (.static C n d)).before args s = true) (hA : ∀ a : Nat, a < s.heap.size → ¬ A a) : vx_Zq C n d A s s.heap := by
  refine ⟨va_Zqof hl hini h hA, ?_⟩
  obtain ⟨c, k, i, f, a, cell, h1, h2, h3, h4, h5, h6, h7, h8, h9⟩ := Cond.laysStatic_spec hl
  exact ⟨c, k, i, f, a, cell, h1, h2, h3, h4, h5, h6, h7, h8, h9, hA a (Array.getElem?_eq_some_iff.mp h5).1⟩
theorem vx_isRef {C n d : String} {v : Value} {A : Nat → Prop} {s : State} {args : Array Value} (h : va_Z C n d v A s s.heap) (hv : v.isRef = true) : (Cond.isRef (.static C n d)).before args s = true := by
  obtain ⟨cf, kf, fi, f, a, cell, h1, h2, h3, h4, h5, h6, h7, -⟩ := h
  have he : (Term.static C n d).eval args s none [] s = some v := by
    simp [Term.eval, State.fieldNamed?, h1, h2, h4, h5, h6, h7]
  simp only [Cond.before, Cond.holds, Cond.value, he]
  cases v <;> simp_all [Value.isRef]
theorem vx_isRefq {C n d : String} {A : Nat → Prop} {s : State} {args : Array Value} (h : va_Zq C n d A s s.heap) : (Cond.isRef (.static C n d)).before args s = true := by
  rcases h with h | ⟨t, h⟩
  · exact vx_isRef h rfl
  · exact vx_isRef h rfl
/-- the same frame, seen from here: as if the method were called anew in this heap -/
theorem vx_rebase {T : State} (X : Stand p l e R s m args below meth c T locs cells slots) {R' : Room} (hf : R'.frames ≤ R.frames) (hl : R'.locals ≤ R.locals) (hc : cells + R'.cells ≤ R.cells) (hs : slots + R'.slots ≤ R.slots) :
    Stand p l e R' ((T.setVm s.vm).setFrames (.invoking m args :: below)) m args below meth c T [] 0 0 := by
  have htop : (T.setVm s.vm).topJava?.isSome := X.here.top
  have hF : ((T.setVm s.vm).setFrames (.invoking m args :: below)).frames = .invoking m args :: below := State.frames_setFrames _ (State.cur_lt_of_top htop)
  obtain ⟨g₀, hg0⟩ := Option.isSome_iff_exists.mp htop
  obtain ⟨r, hr⟩ := State.topJava?_eq_some.mp hg0
  have hl9 : e.platform.stackLimits (T.setVm s.vm).me = e.platform.stackLimits s.me := X.limits
  have hb9 : (T.setVm s.vm).me.stackBytes = s.me.stackBytes := X.bytes
  refine ⟨X.admits, X.cas, X.clock, hF, ?_, X.hears, X.method, X.code, X.here, X.tail, X.warmed, ?_, ?_, ?_⟩
  · have h := X.room
    have hU : ((T.setVm s.vm).setFrames (.invoking m args :: below)).localsInUse = s.localsInUse := by
      rw [State.localsInUse_invoking hF (meth := meth) (c := c) X.method X.code, State.localsInUse_invoking X.frames X.method X.code]
    simp only [State.hasRoom, Bool.and_eq_true, decide_eq_true_eq] at h ⊢
    obtain ⟨⟨⟨⟨h1, h2, h3, h4, h5, h6⟩, h7⟩, h8⟩, h9⟩ := h
    rw [X.frames, List.length_cons] at h2 h3
    have q1 := X.heapSize
    have q2 := X.used
    simp only [hF, hU, List.length_cons, State.stackLimits_setFrames, State.stackBytes_setFrames, hl9, hb9]
    refine ⟨⟨⟨⟨by omega, by omega, by omega, by omega, by omega, h6⟩, ?_⟩, ?_⟩, X.book⟩
    · show T.heap.size + R'.cells ≤ e.platform.maxCells
      omega
    · show T.slotsUsed + R'.slots ≤ e.platform.maxSlots
      omega
  · rw [State.stackLimits_setFrames]; rfl
  · rw [State.stackBytes_setFrames]; rfl
  · refine ⟨?_, Nat.le_refl _, Nat.le_refl _, ?_, ?_, fun a c9 h9 => ⟨c9, h9, rfl, rfl, fun _ _ => rfl⟩⟩
    · obtain ⟨t, ht, -⟩ := State.frames_cons hr
      show T.setVm s.vm = { ((T.setVm s.vm).setFrames (.invoking m args :: below)).setFrames (T.setVm s.vm).frames with heap := T.heap, slotsUsed := T.slotsUsed }
      rw [State.setFrames_setFrames, State.setFrames_self ht]
      rfl
    · show T.slotsUsed = T.slotsUsed + ((T.heap.toList.drop T.heap.size).map (·.slots.size)).sum
      rw [List.drop_eq_nil_of_le (Nat.le_of_eq Array.length_toList)]
      rfl
    · show ((T.heap.toList.drop T.heap.size).map (·.slots.size)).sum ≤ 0
      rw [List.drop_eq_nil_of_le (Nat.le_of_eq Array.length_toList)]
      exact Nat.le_refl _
/-- 'throw new E()': new; dup; invokespecial; athrow -/
theorem vx_throw0 {cc : ByteArray} {pc : Nat} (hexec : p.tables.exec = Jvm.exec) (hb : c.code = cc) (hl : l.stackTraces = false) {own cls : String} {names : List String} {ik ic mc ms : Nat} {A : Nat → Prop}
    (hown : s.vm.findClass own = some m.cls) (hcls : Bundle.fit cls = true) (hnames : ∀ n ∈ names, Bundle.fit n = true)
    (hk : (Cond.classLink own ik cls).before args s = true) (hini : (Cond.initialized cls).before args s = true) (hat : ∀ w ∈ vx_at0 own ic cls names, w.before args s = true)
    (hgood : ∀ w ∈ Cond.classLink own ik cls :: Cond.initialized cls :: vx_at0 own ic cls names, vx_ot w = true)
    (hU : vx_Zq Bundle.tN "UNASSIGNED_STACK" Bundle.steD A s s.heap) (hN : vx_Zq Bundle.tN "SUPPRESSED_SENTINEL" Bundle.listD A s s.heap) (hS : va_S A s.heap H locs) (hsize : ls.size = c.maxLocals)
    (d0 : decode cc pc = .ok (.new ik, 3)) (d3 : decode cc (pc + 3) = .ok (.dup, 1)) (d4 : decode cc (pc + 4) = .ok (.invokespecial ic, 3)) (d7 : decode cc (pc + 7) = .ok (.athrow, 1))
    (hout : ∀ x ∈ c.exceptionTable.toList, covers x (pc + 7) = false)
    (hRframes : names.length + 3 < R.frames) (hRlocals : (rest.map fun v => v.category).sum + (13 * (names.length + 1) + 42) ≤ R.locals) (hRcells : cells + 1 ≤ R.cells) (hRslots : slots + 6 ≤ R.slots) (hlocks : meth.locks = false)
    (hx : ∀ t : State, s.vm.Alike t.vm → H.size ≤ t.heap.size → (∀ q : Nat, q < H.size → t.heap[q]? = H[q]?) → XC cls s t)
    (hf : ∀ z ∈ locs, free z.base) (hc : cells + 1 ≤ mc) (hs : slots + 6 ≤ ms) :
    W p l e R s m args below meth c H locs cells slots (vx_MQ below Qc XC args s mc ms free) (F0 m pc ls rest) := by
  intro T hT X
  have htr : e.platform.stackTraces = false := (show e.platform.stackTraces = l.stackTraces by rw [X.admits.platform]).trans hl
  have Y := vx_rebase X (R' := { frames := R.frames, locals := R.locals, cells := 1, slots := 6 }) (Nat.le_refl _) (Nat.le_refl _) hRcells hRslots
  obtain ⟨s', hA⟩ : ∃ z, z = (T.setVm s.vm).setFrames (.invoking m args :: below) := ⟨_, rfl⟩
  rw [← hA] at Y
  have hvm : s'.vm = s.vm := by rw [hA]; rfl
  have hhp : s'.heap = H := by rw [hA]; exact hT
  have hW0 : s.WarmedH s'.vm := by rw [hvm]; exact State.WarmedH.refl s
  have hat' : ∀ w ∈ vx_at0 own ic cls names, w.before args s' = true := fun w hw => vx_ot_at hW0 hvm.symm (hgood w (List.mem_cons_of_mem _ (List.mem_cons_of_mem _ hw))) (hat w hw)
  have hk' : (Cond.classLink own ik cls).before args s' = true := vx_ot_at hW0 hvm.symm (hgood _ List.mem_cons_self) hk
  have hini' : (Cond.initialized cls).before args s' = true := vx_ot_at hW0 hvm.symm (hgood _ (List.mem_cons_of_mem _ List.mem_cons_self)) hini
  have hU' : vx_Zq Bundle.tN "UNASSIGNED_STACK" Bundle.steD A s' s'.heap := by rw [hhp]; exact vx_Zq.moved hW0.alike (hU.kept hS.2.1)
  have hN' : vx_Zq Bundle.tN "SUPPRESSED_SENTINEL" Bundle.listD A s' s'.heap := by rw [hhp]; exact vx_Zq.moved hW0.alike (hN.kept hS.2.1)
  have h : ∀ w ∈ Bundle.ownAtoms0 own ic cls names, w.before args s' = true := vx_own hat' (vx_isRefq hU'.1) (vx_isRefq hN'.1) hU'.2.word hN'.2.word
  have hown' : s'.vm.findClass own = some m.cls := by rw [hvm]; exact hown
  have hins : (Cond.instantiable cls 6).before args s' = true := h _ (by simp [Bundle.ownAtoms0])
  obtain ⟨vm₁, cX, kX, hfX, hkX, -, -, X₁, st1⟩ := Y.newCold hexec (own := own) (C := cls) (index := ik) (n := 6) hown' hk' hins hini'
    (g := F0 m pc ls rest) rfl (by rw [hb]; exact d0) (Nat.le_refl _) (Nat.le_refl _)
  generalize hT1 : (T.setVm vm₁).pushCell { cls := cX, slots := kX.instanceTypes.map defaultValue, vm := .none } = T1 at X₁ st1
  have hcat : (Value.ref T.heap.size).category = 1 := rfl
  have hcellA : T1.heap[T.heap.size]? = some (freshCell cX kX) := by rw [← hT1]; exact State.heap_pushCell_size _ _
  have d3' : decode c.code (pc + 3) = .ok (.dup, 1) := by rw [hb]; exact d3
  obtain ⟨U, hsteps, hrun, hend, hW, hsame, ce, hce, hO⟩ := X₁.ctorThrow0 hexec htr (own := own) (cls := cls) (names := names) (ic := ic) hown' hcls hnames h (fun x hx => nomatch hx) hfX hkX hcellA (by rw [hhp, hT]; exact Nat.le_refl _)
    (g := { method := m, pc := pc + 4, locals := ls, stack := .ref T.heap.size :: .ref T.heap.size :: rest, locked := none }) rfl hsize rfl rfl (rest := rest) rfl
    (by rw [hb]; exact d4) (by rw [hb]; exact d7) hout hRframes (by simp only [List.map_cons, List.sum_cons, hcat]; omega) hlocks
  obtain ⟨f1, f2⟩ := vx_frame hsame
  rw [hhp] at f1 f2
  have hWs : s.WarmedH U.vm := State.WarmedH.trans hW0 hW
  have hcl : s.vm.findClass cls = some ce.cls := by
    have h9 := hO.cls
    rw [hvm] at h9
    exact h9
  have hall : s.sameButNew ({ U with vm := s.vm } : State) locs mc ms := by
    subst hA
    obtain ⟨e1, e2⟩ := hsame
    rw [State.setFrames_setFrames] at e1
    have h2 : (T.setVm s.vm).sameButNew ({ U with vm := s.vm } : State) [] (0 + 1) (0 + 6) := ⟨e1, e2⟩
    have h3 := X.same.trans h2
    rw [List.append_nil] at h3
    exact h3.mono hc hs
  refine ⟨U, ?_, .threw T.heap.size, hrun, hend, Or.inr ⟨T.heap.size, rfl, cls, ce, locs, hx U hWs.alike f1 (fun q hq => f2 q hq (fun z hz => nomatch hz)), hce, hO.vm, hcl, hWs, hall, hf⟩⟩
  refine st1 _ ?_
  show Steps p.tables e below (T1.setTop { method := m, pc := pc + 3, locals := ls, stack := .ref T.heap.size :: rest, locked := none }) _
  jvm_step X₁.here [X₁.here.top, hexec, d3', Value.category]
  exact hsteps
/-- 'throw new E("text")': new; dup; ldc; invokespecial; athrow -/
theorem vx_throwS {cc : ByteArray} {pc : Nat} (hexec : p.tables.exec = Jvm.exec) (hb : c.code = cc) (hl : l.stackTraces = false) {own cls text : String} {names : List String} {ik is ic mc ms sa : Nat} {A : Nat → Prop}
    (hown : s.vm.findClass own = some m.cls) (hcls : Bundle.fit cls = true) (hnames : ∀ n ∈ names, Bundle.fit n = true)
    (hk : (Cond.classLink own ik cls).before args s = true) (hini : (Cond.initialized cls).before args s = true) (hstr : vk_R own is text sa s) (hat : ∀ w ∈ vx_atS own ic cls names, w.before args s = true)
    (hgood : ∀ w ∈ Cond.classLink own ik cls :: Cond.initialized cls :: vx_atS own ic cls names, vx_ot w = true)
    (hU : vx_Zq Bundle.tN "UNASSIGNED_STACK" Bundle.steD A s s.heap) (hN : vx_Zq Bundle.tN "SUPPRESSED_SENTINEL" Bundle.listD A s s.heap) (hS : va_S A s.heap H locs) (hsize : ls.size = c.maxLocals)
    (d0 : decode cc pc = .ok (.new ik, 3)) (d3 : decode cc (pc + 3) = .ok (.dup, 1)) (d4 : decode cc (pc + 4) = .ok (.ldc is, 2)) (d6 : decode cc (pc + 6) = .ok (.invokespecial ic, 3)) (d9 : decode cc (pc + 9) = .ok (.athrow, 1))
    (hout : ∀ x ∈ c.exceptionTable.toList, covers x (pc + 9) = false)
    (hRframes : names.length + 3 < R.frames) (hRlocals : (rest.map fun v => v.category).sum + (13 * (names.length + 1) + 43) ≤ R.locals) (hRcells : cells + 1 ≤ R.cells) (hRslots : slots + 6 ≤ R.slots) (hlocks : meth.locks = false)
    (hx : ∀ t : State, s.vm.Alike t.vm → H.size ≤ t.heap.size → (∀ q : Nat, q < H.size → t.heap[q]? = H[q]?) → XC cls s t)
    (hf : ∀ z ∈ locs, free z.base) (hc : cells + 1 ≤ mc) (hs : slots + 6 ≤ ms) :
    W p l e R s m args below meth c H locs cells slots (vx_MQ below Qc XC args s mc ms free) (F0 m pc ls rest) := by
  intro T hT X
  have htr : e.platform.stackTraces = false := (show e.platform.stackTraces = l.stackTraces by rw [X.admits.platform]).trans hl
  have Y := vx_rebase X (R' := { frames := R.frames, locals := R.locals, cells := 1, slots := 6 }) (Nat.le_refl _) (Nat.le_refl _) hRcells hRslots
  obtain ⟨s', hA⟩ : ∃ z, z = (T.setVm s.vm).setFrames (.invoking m args :: below) := ⟨_, rfl⟩
  rw [← hA] at Y
  have hvm : s'.vm = s.vm := by rw [hA]; rfl
  have hhp : s'.heap = H := by rw [hA]; exact hT
  have hW0 : s.WarmedH s'.vm := by rw [hvm]; exact State.WarmedH.refl s
  have hat' : ∀ w ∈ vx_atS own ic cls names, w.before args s' = true := fun w hw => vx_ot_at hW0 hvm.symm (hgood w (List.mem_cons_of_mem _ (List.mem_cons_of_mem _ hw))) (hat w hw)
  have hk' : (Cond.classLink own ik cls).before args s' = true := vx_ot_at hW0 hvm.symm (hgood _ List.mem_cons_self) hk
  have hini' : (Cond.initialized cls).before args s' = true := vx_ot_at hW0 hvm.symm (hgood _ (List.mem_cons_of_mem _ List.mem_cons_self)) hini
  have hU' : vx_Zq Bundle.tN "UNASSIGNED_STACK" Bundle.steD A s' s'.heap := by rw [hhp]; exact vx_Zq.moved hW0.alike (hU.kept hS.2.1)
  have hN' : vx_Zq Bundle.tN "SUPPRESSED_SENTINEL" Bundle.listD A s' s'.heap := by rw [hhp]; exact vx_Zq.moved hW0.alike (hN.kept hS.2.1)
  have h : ∀ w ∈ Bundle.ownAtoms own ic cls names, w.before args s' = true := vx_own hat' (vx_isRefq hU'.1) (vx_isRefq hN'.1) hU'.2.word hN'.2.word
  have hown' : s'.vm.findClass own = some m.cls := by rw [hvm]; exact hown
  have hins : (Cond.instantiable cls 6).before args s' = true := h _ (by simp [Bundle.ownAtoms])
  obtain ⟨vm₁, cX, kX, hfX, hkX, -, -, X₁, st1⟩ := Y.newCold hexec (own := own) (C := cls) (index := ik) (n := 6) hown' hk' hins hini'
    (g := F0 m pc ls rest) rfl (by rw [hb]; exact d0) (Nat.le_refl _) (Nat.le_refl _)
  generalize hT1 : (T.setVm vm₁).pushCell { cls := cX, slots := kX.instanceTypes.map defaultValue, vm := .none } = T1 at X₁ st1
  have hcat : (Value.ref T.heap.size).category = 1 := rfl
  have hcellA : T1.heap[T.heap.size]? = some (freshCell cX kX) := by rw [← hT1]; exact State.heap_pushCell_size _ _
  have d3' : decode c.code (pc + 3) = .ok (.dup, 1) := by rw [hb]; exact d3
  have d4' : decode c.code (pc + 4) = .ok (.ldc is, 2) := by rw [hb]; exact d4
  have hstr' : vk_R own is text sa s' := vk_R.warm hW0 hstr
  obtain ⟨U, hsteps, hrun, hend, hW, hsame, ce, hce, hO⟩ := X₁.ctorThrowS hexec htr (own := own) (cls := cls) (names := names) (ic := ic) hown' hcls hnames h (fun x hx => nomatch hx) hfX hkX hcellA (by rw [hhp, hT]; exact Nat.le_refl _) (msg := .ref sa) rfl
    (g := { method := m, pc := pc + 6, locals := ls, stack := .ref sa :: .ref T.heap.size :: .ref T.heap.size :: rest, locked := none }) rfl hsize rfl rfl (rest := rest) rfl
    (by rw [hb]; exact d6) (by rw [hb]; exact d9) hout hRframes (by simp only [List.map_cons, List.sum_cons, hcat]; omega) hlocks
  obtain ⟨f1, f2⟩ := vx_frame hsame
  rw [hhp] at f1 f2
  have hWs : s.WarmedH U.vm := State.WarmedH.trans hW0 hW
  have hcl : s.vm.findClass cls = some ce.cls := by
    have h9 := hO.cls
    rw [hvm] at h9
    exact h9
  have hall : s.sameButNew ({ U with vm := s.vm } : State) locs mc ms := by
    subst hA
    obtain ⟨e1, e2⟩ := hsame
    rw [State.setFrames_setFrames] at e1
    have h2 : (T.setVm s.vm).sameButNew ({ U with vm := s.vm } : State) [] (0 + 1) (0 + 6) := ⟨e1, e2⟩
    have h3 := X.same.trans h2
    rw [List.append_nil] at h3
    exact h3.mono hc hs
  refine ⟨U, ?_, .threw T.heap.size, hrun, hend, Or.inr ⟨T.heap.size, rfl, cls, ce, locs, hx U hWs.alike f1 (fun q hq => f2 q hq (fun z hz => nomatch hz)), hce, hO.vm, hcl, hWs, hall, hf⟩⟩
  refine st1 _ ?_
  show Steps p.tables e below (T1.setTop { method := m, pc := pc + 3, locals := ls, stack := .ref T.heap.size :: rest, locked := none }) _
  jvm_step X₁.here [X₁.here.top, hexec, d3', Value.category]
  exact X₁.ldcString hexec (own := own) (text := text) (index := is) (a := sa) hown' hstr'.1 hstr'.2
    (g := { method := m, pc := pc + 4, locals := ls, stack := .ref T.heap.size :: .ref T.heap.size :: rest, locked := none }) rfl d4' _ hsteps
/-- 'throw new E("text")', the text by a wide index -/
theorem vx_throwSW {cc : ByteArray} {pc : Nat} (hexec : p.tables.exec = Jvm.exec) (hb : c.code = cc) (hl : l.stackTraces = false) {own cls text : String} {names : List String} {ik is ic mc ms sa : Nat} {A : Nat → Prop}
    (hown : s.vm.findClass own = some m.cls) (hcls : Bundle.fit cls = true) (hnames : ∀ n ∈ names, Bundle.fit n = true)
    (hk : (Cond.classLink own ik cls).before args s = true) (hini : (Cond.initialized cls).before args s = true) (hstr : vk_R own is text sa s) (hat : ∀ w ∈ vx_atS own ic cls names, w.before args s = true)
    (hgood : ∀ w ∈ Cond.classLink own ik cls :: Cond.initialized cls :: vx_atS own ic cls names, vx_ot w = true)
    (hU : vx_Zq Bundle.tN "UNASSIGNED_STACK" Bundle.steD A s s.heap) (hN : vx_Zq Bundle.tN "SUPPRESSED_SENTINEL" Bundle.listD A s s.heap) (hS : va_S A s.heap H locs) (hsize : ls.size = c.maxLocals)
    (d0 : decode cc pc = .ok (.new ik, 3)) (d3 : decode cc (pc + 3) = .ok (.dup, 1)) (d4 : decode cc (pc + 4) = .ok (.ldc_w is, 3)) (d7 : decode cc (pc + 7) = .ok (.invokespecial ic, 3)) (d10 : decode cc (pc + 10) = .ok (.athrow, 1))
    (hout : ∀ x ∈ c.exceptionTable.toList, covers x (pc + 10) = false)
    (hRframes : names.length + 3 < R.frames) (hRlocals : (rest.map fun v => v.category).sum + (13 * (names.length + 1) + 43) ≤ R.locals) (hRcells : cells + 1 ≤ R.cells) (hRslots : slots + 6 ≤ R.slots) (hlocks : meth.locks = false)
    (hx : ∀ t : State, s.vm.Alike t.vm → H.size ≤ t.heap.size → (∀ q : Nat, q < H.size → t.heap[q]? = H[q]?) → XC cls s t)
    (hf : ∀ z ∈ locs, free z.base) (hc : cells + 1 ≤ mc) (hs : slots + 6 ≤ ms) :
    W p l e R s m args below meth c H locs cells slots (vx_MQ below Qc XC args s mc ms free) (F0 m pc ls rest) := by
  intro T hT X
  have htr : e.platform.stackTraces = false := (show e.platform.stackTraces = l.stackTraces by rw [X.admits.platform]).trans hl
  have Y := vx_rebase X (R' := { frames := R.frames, locals := R.locals, cells := 1, slots := 6 }) (Nat.le_refl _) (Nat.le_refl _) hRcells hRslots
  obtain ⟨s', hA⟩ : ∃ z, z = (T.setVm s.vm).setFrames (.invoking m args :: below) := ⟨_, rfl⟩
  rw [← hA] at Y
  have hvm : s'.vm = s.vm := by rw [hA]; rfl
  have hhp : s'.heap = H := by rw [hA]; exact hT
  have hW0 : s.WarmedH s'.vm := by rw [hvm]; exact State.WarmedH.refl s
  have hat' : ∀ w ∈ vx_atS own ic cls names, w.before args s' = true := fun w hw => vx_ot_at hW0 hvm.symm (hgood w (List.mem_cons_of_mem _ (List.mem_cons_of_mem _ hw))) (hat w hw)
  have hk' : (Cond.classLink own ik cls).before args s' = true := vx_ot_at hW0 hvm.symm (hgood _ List.mem_cons_self) hk
  have hini' : (Cond.initialized cls).before args s' = true := vx_ot_at hW0 hvm.symm (hgood _ (List.mem_cons_of_mem _ List.mem_cons_self)) hini
  have hU' : vx_Zq Bundle.tN "UNASSIGNED_STACK" Bundle.steD A s' s'.heap := by rw [hhp]; exact vx_Zq.moved hW0.alike (hU.kept hS.2.1)
  have hN' : vx_Zq Bundle.tN "SUPPRESSED_SENTINEL" Bundle.listD A s' s'.heap := by rw [hhp]; exact vx_Zq.moved hW0.alike (hN.kept hS.2.1)
  have h : ∀ w ∈ Bundle.ownAtoms own ic cls names, w.before args s' = true := vx_own hat' (vx_isRefq hU'.1) (vx_isRefq hN'.1) hU'.2.word hN'.2.word
  have hown' : s'.vm.findClass own = some m.cls := by rw [hvm]; exact hown
  have hins : (Cond.instantiable cls 6).before args s' = true := h _ (by simp [Bundle.ownAtoms])
  obtain ⟨vm₁, cX, kX, hfX, hkX, -, -, X₁, st1⟩ := Y.newCold hexec (own := own) (C := cls) (index := ik) (n := 6) hown' hk' hins hini'
    (g := F0 m pc ls rest) rfl (by rw [hb]; exact d0) (Nat.le_refl _) (Nat.le_refl _)
  generalize hT1 : (T.setVm vm₁).pushCell { cls := cX, slots := kX.instanceTypes.map defaultValue, vm := .none } = T1 at X₁ st1
  have hcat : (Value.ref T.heap.size).category = 1 := rfl
  have hcellA : T1.heap[T.heap.size]? = some (freshCell cX kX) := by rw [← hT1]; exact State.heap_pushCell_size _ _
  have d3' : decode c.code (pc + 3) = .ok (.dup, 1) := by rw [hb]; exact d3
  have d4' : decode c.code (pc + 4) = .ok (.ldc_w is, 3) := by rw [hb]; exact d4
  have hstr' : vk_R own is text sa s' := vk_R.warm hW0 hstr
  obtain ⟨U, hsteps, hrun, hend, hW, hsame, ce, hce, hO⟩ := X₁.ctorThrowS hexec htr (own := own) (cls := cls) (names := names) (ic := ic) hown' hcls hnames h (fun x hx => nomatch hx) hfX hkX hcellA (by rw [hhp, hT]; exact Nat.le_refl _) (msg := .ref sa) rfl
    (g := { method := m, pc := pc + 7, locals := ls, stack := .ref sa :: .ref T.heap.size :: .ref T.heap.size :: rest, locked := none }) rfl hsize rfl rfl (rest := rest) rfl
    (by rw [hb]; exact d7) (by rw [hb]; exact d10) hout hRframes (by simp only [List.map_cons, List.sum_cons, hcat]; omega) hlocks
  obtain ⟨f1, f2⟩ := vx_frame hsame
  rw [hhp] at f1 f2
  have hWs : s.WarmedH U.vm := State.WarmedH.trans hW0 hW
  have hcl : s.vm.findClass cls = some ce.cls := by
    have h9 := hO.cls
    rw [hvm] at h9
    exact h9
  have hall : s.sameButNew ({ U with vm := s.vm } : State) locs mc ms := by
    subst hA
    obtain ⟨e1, e2⟩ := hsame
    rw [State.setFrames_setFrames] at e1
    have h2 : (T.setVm s.vm).sameButNew ({ U with vm := s.vm } : State) [] (0 + 1) (0 + 6) := ⟨e1, e2⟩
    have h3 := X.same.trans h2
    rw [List.append_nil] at h3
    exact h3.mono hc hs
  refine ⟨U, ?_, .threw T.heap.size, hrun, hend, Or.inr ⟨T.heap.size, rfl, cls, ce, locs, hx U hWs.alike f1 (fun q hq => f2 q hq (fun z hz => nomatch hz)), hce, hO.vm, hcl, hWs, hall, hf⟩⟩
  refine st1 _ ?_
  show Steps p.tables e below (T1.setTop { method := m, pc := pc + 3, locals := ls, stack := .ref T.heap.size :: rest, locked := none }) _
  jvm_step X₁.here [X₁.here.top, hexec, d3', Value.category]
  exact X₁.ldcStringW hexec (own := own) (text := text) (index := is) (a := sa) hown' hstr'.1 hstr'.2
    (g := { method := m, pc := pc + 4, locals := ls, stack := .ref T.heap.size :: .ref T.heap.size :: rest, locked := none }) rfl d4' _ hsteps
end Ends
section Bodies
variable {l : Launch}
theorem vx_ofW {y : MethodName} {ws ws' : List Cond} {rm : Room} {Pc : Array Value → State → Prop} {Qc : Array Value → State → Outcome → State → Prop} {XC : String → State → State → Prop} {mc ms : Nat} {free : Addr → Prop} {cc : ByteArray} {maxL : Nat} {ret : Option FieldType}
    (hy : plainName y.cls = true) (hw : ws = Cond.code y cc maxL ret :: ws')
    (body : ∀ p e s m args below meth c s₁, BodyLoose p l y (headSpec ws rm) cc maxL ret e s m args below meth c s₁ → c.maxLocals = maxL → (∀ x ∈ c.exceptionTable.toList, False) → Pc args s →
      W p l e (headSpec ws rm).room s m args below meth c s.heap [] 0 0 (vx_MQ below Qc XC args s mc ms free) (entryFrame m args maxL)) : vx_Met l y ws rm Pc Qc XC mc ms free := by
  refine MetFree.of_bodyS (code := cc) (maxLocals := maxL) (ret := ret) hy ?_ ?_
  · intro args s m h hn
    obtain ⟨meth, c, h1, h2, h3, h4, h5, h6, -, -⟩ := Cond.code_spec hn (atoms_spec (ws := ws) h _ (by rw [hw]; exact List.mem_cons_self))
    exact ⟨meth, c, h1, h2, h3, h4, h5, h6⟩
  · intro p e s m args below meth c s₁ B hml hP _
    have hh0 : s₁.heap = s.heap := by rw [B.state]; rfl
    have ht : ∀ x ∈ c.exceptionTable.toList, False := by
      obtain ⟨meth9, c9, h1, h2, -, -, -, -, h7, -⟩ := Cond.code_spec B.named (atoms_spec (ws := ws) B.pre _ (by rw [hw]; exact List.mem_cons_self))
      cases Option.some.inj (h1.symm.trans B.method)
      cases Option.some.inj (h2.symm.trans (Stand.of_body B).code)
      intro x hx
      rw [Array.isEmpty_iff.mp h7] at hx
      cases hx
    obtain ⟨t, a1, o, b1, b2, b3⟩ := body p e s m args below meth c s₁ B hml ht hP s₁ hh0 (Stand.of_body B)
    exact ⟨t, o, a1, b1, b2, b3⟩
/-- the table of a body with handlers -/
theorem vx_table {p : Program} {x y : MethodName} {S : Spec} {cc bytes : ByteArray} {maxL maxL' : Nat} {ret ret' : Option FieldType} {e : Env} {s s₁ : State} {m : MethodId} {args : Array Value} {below : List Frame} {meth : Method} {c : Code} {hh : List (Nat × Nat × Nat × Nat)}
    (B : BodyLoose p l y S cc maxL ret e s m args below meth c s₁) (h : (Cond.codeWith y bytes maxL' ret' hh).before args s = true) : c.exceptionTable.toList = tableOf hh := by
  obtain ⟨m9, meth9, c9, hn9, h1, h2, -, -, h6, -⟩ := Cond.codeWith_spec h
  cases Option.some.inj (hn9.symm.trans B.named)
  cases Option.some.inj (h1.symm.trans B.method)
  cases Option.some.inj (h2.symm.trans (Stand.of_body B).code)
  rw [← h6, table_eq]
end Bodies
end VXA
/-! ===== END ===== -/
/-! ===== BEGIN a static call of a method with an exception table ===== -/
section VXS
variable {p : Program} {l : Launch} {e : Env} {R : Room} {s : State} {m : MethodId} {args : Array Value} {below : List Frame} {meth : Method} {c : Code} {T : State} {H : Heap} {locs : List Loc} {cells slots : Nat}
abbrev vx_CSW (R : Room) (s : State) (args : Array Value) (own : String) (index : Nat) (y : MethodName) (bytes : ByteArray) (maxL : Nat) (ret : Option FieldType) (hh : List (Nat × Nat × Nat × Nat)) (ws : List Cond) (rm : Room) (mc ms n : Nat) : Prop :=
  (rm.cells = mc ∧ rm.slots = ms ∧ rm.frames + 1 ≤ R.frames ∧ 8 + (maxL + 11) + rm.locals ≤ R.locals ∧ (∀ w ∈ ws, ∀ (a' : Array Value) (U : State), s.WarmedH U.vm → w.before a' U = true) ∧ Cond.codeWith y bytes maxL ret hh ∈ ws) ∧
  (Cond.codeWith y bytes maxL ret hh).before args s = true ∧ (Cond.initialized y.cls).before args s = true ∧ (y.cls ≠ "java/lang/invoke/MethodHandle" ∧ y.cls ≠ "java/lang/invoke/VarHandle") ∧
  (∀ sig, parseMethodDescriptor y.desc = some sig → n = sig.parameters.length) ∧ (Cond.methodLink own index y).before args s = true ∧ (Cond.static y).before args s = true
theorem vx_cwSW {own : String} {index maxL mc ms : Nat} {y : MethodName} {bytes : ByteArray} {ret : Option FieldType} {hh : List (Nat × Nat × Nat × Nat)} {Ts ws ws' : List Cond} {rm : Room} (n : Nat) (ht : ∀ w ∈ Ts, w.before args s = true) (hT : GoodIn Ts (va_wsS own index y ws)) (hw : ws = Cond.codeWith y bytes maxL ret hh :: ws') (hrc : rm.cells = mc) (hrs : rm.slots = ms)
    (hd : y.cls ≠ "java/lang/invoke/MethodHandle" ∧ y.cls ≠ "java/lang/invoke/VarHandle" ∧ (parseMethodDescriptor y.desc).map (fun d => d.parameters.length) = some n) (hR : rm.frames + 1 ≤ R.frames ∧ 8 + (maxL + 11) + rm.locals ≤ R.locals) :
    vx_CSW R s args own index y bytes maxL ret hh ws rm mc ms n := by
  have ok : ∀ w ∈ va_wsS own index y ws, w.before args s = true := fun w h => ht w (hT w h).1
  have hG : GoodIn Ts ws := fun w h => hT w (by unfold va_wsS; exact List.mem_append_right _ h)
  have hc : Cond.codeWith y bytes maxL ret hh ∈ ws := by rw [hw]; exact List.mem_cons_self
  refine ⟨⟨hrc, hrs, hR.1, hR.2, pay_in ht hG, hc⟩, ht _ (hG _ hc).1, ok _ (by simp [va_wsS]), ⟨hd.1, hd.2.1⟩, fun sig h => ?_, ok _ (by simp [va_wsS]), ok _ (by simp [va_wsS])⟩
  have h2 := hd.2.2
  rw [h] at h2
  exact (Option.some.inj h2).symm
theorem vx_callSW (X : Stand p l e R s m args below meth c T locs cells slots) (hexec : p.tables.exec = Jvm.exec) {own : String} {index : Nat} {y : MethodName} {bytes : ByteArray} {maxL : Nat} {ret : Option FieldType} {hh : List (Nat × Nat × Nat × Nat)}
    (hown : s.vm.findClass own = some m.cls) (hlink : (Cond.methodLink own index y).before args s = true) (hstat : (Cond.static y).before args s = true) (hinit : (Cond.initialized y.cls).before args s = true)
    (hcode : (Cond.codeWith y bytes maxL ret hh).before args s = true) (hy : y.cls ≠ "java/lang/invoke/MethodHandle" ∧ y.cls ≠ "java/lang/invoke/VarHandle")
    {W9 : Nat} {Pre : Pt → Array Value → Prop} {Post : Pt → Array Value → Option Value → Pt → Prop} (hK : Back l R p e below s args y 3 W9 Pre Post)
    {g : JFrame} (hg : g.method = m) (hsize : g.locals.size = c.maxLocals) {argsL rest : List Value} (hlen : ∀ sig, parseMethodDescriptor y.desc = some sig → argsL.length = sig.parameters.length)
    (hstack : g.stack = argsL.reverse ++ rest) (hW : 2 * g.monitorRoom + (rest.map fun v => v.category).sum ≤ W9) (hdg : decode c.code g.pc = .ok (.invokestatic index, 3))
    (hpre : ∀ vm₁, s.WarmedH vm₁ → Pre ⟨T.setVm vm₁, locs, cells, slots⟩ argsL.toArray) :
    ∃ (v : Option Value) (vm₁ : Vm) (B : Pt), s.WarmedH vm₁ ∧ Stand p l e R s m args below meth c B.U B.locs B.cells B.slots ∧ Post ⟨T.setVm vm₁, locs, cells, slots⟩ argsL.toArray v B ∧
      ∀ target, Steps p.tables e below (B.U.setTop { g with pc := g.pc + 3, stack := v.toList ++ rest }) target → Steps p.tables e below (T.setTop g) target := by
  obtain ⟨mk, methM, cM, hnamed, hmethM, -, -, -, -, -, -, hsigM⟩ := Cond.codeWith_spec hcode
  have hstatic : methM.isStatic = true := Cond.static_spec hnamed hmethM hstat
  obtain ⟨kP, hkP, -⟩ := className_of_methodNamed hnamed
  have hinitP : kP.init = .initialized := Cond.initialized_spec (findClass_of_methodNamed hnamed) hkP hinit
  obtain ⟨vm₁, X₁, hstep₁⟩ := X.invokestatic hexec hown hlink hnamed hmethM hstatic hkP hinitP hy (g := g) hg (argsL := argsL) (rest := rest) (hlen _ hsigM) hstack hdg
  obtain ⟨v, B, X', hpost, hsteps⟩ := hK m meth c ⟨T.setVm vm₁, locs, cells, slots⟩ { g with stack := rest } (.invokestatic index) mk argsL.toArray X₁ hg hsize hdg hW (X₁.named hnamed) (hpre vm₁ X₁.warmed)
  exact ⟨v, vm₁, B, X₁.warmed, X', hpost, fun target h => hstep₁ _ fun acts => by rw [doInvoke_state]; exact hsteps.trans h⟩
theorem vx_runSW {y : MethodName} {bytes cc : ByteArray} {maxL nL mc ms n index : Nat} {ret : Option FieldType} {hh : List (Nat × Nat × Nat × Nat)} {ws : List Cond} {rm : Room} {Pc : Array Value → State → Prop} {Qc : Array Value → State → Outcome → State → Prop} {free : Addr → Prop} {Ts : List Cond} {own : String} {As rest : List Value} {g : JFrame}
    (S : CallFix p m c cc nL s args Ts own) (hM : Met l y ws rm Pc Qc mc ms free) (cw : vx_CSW R s args own index y bytes maxL ret hh ws rm mc ms n) (hp : PreS s H Pc As)
    (hg : g.method = m) (hn : As.length = n) (hsize : g.locals.size = nL) (hstack : g.stack = As.reverse ++ rest) (hW : 2 * g.monitorRoom + (rest.map fun v => v.category).sum ≤ 8) (hdg : decode cc g.pc = .ok (.invokestatic index, 3)) (hf : cells + mc ≤ R.cells ∧ slots + ms ≤ R.slots) :
    va_Run p l e R s m args below meth c H locs cells slots mc ms g rest (Qc As.toArray) (free) := by
  obtain ⟨⟨hrc, hrs, hfr, hlo, hws, hcw⟩, hcode, hini, hy, hlen, hl, hstt⟩ := cw
  have hK : Back l R p e below s args y 3 8 (PreOf R mc ms Pc) (PostOf Qc mc ms free) := va_backW (hh := hh) (bytes := bytes) (maxL := maxL) (ret := ret) hM hp.1 hrc hrs hfr hlo hws hcw (fun a' U hW => word_at hW (Or.inl (by first | rfl | simp [Cond.onTables, Cond.keeps, Cond.steady])) hini)
  obtain ⟨hx, hb, hml, ho, -⟩ := S
  intro T hT X
  obtain ⟨v, vm₁, ⟨U', l2, c2, s2⟩, hW₁, X', ⟨g', mk, t, L, e1, e2, hq, h1, hL, h2, h3⟩, st⟩ := vx_callSW X hx (hh := hh) (bytes := bytes) (maxL := maxL) (ret := ret) ho hl hstt hini hcode hy hK hg (hsize.trans hml.symm) (argsL := As) (rest := rest) (fun sig h => hn.trans (hlen sig h)) hstack hW (by rw [hb]; exact hdg)
    (fun vm₁ hW₁ => ⟨hf.1, hf.2, hp.2 (T.setVm vm₁) hT hW₁⟩)
  dsimp only [Pt.U, Pt.locs, Pt.cells, Pt.slots] at X' e1 e2 h1 h2 h3 st
  subst h1; subst h2; subst h3
  exact ⟨v, (T.setVm vm₁).calling g' mk As.toArray, t, U', L, hT, X', hL, e1, e2, hq, st⟩
/-- not caught here, past rows that name other classes: it goes on to the caller -/
theorem vx_outP {p : Program} {l : Launch} {e : Env} {R : Room} {s : State} {m : MethodId} {args : Array Value} {below : List Frame} {meth : Method} {c : Code} {H : Heap} {locs : List Loc} {cells slots : Nat} {free : Addr → Prop} {ls : Array Slot} {rest : List Value} {Qc : Array Value → State → Outcome → State → Prop} {XC : String → State → State → Prop}
    {pc : Nat} {own E : String} {ce : Cell} {q : Addr} {mc ms : Nat} (hown : s.vm.findClass own = some m.cls) (hlocks : meth.locks = false)
    (hpass : ∀ z ∈ c.exceptionTable.toList, covers z pc = false ∨ (z.catchType ≠ 0 ∧ ∃ nm : String, (Cond.classLink own z.catchType nm).before args s = true ∧ va_Nc E nm s)) (hcell : H[q]? = some ce) (hv : ce.vm = .none) (hcl : s.vm.findClass E = some ce.cls)
    (hx : ∀ t : State, t.heap = H → s.vm.Alike t.vm → XC E s t) (hf : ∀ z ∈ locs, free z.base) (hc : cells ≤ mc) (hs : slots ≤ ms) :
    vx_W p l e R s m args below meth c H locs cells slots (vx_MQ below Qc XC args s mc ms free) (F0 m pc ls rest) q := by
  intro T hT X
  have hpl : e.platform.magicAccessors = ({} : Platform).magicAccessors := by rw [X.admits.platform]
  obtain ⟨vm', hW', X', st⟩ := X.outThrough hlocks q (g := F0 m pc ls rest) rfl rfl rfl (cell := ce) (by rw [hT]; exact hcell) (by rw [hv]; rfl)
    (by obtain ⟨k9, h9, -⟩ := Vm.findClass_spec hcl; exact ⟨k9, h9⟩) (fun z hz => by
      rcases hpass z hz with h | ⟨hz0, nm, hl1, hn1⟩
      · exact Or.inl h
      · obtain ⟨c6, hc6, hcl6⟩ := Cond.classLink_spec hown hl1 e.platform hpl
        obtain ⟨a8, b8, h1, h2, h3⟩ := hn1
        cases Option.some.inj (h1.symm.trans hcl)
        cases Option.some.inj (h2.symm.trans hc6)
        exact Or.inr ⟨hz0, _, hcl6, h3⟩)
  obtain ⟨g₀, hfr⟩ := X'.frames_eq
  have hcell9 : ((T.setVm vm').setFrames (.throwing q :: below)).heap[q]? = some ce := by
    show T.heap[q]? = some ce
    rw [hT]; exact hcell
  have hend : Ended ((T.setVm vm').setFrames (.throwing q :: below)) below (.threw q) := State.frames_setFrames _ (State.cur_lt_of_frames hfr)
  refine ⟨(T.setVm vm').setFrames (.throwing q :: below), ?_, .threw q, X'.here.running, hend, Or.inr ⟨q, rfl, E, ce, locs, hx _ hT (X'.ends _).1.alike, hcell9, hv, hcl, (X'.ends _).1, (X'.ends _).2.mono hc hs, hf⟩⟩
  rw [X.pushThrowing_eq]
  exact st
/-- a thing of a world lies in the heap -/
theorem vx_lt {D : va_G} {cl : List vw_C} {ws : va_W} {H1 : Heap} (h : va_P D cl ws H1) {k : Nat} {q : Nat × va_E} (hk : ws[k]? = some q) : q.1 < H1.size := (h k q hk).lt
end VXS
/-! ===== END ===== -/
/-! ===== BEGIN methods with a table of their own: called by a name, returning or throwing ===== -/
section VXH
/-! vx_backW, vx_callVX, vx_callSX, vx_callVW, vx_runVW, vx_runVX, vx_runSX, vx_ofWH follow the same proofs as their sisters above (Free/Laws.lean, Shelf42/LK1.lean); vx_outP calls Shelf42/NT130.lean (outThrough). -/
section
variable {l : Launch} {R : Room} {p : Program} {e : Env} {below : List Frame} {s : State} {sargs : Array Value} {y : MethodName} {len W9 : Nat}
theorem vx_backW {ws : List Cond} {rm : Room} {Pc : Array Value → State → Prop} {Qc : Array Value → State → Outcome → State → Prop} {XC : String → State → State → Prop} {mc ms : Nat} {free : Addr → Prop} {bytes : ByteArray} {maxL : Nat} {ret : Option FieldType} {hh : List (Nat × Nat × Nat × Nat)}
    (hM : vx_Met l y ws rm Pc Qc XC mc ms free) (hblind : FrameBlind Pc) (hrc : rm.cells = mc) (hrs : rm.slots = ms)
    (hframes : rm.frames + 1 ≤ R.frames) (hlocals : W9 + (maxL + 11) + rm.locals ≤ R.locals)
    (hws : ∀ w ∈ ws, ∀ a' U, s.WarmedH U.vm → w.before a' U = true) (hcode : Cond.codeWith y bytes maxL ret hh ∈ ws) (hinit : ∀ a' U, s.WarmedH U.vm → (Cond.initialized y.cls).before a' U = true) :
    vx_Back l R p e below s sargs y len W9 (PreOf R mc ms Pc) (PostOf Qc mc ms free) (vx_Post XC mc ms free) := by
  intro m meth c A g ig mk a X hg hsize hdg hW hn hp
  have h1 : (headSpec ws rm).pre.before a A.U = true := atoms_intro fun w hw => hws w hw _ _ X.warmed
  have h2 : (Cond.codeWith y bytes maxL ret hh).before a A.U = true := hws _ hcode _ _ X.warmed
  have h3 : (Cond.initialized y.cls).before a A.U = true := hinit _ _ X.warmed
  have h4 : A.cells + (headSpec ws rm).room.cells ≤ R.cells := by rw [show (headSpec ws rm).room.cells = mc from hrc]; exact hp.1
  have h5 : A.slots + (headSpec ws rm).room.slots ≤ R.slots := by rw [show (headSpec ws rm).room.slots = ms from hrs]; exact hp.2.1
  have hPc : Pc a (A.U.calling g mk a) := hblind _ _ _ _ hp.2.2
  obtain ⟨U, Ls, c0, s0⟩ := A
  dsimp only [Pt.U, Pt.locs, Pt.cells, Pt.slots] at h1 h2 h3 h4 h5 X hn hPc ⊢
  obtain ⟨m9, methY, cY, hn9, hmY, hcY, -, hlY, -⟩ := Cond.codeWith_spec h2
  cases Option.some.inj (hn9.symm.trans hn)
  obtain ⟨kY, hkY, -⟩ := className_of_methodNamed hn
  have hinitY : kY.init = .initialized := Cond.initialized_spec (findClass_of_methodNamed hn) hkY h3
  have h : At U g.method c below := by rw [hg]; exact X.here
  have hlocals9 : W9 + (maxL + 11) + (headSpec ws rm).room.locals ≤ R.locals := hlocals
  have happ : (headSpec ws rm).appliesLoose y e.platform (U.calling g mk a) = true :=
    Spec.appliesLoose_calling (g := g) h hdg hn hkY hinitY
      (X.room_calling (g := g) (R' := (headSpec ws rm).room) hsize hmY hcY hframes (by rw [hlY]; omega) h4 h5) h1
  obtain ⟨mid, hmid⟩ := h.above
  have hfr : (U.setTop g).frames = (.java g :: mid) ++ below := by rw [State.frames_setTop' g h.top, hmid]; rfl
  obtain ⟨o, s₂, hsteps, -, hend, hq⟩ := Steps.callFree hM p X.admits X.cas X.clock (acts := []) hfr happ hPc trivial
  have hq' : vx_Q Qc XC mc ms free a (U.calling g mk a) o s₂ := hq
  rw [State.frames_setTop' g h.top] at hend
  obtain ⟨g₀, hg0⟩ := Option.isSome_iff_exists.mp h.top
  obtain ⟨r, hr⟩ := State.topJava?_eq_some.mp hg0
  have hr' : (({ U with heap := s₂.heap, slotsUsed := s₂.slotsUsed } : State).setVm s₂.vm).frames = .java g₀ :: r := hr
  rcases hq' with ⟨hqc, L, hfe, hL⟩ | ⟨q, rfl, E, ce, L, hx, hce, hcv, hcl, hW₂, hsm, hL⟩
  · obtain ⟨⟨v, rfl⟩, hW₂, e2, q2, q3, q4, q5, q6⟩ := id hfe
    have e3 : s₂ = ({ (U.calling g mk a).setFrames s₂.frames with heap := s₂.heap, slotsUsed := s₂.slotsUsed } : State).setVm s₂.vm := by
      have : s₂ = ({ s₂ with vm := (U.calling g mk a).vm } : State).setVm s₂.vm := rfl
      rw [e2] at this
      exact this
    obtain ⟨c₂, i₂, len₂, hc₂, hd₂, hf₂⟩ := hend
    have hW' : U.WarmedH s₂.vm := hW₂
    have hcc : c₂ = c := by
      have h1 : s₂.code? g.method = U.code? g.method := by
        rw [State.code?_eq, State.code?_eq, hW'.alike.method?]
      exact Option.some.inj (hc₂.symm.trans (h1.trans h.code))
    subst hcc
    have hlen : len₂ = len := by rw [hdg] at hd₂; cases hd₂; rfl
    subst hlen
    have hs₂ : s₂ = (({ U with heap := s₂.heap, slotsUsed := s₂.slotsUsed } : State).setVm s₂.vm).setTop { g with pc := g.pc + len₂, stack := v.toList ++ g.stack } := by
      refine e3.trans ?_
      rw [hf₂, State.calling_eq h.top, State.setFrames_setFrames, State.setTop_of_frames _ hr', hr]
      rfl
    have hsame : U.sameButNew ({ U with heap := s₂.heap, slotsUsed := s₂.slotsUsed } : State) L mc ms := by
      refine ⟨?_, q2, q3, q4, q5, q6⟩
      obtain ⟨t, ht, -⟩ := State.frames_cons hr
      show ({ U with heap := s₂.heap, slotsUsed := s₂.slotsUsed } : State) = { U.setFrames U.frames with heap := s₂.heap, slotsUsed := s₂.slotsUsed }
      rw [State.setFrames_self ht]
    subst hg
    refine Or.inl ⟨v, ⟨(({ U with heap := s₂.heap, slotsUsed := s₂.slotsUsed } : State).setVm s₂.vm), Ls ++ L, c0 + mc, s0 + ms⟩,
      ⟨X.admits, X.cas, X.clock, X.frames, X.room, X.hears, X.method, X.code, (X.here.setHeapUsed s₂.heap s₂.slotsUsed).setVm hW'.alike, X.tail, State.WarmedH.trans X.warmed hW', X.limits, X.bytes, X.same.trans (hsame.setVm s.vm)⟩,
      ⟨g, mk, s₂, L, rfl, rfl, hqc, rfl, hL, rfl, rfl⟩, ?_⟩
    show Steps p.tables e below _ ((({ U with heap := s₂.heap, slotsUsed := s₂.slotsUsed } : State).setVm s₂.vm).setTop { g with pc := g.pc + len₂, stack := v.toList ++ g.stack })
    rw [← hs₂]
    exact hsteps
  · obtain ⟨e2, q2, q3, q4, q5, q6⟩ := id hsm
    have e3 : s₂ = ({ (U.calling g mk a).setFrames s₂.frames with heap := s₂.heap, slotsUsed := s₂.slotsUsed } : State).setVm s₂.vm := by
      have : s₂ = ({ s₂ with vm := (U.calling g mk a).vm } : State).setVm s₂.vm := rfl
      rw [e2] at this
      exact this
    have hf₂ : s₂.frames = .throwing q :: .java g :: U.frames.tail := hend
    have hW' : U.WarmedH s₂.vm := hW₂
    have hs₂ : s₂ = ((({ U with heap := s₂.heap, slotsUsed := s₂.slotsUsed } : State).setVm s₂.vm).setTop g).pushFrame (.throwing q) := by
      refine e3.trans ?_
      rw [hf₂, State.calling_eq h.top, State.setFrames_setFrames, State.pushFrame, State.frames_setTop _ hr', State.setTop_of_frames _ hr', State.setFrames_setFrames, hr]
      rfl
    have hsame : U.sameButNew ({ U with heap := s₂.heap, slotsUsed := s₂.slotsUsed } : State) L mc ms := by
      refine ⟨?_, q2, q3, q4, q5, q6⟩
      obtain ⟨t, ht, -⟩ := State.frames_cons hr
      show ({ U with heap := s₂.heap, slotsUsed := s₂.slotsUsed } : State) = { U.setFrames U.frames with heap := s₂.heap, slotsUsed := s₂.slotsUsed }
      rw [State.setFrames_self ht]
    subst hg
    refine Or.inr ⟨q, ⟨(({ U with heap := s₂.heap, slotsUsed := s₂.slotsUsed } : State).setVm s₂.vm), Ls ++ L, c0 + mc, s0 + ms⟩,
      ⟨X.admits, X.cas, X.clock, X.frames, X.room, X.hears, X.method, X.code, (X.here.setHeapUsed s₂.heap s₂.slotsUsed).setVm hW'.alike, X.tail, State.WarmedH.trans X.warmed hW', X.limits, X.bytes, X.same.trans (hsame.setVm s.vm)⟩,
      ⟨g, mk, s₂, L, E, ce, rfl, rfl, hx, hce, hcv, hcl, rfl, hL, rfl, rfl⟩, ?_⟩
    show Steps p.tables e below _ (((({ U with heap := s₂.heap, slotsUsed := s₂.slotsUsed } : State).setVm s₂.vm).setTop g).pushFrame (.throwing q))
    rw [← hs₂]
    exact hsteps
end
variable {p : Program} {l : Launch} {e : Env} {R : Room} {s : State} {m : MethodId} {args : Array Value} {below : List Frame} {meth : Method} {c : Code} {T : State} {H : Heap} {locs : List Loc} {cells slots : Nat}
theorem vx_callVX (X : Stand p l e R s m args below meth c T locs cells slots) (hexec : p.tables.exec = Jvm.exec) {own C : String} {index : Nat} {y : MethodName} {bytes : ByteArray} {maxL : Nat} {ret : Option FieldType} {hh : List (Nat × Nat × Nat × Nat)}
    (hown : s.vm.findClass own = some m.cls) (hlink : (Cond.methodLink own index y).before args s = true) (hinst : (Cond.instanceMethod y).before args s = true) (hsel : (Cond.selects C y y).before args s = true)
    (hcode : (Cond.codeWith y bytes maxL ret hh).before args s = true) (hy : y.cls ≠ "java/lang/invoke/MethodHandle" ∧ y.cls ≠ "java/lang/invoke/VarHandle")
    {W9 : Nat} {Pre : Pt → Array Value → Prop} {Post : Pt → Array Value → Option Value → Pt → Prop} {PostX : Pt → Array Value → Addr → Pt → Prop} (hK : vx_Back l R p e below s args y 3 W9 Pre Post PostX)
    {b : Addr} {cellB : Cell} (hcell : T.heap[b]? = some cellB) (hobj : cellB.vm.isStatics = false) (hcls : s.vm.findClass C = some cellB.cls)
    {g : JFrame} (hg : g.method = m) (hsize : g.locals.size = c.maxLocals) {argsL rest : List Value} (hlen : ∀ sig, parseMethodDescriptor y.desc = some sig → argsL.length = sig.parameters.length)
    (hstack : g.stack = argsL.reverse ++ .ref b :: rest) (hW : 2 * g.monitorRoom + (rest.map fun v => v.category).sum ≤ W9) (hdg : decode c.code g.pc = .ok (.invokevirtual index, 3))
    (hpre : ∀ vm₁, s.WarmedH vm₁ → Pre ⟨T.setVm vm₁, locs, cells, slots⟩ (Value.ref b :: argsL).toArray) :
    (∃ (v : Option Value) (vm₁ : Vm) (B : Pt), s.WarmedH vm₁ ∧ Stand p l e R s m args below meth c B.U B.locs B.cells B.slots ∧ Post ⟨T.setVm vm₁, locs, cells, slots⟩ (Value.ref b :: argsL).toArray v B ∧
      ∀ target, Steps p.tables e below (B.U.setTop { g with pc := g.pc + 3, stack := v.toList ++ rest }) target → Steps p.tables e below (T.setTop g) target) ∨
    (∃ (q : Addr) (vm₁ : Vm) (B : Pt), s.WarmedH vm₁ ∧ Stand p l e R s m args below meth c B.U B.locs B.cells B.slots ∧ PostX ⟨T.setVm vm₁, locs, cells, slots⟩ (Value.ref b :: argsL).toArray q B ∧
      Steps p.tables e below (T.setTop g) ((B.U.setTop { g with stack := rest }).pushFrame (.throwing q))) := by
  obtain ⟨mk, methM, hnamed, hmethM, hstM, habM⟩ := Cond.instanceMethod_spec hinst
  obtain ⟨m8, methM', cM, hn8, hmethM', -, -, -, -, -, -, hsigM⟩ := Cond.codeWith_spec hcode
  cases Option.some.inj (hn8.symm.trans hnamed)
  cases hmethM.symm.trans hmethM'
  obtain ⟨c2, r2, m2, q1, q2, q3, q4, kP, hkP, hkPi⟩ := Cond.selects_spec hsel
  cases hcls.symm.trans q1
  cases (State.methodFound?_of_named hnamed hy).symm.trans q2
  cases hnamed.symm.trans q3
  have hselP : selectMethod e.platform s.vm cellB.cls mk = .method mk := by rw [Launch.admits_selectMethod X.admits]; exact q4
  obtain ⟨vm₁, X₁, hstep₁⟩ := X.invokevirtual hexec hown hlink hnamed hmethM hstM hkP hkPi hy (a := b) (cell := cellB) hcell
    (fun z h => by rw [h] at hobj; cases hobj) hselP hmethM habM hkP hkPi (g := g) hg (argsL := argsL) (rest := rest) (hlen _ hsigM) hstack hdg
  rcases hK m meth c ⟨T.setVm vm₁, locs, cells, slots⟩ { g with stack := rest } (.invokevirtual index) mk (Value.ref b :: argsL).toArray X₁ hg hsize hdg hW (X₁.named hnamed) (hpre vm₁ X₁.warmed) with ⟨v, B, X', hpost, hsteps⟩ | ⟨q, B, X', hpost, hsteps⟩
  · exact Or.inl ⟨v, vm₁, B, X₁.warmed, X', hpost, fun target h => hstep₁ _ fun acts => by rw [doInvoke_state]; exact hsteps.trans h⟩
  · exact Or.inr ⟨q, vm₁, B, X₁.warmed, X', hpost, hstep₁ _ fun acts => by rw [doInvoke_state]; exact hsteps⟩
theorem vx_callSX (X : Stand p l e R s m args below meth c T locs cells slots) (hexec : p.tables.exec = Jvm.exec) {own : String} {index : Nat} {y : MethodName} {bytes : ByteArray} {maxL : Nat} {ret : Option FieldType} {hh : List (Nat × Nat × Nat × Nat)}
    (hown : s.vm.findClass own = some m.cls) (hlink : (Cond.methodLink own index y).before args s = true) (hstat : (Cond.static y).before args s = true) (hinit : (Cond.initialized y.cls).before args s = true)
    (hcode : (Cond.codeWith y bytes maxL ret hh).before args s = true) (hy : y.cls ≠ "java/lang/invoke/MethodHandle" ∧ y.cls ≠ "java/lang/invoke/VarHandle")
    {W9 : Nat} {Pre : Pt → Array Value → Prop} {Post : Pt → Array Value → Option Value → Pt → Prop} {PostX : Pt → Array Value → Addr → Pt → Prop} (hK : vx_Back l R p e below s args y 3 W9 Pre Post PostX)
    {g : JFrame} (hg : g.method = m) (hsize : g.locals.size = c.maxLocals) {argsL rest : List Value} (hlen : ∀ sig, parseMethodDescriptor y.desc = some sig → argsL.length = sig.parameters.length)
    (hstack : g.stack = argsL.reverse ++ rest) (hW : 2 * g.monitorRoom + (rest.map fun v => v.category).sum ≤ W9) (hdg : decode c.code g.pc = .ok (.invokestatic index, 3))
    (hpre : ∀ vm₁, s.WarmedH vm₁ → Pre ⟨T.setVm vm₁, locs, cells, slots⟩ argsL.toArray) :
    (∃ (v : Option Value) (vm₁ : Vm) (B : Pt), s.WarmedH vm₁ ∧ Stand p l e R s m args below meth c B.U B.locs B.cells B.slots ∧ Post ⟨T.setVm vm₁, locs, cells, slots⟩ argsL.toArray v B ∧
      ∀ target, Steps p.tables e below (B.U.setTop { g with pc := g.pc + 3, stack := v.toList ++ rest }) target → Steps p.tables e below (T.setTop g) target) ∨
    (∃ (q : Addr) (vm₁ : Vm) (B : Pt), s.WarmedH vm₁ ∧ Stand p l e R s m args below meth c B.U B.locs B.cells B.slots ∧ PostX ⟨T.setVm vm₁, locs, cells, slots⟩ argsL.toArray q B ∧
      Steps p.tables e below (T.setTop g) ((B.U.setTop { g with stack := rest }).pushFrame (.throwing q))) := by
  obtain ⟨mk, methM, cM, hnamed, hmethM, -, -, -, -, -, -, hsigM⟩ := Cond.codeWith_spec hcode
  have hstatic : methM.isStatic = true := Cond.static_spec hnamed hmethM hstat
  obtain ⟨kP, hkP, -⟩ := className_of_methodNamed hnamed
  have hinitP : kP.init = .initialized := Cond.initialized_spec (findClass_of_methodNamed hnamed) hkP hinit
  obtain ⟨vm₁, X₁, hstep₁⟩ := X.invokestatic hexec hown hlink hnamed hmethM hstatic hkP hinitP hy (g := g) hg (argsL := argsL) (rest := rest) (hlen _ hsigM) hstack hdg
  rcases hK m meth c ⟨T.setVm vm₁, locs, cells, slots⟩ { g with stack := rest } (.invokestatic index) mk argsL.toArray X₁ hg hsize hdg hW (X₁.named hnamed) (hpre vm₁ X₁.warmed) with ⟨v, B, X', hpost, hsteps⟩ | ⟨q, B, X', hpost, hsteps⟩
  · exact Or.inl ⟨v, vm₁, B, X₁.warmed, X', hpost, fun target h => hstep₁ _ fun acts => by rw [doInvoke_state]; exact hsteps.trans h⟩
  · exact Or.inr ⟨q, vm₁, B, X₁.warmed, X', hpost, hstep₁ _ fun acts => by rw [doInvoke_state]; exact hsteps⟩
theorem vx_callVW (X : Stand p l e R s m args below meth c T locs cells slots) (hexec : p.tables.exec = Jvm.exec) {own C : String} {index : Nat} {y : MethodName} {bytes : ByteArray} {maxL : Nat} {ret : Option FieldType} {hh : List (Nat × Nat × Nat × Nat)}
    (hown : s.vm.findClass own = some m.cls) (hlink : (Cond.methodLink own index y).before args s = true) (hinst : (Cond.instanceMethod y).before args s = true) (hsel : (Cond.selects C y y).before args s = true)
    (hcode : (Cond.codeWith y bytes maxL ret hh).before args s = true) (hy : y.cls ≠ "java/lang/invoke/MethodHandle" ∧ y.cls ≠ "java/lang/invoke/VarHandle")
    {W9 : Nat} {Pre : Pt → Array Value → Prop} {Post : Pt → Array Value → Option Value → Pt → Prop} (hK : Back l R p e below s args y 3 W9 Pre Post)
    {b : Addr} {cellB : Cell} (hcell : T.heap[b]? = some cellB) (hobj : cellB.vm.isStatics = false) (hcls : s.vm.findClass C = some cellB.cls)
    {g : JFrame} (hg : g.method = m) (hsize : g.locals.size = c.maxLocals) {argsL rest : List Value} (hlen : ∀ sig, parseMethodDescriptor y.desc = some sig → argsL.length = sig.parameters.length)
    (hstack : g.stack = argsL.reverse ++ .ref b :: rest) (hW : 2 * g.monitorRoom + (rest.map fun v => v.category).sum ≤ W9) (hdg : decode c.code g.pc = .ok (.invokevirtual index, 3))
    (hpre : ∀ vm₁, s.WarmedH vm₁ → Pre ⟨T.setVm vm₁, locs, cells, slots⟩ (Value.ref b :: argsL).toArray) :
    ∃ (v : Option Value) (vm₁ : Vm) (B : Pt), s.WarmedH vm₁ ∧ Stand p l e R s m args below meth c B.U B.locs B.cells B.slots ∧ Post ⟨T.setVm vm₁, locs, cells, slots⟩ (Value.ref b :: argsL).toArray v B ∧
      ∀ target, Steps p.tables e below (B.U.setTop { g with pc := g.pc + 3, stack := v.toList ++ rest }) target → Steps p.tables e below (T.setTop g) target := by
  obtain ⟨mk, methM, hnamed, hmethM, hstM, habM⟩ := Cond.instanceMethod_spec hinst
  obtain ⟨m8, methM', cM, hn8, hmethM', -, -, -, -, -, -, hsigM⟩ := Cond.codeWith_spec hcode
  cases Option.some.inj (hn8.symm.trans hnamed)
  cases hmethM.symm.trans hmethM'
  obtain ⟨c2, r2, m2, q1, q2, q3, q4, kP, hkP, hkPi⟩ := Cond.selects_spec hsel
  cases hcls.symm.trans q1
  cases (State.methodFound?_of_named hnamed hy).symm.trans q2
  cases hnamed.symm.trans q3
  have hselP : selectMethod e.platform s.vm cellB.cls mk = .method mk := by rw [Launch.admits_selectMethod X.admits]; exact q4
  obtain ⟨vm₁, X₁, hstep₁⟩ := X.invokevirtual hexec hown hlink hnamed hmethM hstM hkP hkPi hy (a := b) (cell := cellB) hcell
    (fun z h => by rw [h] at hobj; cases hobj) hselP hmethM habM hkP hkPi (g := g) hg (argsL := argsL) (rest := rest) (hlen _ hsigM) hstack hdg
  obtain ⟨v, B, X', hpost, hsteps⟩ := hK m meth c ⟨T.setVm vm₁, locs, cells, slots⟩ { g with stack := rest } (.invokevirtual index) mk (Value.ref b :: argsL).toArray X₁ hg hsize hdg hW (X₁.named hnamed) (hpre vm₁ X₁.warmed)
  exact ⟨v, vm₁, B, X₁.warmed, X', hpost, fun target h => hstep₁ _ fun acts => by rw [doInvoke_state]; exact hsteps.trans h⟩
abbrev vx_CVW (R : Room) (s : State) (args : Array Value) (own C : String) (index : Nat) (y : MethodName) (bytes : ByteArray) (maxL : Nat) (ret : Option FieldType) (hh : List (Nat × Nat × Nat × Nat)) (ws : List Cond) (rm : Room) (mc ms n : Nat) : Prop :=
  (rm.cells = mc ∧ rm.slots = ms ∧ rm.frames + 1 ≤ R.frames ∧ 8 + (maxL + 11) + rm.locals ≤ R.locals ∧ (∀ w ∈ ws, ∀ (a' : Array Value) (U : State), s.WarmedH U.vm → w.before a' U = true) ∧ Cond.codeWith y bytes maxL ret hh ∈ ws) ∧
  (Cond.codeWith y bytes maxL ret hh).before args s = true ∧ (Cond.initialized y.cls).before args s = true ∧ (y.cls ≠ "java/lang/invoke/MethodHandle" ∧ y.cls ≠ "java/lang/invoke/VarHandle") ∧
  (∀ sig, parseMethodDescriptor y.desc = some sig → n = sig.parameters.length) ∧ (Cond.methodLink own index y).before args s = true ∧ (Cond.instanceMethod y).before args s = true ∧ (Cond.selects C y y).before args s = true
theorem vx_cwVW {own C : String} {index maxL mc ms : Nat} {y : MethodName} {bytes : ByteArray} {ret : Option FieldType} {hh : List (Nat × Nat × Nat × Nat)} {Ts ws ws' : List Cond} {rm : Room} (n : Nat) (ht : ∀ w ∈ Ts, w.before args s = true) (hT : GoodIn Ts (wsV own index C y ws)) (hw : ws = Cond.codeWith y bytes maxL ret hh :: ws') (hrc : rm.cells = mc) (hrs : rm.slots = ms)
    (hd : y.cls = C ∧ y.cls ≠ "java/lang/invoke/MethodHandle" ∧ y.cls ≠ "java/lang/invoke/VarHandle" ∧ (parseMethodDescriptor y.desc).map (fun d => d.parameters.length) = some n) (hR : rm.frames + 1 ≤ R.frames ∧ 8 + (maxL + 11) + rm.locals ≤ R.locals) :
    vx_CVW R s args own C index y bytes maxL ret hh ws rm mc ms n := by
  obtain ⟨hC, hd⟩ := hd
  subst hC
  have ok : ∀ w ∈ wsV own index y.cls y ws, w.before args s = true := fun w h => ht w (hT w h).1
  have hG : GoodIn Ts ws := fun w h => hT w (by unfold wsV; exact List.mem_append_right _ h)
  have hc : Cond.codeWith y bytes maxL ret hh ∈ ws := by rw [hw]; exact List.mem_cons_self
  refine ⟨⟨hrc, hrs, hR.1, hR.2, pay_in ht hG, hc⟩, ht _ (hG _ hc).1, ok _ (by simp [wsV]), ⟨hd.1, hd.2.1⟩, fun sig h => ?_, ok _ (by simp [wsV]), ok _ (by simp [wsV]), ok _ (by simp [wsV])⟩
  have h2 := hd.2.2
  rw [h] at h2
  exact (Option.some.inj h2).symm
theorem vx_runVW {y : MethodName} {bytes cc : ByteArray} {maxL nL mc ms n index : Nat} {ret : Option FieldType} {hh : List (Nat × Nat × Nat × Nat)} {ws : List Cond} {rm : Room} {Pc : Array Value → State → Prop} {Qc : Array Value → State → Outcome → State → Prop} {free : Addr → Prop} {Ts : List Cond} {own C : String} {b : Addr} {As rest : List Value} {g : JFrame}
    (S : CallFix p m c cc nL s args Ts own) (hM : Met l y ws rm Pc Qc mc ms free) (cw : vx_CVW R s args own C index y bytes maxL ret hh ws rm mc ms n) (hp : PreV s H C b Pc As)
    (hg : g.method = m) (hn : As.length = n) (hsize : g.locals.size = nL) (hstack : g.stack = As.reverse ++ .ref b :: rest) (hW : 2 * g.monitorRoom + (rest.map fun v => v.category).sum ≤ 8) (hdg : decode cc g.pc = .ok (.invokevirtual index, 3)) (hf : cells + mc ≤ R.cells ∧ slots + ms ≤ R.slots) :
    va_Run p l e R s m args below meth c H locs cells slots mc ms g rest (Qc (Value.ref b :: As).toArray) free := by
  obtain ⟨⟨hrc, hrs, hfr, hlo, hws, hcw⟩, hcode, hini, hy, hlen, hl, hin, hse⟩ := cw
  have hK : Back l R p e below s args y 3 8 (PreOf R mc ms Pc) (PostOf Qc mc ms free) := va_backW (hh := hh) (bytes := bytes) (maxL := maxL) (ret := ret) hM hp.1 hrc hrs hfr hlo hws hcw (fun a' U hW => word_at hW (Or.inl (by first | rfl | simp [Cond.onTables, Cond.keeps, Cond.steady])) hini)
  obtain ⟨hx, hb, hml, ho, -⟩ := S
  obtain ⟨-, ⟨cellB, hcB, hoB, hclB⟩, hPc⟩ := hp
  intro T hT X
  obtain ⟨v, vm₁, ⟨U', l2, c2, s2⟩, hW₁, X', ⟨g', mk, t, L, e1, e2, hq, h1, hL, h2, h3⟩, st⟩ := vx_callVW X hx (C := C) (hh := hh) (bytes := bytes) (maxL := maxL) (ret := ret) ho hl hin hse hcode hy hK (by rw [hT]; exact hcB) hoB hclB hg (hsize.trans hml.symm) (argsL := As) (rest := rest) (fun sig h => hn.trans (hlen sig h)) hstack hW (by rw [hb]; exact hdg)
    (fun vm₁ hW₁ => ⟨hf.1, hf.2, hPc (T.setVm vm₁) hT hW₁⟩)
  dsimp only [Pt.U, Pt.locs, Pt.cells, Pt.slots] at X' e1 e2 h1 h2 h3 st
  subst h1; subst h2; subst h3
  exact ⟨v, (T.setVm vm₁).calling g' mk (Value.ref b :: As).toArray, t, U', L, hT, X', hL, e1, e2, hq, st⟩
section
variable {y : MethodName} {bytes cc : ByteArray} {maxL nL mc ms n index : Nat} {ret : Option FieldType} {ws : List Cond} {rm : Room} {Pc : Array Value → State → Prop} {Qc : Array Value → State → Outcome → State → Prop} {XC : String → State → State → Prop} {free : Addr → Prop} {Ts : List Cond} {own C : String} {b : Addr} {As rest : List Value} {g : JFrame}
theorem vx_runVX {hh : List (Nat × Nat × Nat × Nat)} (S : CallFix p m c cc nL s args Ts own) (hM : vx_Met l y ws rm Pc Qc XC mc ms free) (cw : vx_CVW R s args own C index y bytes maxL ret hh ws rm mc ms n) (hp : PreV s H C b Pc As)
    (hg : g.method = m) (hn : As.length = n) (hsize : g.locals.size = nL) (hstack : g.stack = As.reverse ++ .ref b :: rest) (hW : 2 * g.monitorRoom + (rest.map fun v => v.category).sum ≤ 8) (hdg : decode cc g.pc = .ok (.invokevirtual index, 3)) (hf : cells + mc ≤ R.cells ∧ slots + ms ≤ R.slots) :
    vx_Run p l e R s m args below meth c H locs cells slots mc ms g rest (Qc (Value.ref b :: As).toArray) XC free := by
  obtain ⟨⟨hrc, hrs, hfr, hlo, hws, hcw⟩, hcode, hini, hy, hlen, hl, hin, hse⟩ := cw
  have hK : vx_Back l R p e below s args y 3 8 (PreOf R mc ms Pc) (PostOf Qc mc ms free) (vx_Post XC mc ms free) := vx_backW (hh := hh) (bytes := bytes) (maxL := maxL) (ret := ret) hM hp.1 hrc hrs hfr hlo hws hcw (fun a' U hW => word_at hW (Or.inl (by first | rfl | simp [Cond.onTables, Cond.keeps, Cond.steady])) hini)
  obtain ⟨hx, hb, hml, ho, -⟩ := S
  obtain ⟨-, ⟨cellB, hcB, hoB, hclB⟩, hPc⟩ := hp
  intro T hT X
  rcases vx_callVX X hx (C := C) (hh := hh) (bytes := bytes) (maxL := maxL) (ret := ret) ho hl hin hse hcode hy hK (by rw [hT]; exact hcB) hoB hclB hg (hsize.trans hml.symm) (argsL := As) (rest := rest) (fun sig h => hn.trans (hlen sig h)) hstack hW (by rw [hb]; exact hdg)
    (fun vm₁ hW₁ => ⟨hf.1, hf.2, hPc (T.setVm vm₁) hT hW₁⟩) with ⟨v, vm₁, ⟨U', l2, c2, s2⟩, hW₁, X', ⟨g', mk, t, L, e1, e2, hq, h1, hL, h2, h3⟩, st⟩ | ⟨q, vm₁, ⟨U', l2, c2, s2⟩, hW₁, X', ⟨g', mk, t, L, E, ce, e1, e2, hq, hce, hcv, hcl, h1, hL, h2, h3⟩, st⟩
  · dsimp only [Pt.U, Pt.locs, Pt.cells, Pt.slots] at X' e1 e2 h1 h2 h3 st
    subst h1; subst h2; subst h3
    exact Or.inl ⟨v, (T.setVm vm₁).calling g' mk (Value.ref b :: As).toArray, t, U', L, hT, X', hL, e1, e2, hq, st⟩
  · dsimp only [Pt.U, Pt.locs, Pt.cells, Pt.slots] at X' e1 e2 h1 h2 h3 st hcl
    subst h1; subst h2; subst h3
    exact Or.inr ⟨q, (T.setVm vm₁).calling g' mk (Value.ref b :: As).toArray, t, U', L, E, ce, hT, X', hL, e1, e2, hq, hce, hcv, vx_cls hW₁ hcl, st⟩
theorem vx_runSX {hh : List (Nat × Nat × Nat × Nat)} (S : CallFix p m c cc nL s args Ts own) (hM : vx_Met l y ws rm Pc Qc XC mc ms free) (cw : vx_CSW R s args own index y bytes maxL ret hh ws rm mc ms n) (hp : PreS s H Pc As)
    (hg : g.method = m) (hn : As.length = n) (hsize : g.locals.size = nL) (hstack : g.stack = As.reverse ++ rest) (hW : 2 * g.monitorRoom + (rest.map fun v => v.category).sum ≤ 8) (hdg : decode cc g.pc = .ok (.invokestatic index, 3)) (hf : cells + mc ≤ R.cells ∧ slots + ms ≤ R.slots) :
    vx_Run p l e R s m args below meth c H locs cells slots mc ms g rest (Qc As.toArray) XC free := by
  obtain ⟨⟨hrc, hrs, hfr, hlo, hws, hcw⟩, hcode, hini, hy, hlen, hl, hstt⟩ := cw
  have hK : vx_Back l R p e below s args y 3 8 (PreOf R mc ms Pc) (PostOf Qc mc ms free) (vx_Post XC mc ms free) := vx_backW (hh := hh) (bytes := bytes) (maxL := maxL) (ret := ret) hM hp.1 hrc hrs hfr hlo hws hcw (fun a' U hW => word_at hW (Or.inl (by first | rfl | simp [Cond.onTables, Cond.keeps, Cond.steady])) hini)
  obtain ⟨hx, hb, hml, ho, -⟩ := S
  intro T hT X
  rcases vx_callSX X hx (hh := hh) (bytes := bytes) (maxL := maxL) (ret := ret) ho hl hstt hini hcode hy hK hg (hsize.trans hml.symm) (argsL := As) (rest := rest) (fun sig h => hn.trans (hlen sig h)) hstack hW (by rw [hb]; exact hdg)
    (fun vm₁ hW₁ => ⟨hf.1, hf.2, hp.2 (T.setVm vm₁) hT hW₁⟩) with ⟨v, vm₁, ⟨U', l2, c2, s2⟩, hW₁, X', ⟨g', mk, t, L, e1, e2, hq, h1, hL, h2, h3⟩, st⟩ | ⟨q, vm₁, ⟨U', l2, c2, s2⟩, hW₁, X', ⟨g', mk, t, L, E, ce, e1, e2, hq, hce, hcv, hcl, h1, hL, h2, h3⟩, st⟩
  · dsimp only [Pt.U, Pt.locs, Pt.cells, Pt.slots] at X' e1 e2 h1 h2 h3 st
    subst h1; subst h2; subst h3
    exact Or.inl ⟨v, (T.setVm vm₁).calling g' mk As.toArray, t, U', L, hT, X', hL, e1, e2, hq, st⟩
  · dsimp only [Pt.U, Pt.locs, Pt.cells, Pt.slots] at X' e1 e2 h1 h2 h3 st hcl
    subst h1; subst h2; subst h3
    exact Or.inr ⟨q, (T.setVm vm₁).calling g' mk As.toArray, t, U', L, E, ce, hT, X', hL, e1, e2, hq, hce, hcv, vx_cls hW₁ hcl, st⟩
end
end VXH
theorem vx_ofWH {l : Launch} {y : MethodName} {ws ws' : List Cond} {rm : Room} {Pc : Array Value → State → Prop} {Qc : Array Value → State → Outcome → State → Prop} {XC : String → State → State → Prop} {mc ms : Nat} {free : Addr → Prop} {cc : ByteArray} {maxL : Nat} {ret : Option FieldType} {hh : List (Nat × Nat × Nat × Nat)}
    (hy : plainName y.cls = true) (hw : ws = Cond.codeWith y cc maxL ret hh :: ws')
    (body : ∀ p e s m args below meth c s₁, BodyLoose p l y (headSpec ws rm) cc maxL ret e s m args below meth c s₁ → c.maxLocals = maxL → Pc args s →
      W p l e (headSpec ws rm).room s m args below meth c s.heap [] 0 0 (vx_MQ below Qc XC args s mc ms free) (entryFrame m args maxL)) : vx_Met l y ws rm Pc Qc XC mc ms free := by
  refine MetFree.of_bodyS (code := cc) (maxLocals := maxL) (ret := ret) hy ?_ ?_
  · intro args s m h hn
    obtain ⟨m9, meth, c, hn9, h1, h2, h3, h4, -, h5, h6, -⟩ := Cond.codeWith_spec (atoms_spec (ws := ws) h _ (by rw [hw]; exact List.mem_cons_self))
    cases hn.symm.trans hn9
    exact ⟨meth, c, h1, h2, h3, h4, h5, h6⟩
  · intro p e s m args below meth c s₁ B hml hP _
    have hh0 : s₁.heap = s.heap := by rw [B.state]; rfl
    obtain ⟨t, a1, o, b1, b2, b3⟩ := body p e s m args below meth c s₁ B hml hP s₁ hh0 (Stand.of_body B)
    exact ⟨t, o, a1, b1, b2, b3⟩
/-! ===== END ===== -/
end
section
/-! AN ABSTRACT MACHINE over a world of fixed shape. A thing of the world is named by its place k (a reference is '.ref k'); the shape says of each place: an object (number of its class; its fields, each a place or a number's name) or an array (its kind, its length). A state: the numbers by their names, the arrays' contents by their places. am_AW c Q: from the configuration c the method comes to an end with Q. -/
abbrev am_D : Type := (Nat × List (Nat ⊕ Nat)) ⊕ (Nat × Nat)
abbrev am_S : Type := (Nat → Int32) × (Nat → Nat → Int32)
/-- method, pc, exceptions' room used, locals, stack, state -/
abbrev am_C : Type := Nat × Nat × Nat × List (Option Value) × List Value × am_S
/-- an outcome: an answer, or an exception of a class -/
abbrev am_O : Type := Option Value ⊕ String
abbrev am_Q : Type := am_S → am_O → Prop
/-- a step: what must hold; roads (each with its condition), or a call, or an end -/
abbrev am_N : Type := Prop × (List (Prop × am_C) ⊕ ((am_C × (am_S → Option Value → am_C)) ⊕ (am_S × am_O)))
/-- a method: name, bytes, locals, answer's type, number of its class, room -/
abbrev am_M : Type := MethodName × ByteArray × Nat × Option FieldType × Nat × Room
/-- tables: methods; fields by (class, pool place): (class, slot); calls by (method, pool place): (kind, method, parameters); int and long constants; throws by (method, pc) -/
abbrev am_G : Type := List am_M × List ((Nat × Nat) × (Nat × Nat)) × List ((Nat × Nat) × (Nat × Nat × Nat)) × List ((Nat × Nat) × Int32) × List ((Nat × Nat) × Int64) × List ((Nat × Nat) × String)
def am_m (G : am_G) (μ : Nat) : Option am_M := G.1[μ]?
def am_ml (G : am_G) (μ : Nat) : Nat := match am_m G μ with
  | some M => M.2.2.1
  | none => 0
def am_oc (G : am_G) (μ : Nat) : Nat := match am_m G μ with
  | some M => M.2.2.2.2.1
  | none => 0
def am_nc (G : am_G) (μ : Nat) : Nat := match am_m G μ with
  | some M => M.2.2.2.2.2.cells
  | none => 0
/-- the answer's type: 0 none, 1 int, 2 boolean -/
def am_rk (t : Option FieldType) : Nat := match t with
  | none => 0
  | some .int => 1
  | some .boolean => 2
  | some _ => 3
def am_rt (G : am_G) (μ : Nat) : Nat := match am_m G μ with
  | some M => am_rk M.2.2.2.1
  | none => 3
def am_fld (G : am_G) (μ ix : Nat) : Option (Nat × Nat) := G.2.1.lookup (am_oc G μ, ix)
def am_cal (G : am_G) (μ ix : Nat) : Option (Nat × Nat × Nat) := G.2.2.1.lookup (μ, ix)
def am_ki (G : am_G) (μ ix : Nat) : Option Int32 := G.2.2.2.1.lookup (am_oc G μ, ix)
def am_kl (G : am_G) (μ ix : Nat) : Option Int64 := G.2.2.2.2.1.lookup (am_oc G μ, ix)
def am_th (G : am_G) (μ pc : Nat) : Option String := G.2.2.2.2.2.lookup (μ, pc)
def am_nn (z : Int) : Option Nat := match z with
  | .ofNat n => some n
  | .negSucc _ => none
def am_tg (i : Instr) (pc : Nat) : Option Nat := match i with
  | .goto off => am_nn ((pc : Int) + off)
  | .ifCond _ off => am_nn ((pc : Int) + off)
  | .if_icmp _ off => am_nn ((pc : Int) + off)
  | .tableswitch off _ _ _ => am_nn ((pc : Int) + off)
  | _ => some 0
def am_ln (i : Instr) (len : Nat) : Bool := match i with
  | .tableswitch _ _ _ _ => true
  | .bipush _ | .ldc _ | .iload _ | .lload _ | .aload _ | .istore _ | .lstore _ | .astore _ => len == 2
  | .sipush _ | .ldc2_w _ | .getfield _ | .putfield _ | .goto _ | .ifCond _ _ | .if_icmp _ _ | .invokevirtual _ | .invokestatic _ | .invokespecial _ | .iinc _ _ | .new _ => len == 3
  | _ => len == 1
def am_code (G : am_G) (μ pc : Nat) : Option (Instr × Nat × Nat) := match am_m G μ with
  | some M => match decode M.2.1 pc with
    | .ok (i, len) => if am_ln i len = true then (am_tg i pc).map (fun t => (i, len, t)) else none
    | .error _ => none
  | none => none
theorem am_code_of {G : am_G} {μ pc : Nat} {M : am_M} {i : Instr} {len t : Nat} (h1 : am_m G μ = some M) (h2 : decode M.2.1 pc = .ok (i, len)) (h3 : am_ln i len = true) (h4 : am_tg i pc = some t) : am_code G μ pc = some (i, len, t) := by
  simp only [am_code, h1, h2, h3, h4, if_true, Option.map_some]
theorem am_code_spec {G : am_G} {μ pc : Nat} {M : am_M} {i : Instr} {len t : Nat} (h1 : am_m G μ = some M) (h : am_code G μ pc = some (i, len, t)) : decode M.2.1 pc = .ok (i, len) ∧ am_ln i len = true ∧ am_tg i pc = some t := by
  simp only [am_code, h1] at h
  cases hd : decode M.2.1 pc with
  | error x => rw [hd] at h; cases h
  | ok q =>
    obtain ⟨i', len'⟩ := q
    rw [hd] at h
    simp only at h
    by_cases hl : am_ln i' len' = true
    · rw [if_pos hl] at h
      cases ht : am_tg i' pc with
      | none => rw [ht] at h; cases h
      | some t' =>
        rw [ht] at h
        simp only [Option.map_some, Option.some.injEq, Prod.mk.injEq] at h
        obtain ⟨rfl, rfl, rfl⟩ := h
        exact ⟨rfl, hl, ht⟩
    · rw [if_neg hl] at h
      cases h
/-- values of one word from the stack, the last first -/
def am_pp : Nat → List Value → List Value → Option (List Value × List Value)
  | 0, st, acc => some (acc, st)
  | n + 1, v :: st, acc => if v.category = 1 then am_pp n st (v :: acc) else none
  | _ + 1, [], _ => none
def am_ct : List Value → Nat
  | [] => 0
  | v :: r => v.category + am_ct r
def am_no : Nat → List (Option Value)
  | 0 => []
  | n + 1 => none :: am_no n
/-- the locals at a method's entry -/
def am_in : Nat → List Value → List (Option Value)
  | n, [] => am_no n
  | 0, v :: r => some v :: am_in 0 r
  | n + 1, v :: r => some v :: am_in n r
def am_cut (lo : List (Option Value)) (i : Nat) : List (Option Value) := match i with
  | 0 => lo
  | j + 1 => match lo[j]? with
    | some (some v) => if v.category = 2 then lo.set j none else lo
    | _ => lo
def am_s1 (lo : List (Option Value)) (i : Nat) (v : Value) : List (Option Value) := (am_cut lo i).set i (some v)
def am_s2 (lo : List (Option Value)) (i : Nat) (v : Value) : List (Option Value) := ((am_cut lo i).set i (some v)).set (i + 1) none
def am_one (c : am_C) : Option am_N := some (True, .inl [(True, c)])
def am_two (b b' : Prop) (c c' : am_C) : Option am_N := some (True, .inl [(b, c), (b', c')])
def am_br (cc : ClassFile.Cond) (x y : Int32) (c c' : am_C) : Option am_N := match cc with
  | .eq => am_two (x = y) (¬ x = y) c c'
  | .ne => am_two (¬ x = y) (x = y) c c'
  | .lt => am_two (x < y) (¬ x < y) c c'
  | .ge => am_two (y ≤ x) (¬ y ≤ x) c c'
  | .gt => am_two (y < x) (¬ y < x) c c'
  | .le => am_two (x ≤ y) (¬ x ≤ y) c c'
def am_sw (mk : Nat → am_C) (pc : Nat) (x lo : Int) : Nat → List Int → List (Prop × am_C)
  | _, [] => []
  | j, off :: r => (x = lo + (j : Int), mk ((pc : Int) + off).toNat) :: am_sw mk pc x lo (j + 1) r
def am_swo (pc : Nat) : List Int → Bool
  | [] => true
  | off :: r => decide (0 ≤ (pc : Int) + off) && am_swo pc r
/-- the receiver is an object of the class -/
def am_rc (sh : List am_D) (oc : Nat) (args : List Value) : Prop := match args with
  | .ref o :: _ => match sh[o]? with
    | some (.inl (ci, _)) => ci = oc
    | _ => False
  | _ => False
def am_inv (G : am_G) (sh : List am_D) (μ pc nc : Nat) (lo : List (Option Value)) (st : List Value) (h : am_S) (k μ' n : Nat) : Option am_N := match am_pp n st [] with
  | some (args, rest) => some ((k ≤ 1 → am_rc sh (am_oc G μ') args) ∧ am_ct rest ≤ 8 ∧ n ≤ am_ml G μ' ∧ nc + am_nc G μ' ≤ am_nc G μ, .inr (.inl ((μ', 0, 0, am_in (am_ml G μ') args, [], h), fun h' r => (μ, pc + 3, nc + am_nc G μ', lo, r.toList ++ rest, h'))))
  | none => none
def am_op (G : am_G) (sh : List am_D) (μ pc len tg nc : Nat) (lo : List (Option Value)) (st : List Value) (h : am_S) (i : Instr) : Option am_N := match i with
  | .iconst v => am_one (μ, pc + len, nc, lo, .int (Int32.ofInt v) :: st, h)
  | .bipush v => am_one (μ, pc + len, nc, lo, .int (Int8.ofInt v).toInt32 :: st, h)
  | .sipush v => am_one (μ, pc + len, nc, lo, .int (Int16.ofInt v).toInt32 :: st, h)
  | .lconst v => am_one (μ, pc + len, nc, lo, .long (Int64.ofNat v.val) :: st, h)
  | .ldc ix => match am_ki G μ ix with
    | some v => am_one (μ, pc + len, nc, lo, .int v :: st, h)
    | none => none
  | .ldc2_w ix => match am_kl G μ ix with
    | some v => am_one (μ, pc + len, nc, lo, .long v :: st, h)
    | none => none
  | .iload_n k => match lo[k.val]? with
    | some (some (.int x)) => am_one (μ, pc + len, nc, lo, .int x :: st, h)
    | _ => none
  | .iload k => match lo[k]? with
    | some (some (.int x)) => am_one (μ, pc + len, nc, lo, .int x :: st, h)
    | _ => none
  | .lload_n k => match lo[k.val]? with
    | some (some (.long x)) => am_one (μ, pc + len, nc, lo, .long x :: st, h)
    | _ => none
  | .lload k => match lo[k]? with
    | some (some (.long x)) => am_one (μ, pc + len, nc, lo, .long x :: st, h)
    | _ => none
  | .aload_n k => match lo[k.val]? with
    | some (some (.ref x)) => am_one (μ, pc + len, nc, lo, .ref x :: st, h)
    | _ => none
  | .aload k => match lo[k]? with
    | some (some (.ref x)) => am_one (μ, pc + len, nc, lo, .ref x :: st, h)
    | _ => none
  | .istore_n k => match st with
    | .int x :: r => some (k.val < am_ml G μ, .inl [(True, (μ, pc + len, nc, am_s1 lo k.val (.int x), r, h))])
    | _ => none
  | .istore k => match st with
    | .int x :: r => some (k < am_ml G μ, .inl [(True, (μ, pc + len, nc, am_s1 lo k (.int x), r, h))])
    | _ => none
  | .lstore_n k => match st with
    | .long x :: r => some (k.val + 1 < am_ml G μ, .inl [(True, (μ, pc + len, nc, am_s2 lo k.val (.long x), r, h))])
    | _ => none
  | .lstore k => match st with
    | .long x :: r => some (k + 1 < am_ml G μ, .inl [(True, (μ, pc + len, nc, am_s2 lo k (.long x), r, h))])
    | _ => none
  | .astore_n k => match st with
    | .ref x :: r => some (k.val < am_ml G μ, .inl [(True, (μ, pc + len, nc, am_s1 lo k.val (.ref x), r, h))])
    | _ => none
  | .astore k => match st with
    | .ref x :: r => some (k < am_ml G μ, .inl [(True, (μ, pc + len, nc, am_s1 lo k (.ref x), r, h))])
    | _ => none
  | .iinc k v => match lo[k]? with
    | some (some (.int x)) => some (k < am_ml G μ, .inl [(True, (μ, pc + len, nc, am_s1 lo k (.int (x + Int32.ofInt v)), st, h))])
    | _ => none
  | .iadd => match st with
    | .int y :: .int x :: r => am_one (μ, pc + len, nc, lo, .int (x + y) :: r, h)
    | _ => none
  | .isub => match st with
    | .int y :: .int x :: r => am_one (μ, pc + len, nc, lo, .int (x - y) :: r, h)
    | _ => none
  | .imul => match st with
    | .int y :: .int x :: r => am_one (μ, pc + len, nc, lo, .int (x * y) :: r, h)
    | _ => none
  | .iand => match st with
    | .int y :: .int x :: r => am_one (μ, pc + len, nc, lo, .int (x &&& y) :: r, h)
    | _ => none
  | .ixor => match st with
    | .int y :: .int x :: r => am_one (μ, pc + len, nc, lo, .int (x ^^^ y) :: r, h)
    | _ => none
  | .irem => match st with
    | .int y :: .int x :: r => some (¬ y = 0, .inl [(True, (μ, pc + len, nc, lo, .int (x - x / y * y) :: r, h))])
    | _ => none
  | .ladd => match st with
    | .long y :: .long x :: r => am_one (μ, pc + len, nc, lo, .long (x + y) :: r, h)
    | _ => none
  | .i2l => match st with
    | .int x :: r => am_one (μ, pc + len, nc, lo, .long x.toInt64 :: r, h)
    | _ => none
  | .l2i => match st with
    | .long x :: r => am_one (μ, pc + len, nc, lo, .int x.toInt32 :: r, h)
    | _ => none
  | .dup => match st with
    | v :: r => some (v.category = 1, .inl [(True, (μ, pc + len, nc, lo, v :: v :: r, h))])
    | _ => none
  | .pop => match st with
    | v :: r => some (v.category = 1, .inl [(True, (μ, pc + len, nc, lo, r, h))])
    | _ => none
  | .dup2 => match st with
    | v :: w :: r => some (v.category = 1 ∧ w.category = 1, .inl [(True, (μ, pc + len, nc, lo, v :: w :: v :: w :: r, h))])
    | _ => none
  | .dup_x1 => match st with
    | v :: w :: r => some (v.category = 1 ∧ w.category = 1, .inl [(True, (μ, pc + len, nc, lo, v :: w :: v :: r, h))])
    | _ => none
  | .goto _ => am_one (μ, tg, nc, lo, st, h)
  | .ifCond cc _ => match st with
    | .int x :: r => am_br cc x 0 (μ, tg, nc, lo, r, h) (μ, pc + len, nc, lo, r, h)
    | _ => none
  | .if_icmp cc _ => match st with
    | .int y :: .int x :: r => am_br cc x y (μ, tg, nc, lo, r, h) (μ, pc + len, nc, lo, r, h)
    | _ => none
  | .tableswitch _ l u offs => match st with
    | .int x :: r => some (u + 1 = l + (offs.size : Int) ∧ am_swo pc offs.toList = true, .inl ((x.toInt < l ∨ u < x.toInt, (μ, tg, nc, lo, r, h)) :: am_sw (fun t => (μ, t, nc, lo, r, h)) pc x.toInt l 0 offs.toList))
    | _ => none
  | .getfield ix => match am_fld G μ ix with
    | some (ci, k) => match st with
      | .ref o :: r => match sh[o]? with
        | some (.inl (cj, fs)) => match fs[k]? with
          | some (.inl q) => some (ci = cj, .inl [(True, (μ, pc + len, nc, lo, .ref q :: r, h))])
          | some (.inr j) => some (ci = cj, .inl [(True, (μ, pc + len, nc, lo, .int (h.1 j) :: r, h))])
          | none => none
        | _ => none
      | _ => none
    | none => none
  | .putfield ix => match am_fld G μ ix with
    | some (ci, k) => match st with
      | .int x :: .ref o :: r => match sh[o]? with
        | some (.inl (cj, fs)) => match fs[k]? with
          | some (.inr j) => some (ci = cj, .inl [(True, (μ, pc + len, nc, lo, r, (upd h.1 j x, h.2)))])
          | _ => none
        | _ => none
      | _ => none
    | none => none
  | .iaload => match st with
    | .int j :: .ref o :: r => match sh[o]? with
      | some (.inr (0, n)) => some (vp_in j n, .inl [(True, (μ, pc + len, nc, lo, .int (h.2 o j.toNatClampNeg) :: r, h))])
      | _ => none
    | _ => none
  | .iastore => match st with
    | .int x :: .int j :: .ref o :: r => match sh[o]? with
      | some (.inr (0, n)) => some (vp_in j n, .inl [(True, (μ, pc + len, nc, lo, r, (h.1, va_up h.2 o (upd (h.2 o) j.toNatClampNeg x))))])
      | _ => none
    | _ => none
  | .baload => match st with
    | .int j :: .ref o :: r => match sh[o]? with
      | some (.inr (1, n)) => some (vp_in j n, .inl [(True, (μ, pc + len, nc, lo, .int (h.2 o j.toNatClampNeg) :: r, h))])
      | _ => none
    | _ => none
  | .bastore => match st with
    | .int x :: .int j :: .ref o :: r => match sh[o]? with
      | some (.inr (1, n)) => some (vp_in j n ∧ (x = 0 ∨ x = 1), .inl [(True, (μ, pc + len, nc, lo, r, (h.1, va_up h.2 o (upd (h.2 o) j.toNatClampNeg x))))])
      | _ => none
    | _ => none
  | .arraylength => match st with
    | .ref o :: r => match sh[o]? with
      | some (.inr (0, n)) => am_one (μ, pc + len, nc, lo, .int (Int32.ofNat n) :: r, h)
      | _ => none
    | _ => none
  | .invokevirtual ix => match am_cal G μ ix with
    | some (0, μ', n) => am_inv G sh μ pc nc lo st h 0 μ' (n + 1)
    | _ => none
  | .invokestatic ix => match am_cal G μ ix with
    | some (2, μ', n) => am_inv G sh μ pc nc lo st h 2 μ' n
    | some (3, _, _) => match st with
      | .int y :: .int x :: r => some (am_ct r ≤ 8 ∧ nc ≤ am_nc G μ, .inl [(True, (μ, pc + len, nc, lo, .int (if x < y then y else x) :: r, h))])
      | _ => none
    | some (4, _, _) => match st with
      | .int y :: .int x :: r => some (am_ct r ≤ 8 ∧ nc ≤ am_nc G μ, .inl [(True, (μ, pc + len, nc, lo, .int (if y < x then y else x) :: r, h))])
      | _ => none
    | some (5, _, _) => match st with
      | .long y :: .long x :: r => some (am_ct r ≤ 8 ∧ nc ≤ am_nc G μ, .inl [(True, (μ, pc + len, nc, lo, .long (if y < x then y else x) :: r, h))])
      | _ => none
    | _ => none
  | .ireturn => match st with
    | [.int x] => some ((am_rt G μ = 1 ∨ (am_rt G μ = 2 ∧ (x = 0 ∨ x = 1))) ∧ nc ≤ am_nc G μ, .inr (.inr (h, .inl (some (.int x)))))
    | _ => none
  | .return_ => match st with
    | [] => some (am_rt G μ = 0 ∧ nc ≤ am_nc G μ, .inr (.inr (h, .inl none)))
    | _ => none
  | .new _ => match am_th G μ pc with
    | some E => some (nc + 1 ≤ am_nc G μ ∧ am_ct st ≤ 8, .inr (.inr (h, .inr E)))
    | none => none
  | _ => none
def am_step (G : am_G) (sh : List am_D) (c : am_C) : Option am_N := match am_code G c.1 c.2.1 with
  | some (i, len, tg) => am_op G sh c.1 c.2.1 len tg c.2.2.1 c.2.2.2.1 c.2.2.2.2.1 c.2.2.2.2.2 i
  | none => none
def am_all (f : am_C → Prop) : List (Prop × am_C) → Prop
  | [] => True
  | q :: r => (q.1 → f q.2) ∧ am_all f r
theorem am_all_mono {f g : am_C → Prop} (hfg : ∀ c, f c → g c) : ∀ {l : List (Prop × am_C)}, am_all f l → am_all g l
  | [], _ => trivial
  | _ :: _, h => ⟨fun hq => hfg _ (h.1 hq), am_all_mono hfg h.2⟩
/-- what a caller makes of an outcome -/
def am_k (Q : am_Q) (f : am_S → Option Value → Prop) : am_Q := fun h o => match o with
  | .inl r => f h r
  | .inr E => Q h (.inr E)
theorem am_k_mono {Q Q' : am_Q} {f f' : am_S → Option Value → Prop} (hQ : ∀ h o, Q h o → Q' h o) (hf : ∀ h r, f h r → f' h r) : ∀ h o, am_k Q f h o → am_k Q' f' h o := by
  intro h o
  cases o with
  | inl r => exact hf h r
  | inr E => exact hQ h _
def am_go (P : am_C → am_Q → Prop) (F : am_C → am_Q → Prop) (n : Option am_N) (Q : am_Q) : Prop := match n with
  | none => False
  | some (ob, .inl l) => ob ∧ am_all (fun c' => F c' Q) l
  | some (ob, .inr (.inl (c', K))) => ob ∧ P c' (am_k Q (fun h r => F (K h r) Q))
  | some (ob, .inr (.inr (h, o))) => ob ∧ Q h o
def am_mono (P : am_C → am_Q → Prop) : Prop := ∀ (c : am_C) (Q Q' : am_Q), (∀ h o, Q h o → Q' h o) → P c Q → P c Q'
theorem am_go_le {P P' F F' : am_C → am_Q → Prop} (hm : am_mono P') (hP : ∀ c Q, P c Q → P' c Q) (hF : ∀ c Q, F c Q → F' c Q) {n : Option am_N} {Q : am_Q} (h : am_go P F n Q) : am_go P' F' n Q := by
  match n, h with
  | some (ob, .inl l), h => exact ⟨h.1, am_all_mono (fun c hc => hF c Q hc) h.2⟩
  | some (ob, .inr (.inl (c', K))), h => exact ⟨h.1, hm _ _ _ (am_k_mono (fun _ _ q => q) (fun h r q => hF _ _ q)) (hP _ _ h.2)⟩
  | some (ob, .inr (.inr (h0, o))), h => exact h
theorem am_go_mono {P F : am_C → am_Q → Prop} (hP : am_mono P) (hF : am_mono F) {n : Option am_N} {Q Q' : am_Q} (hQ : ∀ h o, Q h o → Q' h o) (h : am_go P F n Q) : am_go P F n Q' := by
  match n, h with
  | some (ob, .inl l), h => exact ⟨h.1, am_all_mono (fun c hc => hF c Q Q' hQ hc) h.2⟩
  | some (ob, .inr (.inl (c', K))), h => exact ⟨h.1, hP _ _ _ (am_k_mono hQ (fun h r q => hF _ _ _ hQ q)) h.2⟩
  | some (ob, .inr (.inr (h0, o))), h => exact ⟨h.1, hQ _ _ h.2⟩
/-- the least predicate that is closed under steps -/
def am_AW (G : am_G) (sh : List am_D) (c : am_C) (Q : am_Q) : Prop := ∀ P : am_C → am_Q → Prop, am_mono P → (∀ c Q, am_go P P (am_step G sh c) Q → P c Q) → P c Q
theorem am_AW_mono (G : am_G) (sh : List am_D) : am_mono (am_AW G sh) := fun c Q Q' hQ h P hm hc => hm c Q Q' hQ (h P hm hc)
theorem am_AW.fold {G : am_G} {sh : List am_D} {c : am_C} {Q : am_Q} (h : am_go (am_AW G sh) (am_AW G sh) (am_step G sh c) Q) : am_AW G sh c Q :=
  fun P hm hc => hc c Q (am_go_le hm (fun _ _ q => q P hm hc) (fun _ _ q => q P hm hc) h)
/-- n steps at once -/
def am_R (G : am_G) (sh : List am_D) : Nat → am_C → am_Q → Prop
  | 0, c, Q => am_AW G sh c Q
  | n + 1, c, Q => am_go (am_AW G sh) (fun c' Q' => am_R G sh n c' Q') (am_step G sh c) Q
theorem am_AW.run {G : am_G} {sh : List am_D} : ∀ (n : Nat) {c : am_C} {Q : am_Q}, am_R G sh n c Q → am_AW G sh c Q
  | 0, _, _, h => h
  | n + 1, _, _, h => am_AW.fold (am_go_le (am_AW_mono G sh) (fun _ _ q => q) (fun _ _ q => am_AW.run n q) h)
end
section
/-! THE ABSTRACT MACHINE IS SOUND: what am_AW says of a configuration holds of the machine. -/
def am_cv (ad : Nat → Nat) (v : Value) : Value := match v with
  | .ref k => .ref (ad k)
  | w => w
theorem am_cv_cat (ad : Nat → Nat) (v : Value) : (am_cv ad v).category = v.category := by cases v <;> rfl
def am_fv (ad : Nat → Nat) (I : Nat → Int32) (f : Nat ⊕ Nat) : Value := match f with
  | .inl r => .ref (ad r)
  | .inr i => .int (I i)
def am_E (ad : Nat → Nat) (ca : Nat → ClassId) (h : am_S) (k : Nat) (d : am_D) : va_E := match d with
  | .inl (ci, fs) => .inr (ci, fs.map (am_fv ad h.1))
  | .inr (tc, n) => .inl (ca tc, n, .inl (h.2 k))
def am_W (sh : List am_D) (ad : Nat → Nat) (ca : Nat → ClassId) (h : am_S) : va_W := sh.mapIdx (fun k d => (ad k, am_E ad ca h k d))
def am_ty (ca : Nat → ClassId) : List (ClassId × FieldType) := [(ca 0, .int), (ca 1, .boolean)]
theorem am_W_get {sh : List am_D} {ad : Nat → Nat} {ca : Nat → ClassId} {h : am_S} {k : Nat} {d : am_D} (hd : sh[k]? = some d) : (am_W sh ad ca h)[k]? = some (ad k, am_E ad ca h k d) := by
  simp [am_W, List.getElem?_mapIdx, hd]
/-- a shape's numbers have names of their own; its number fields are ints that are not final -/
def am_Sh (cl : List vw_C) (sh : List am_D) : Prop :=
  (∀ (o ci : Nat) (fs : List (Nat ⊕ Nat)) (k i : Nat), sh[o]? = some (.inl (ci, fs)) → fs[k]? = some (.inr i) → ∀ (o' ci' : Nat) (fs' : List (Nat ⊕ Nat)) (k' : Nat), sh[o']? = some (.inl (ci', fs')) → fs'[k']? = some (.inr i) → o' = o ∧ k' = k) ∧
  ∀ (o ci : Nat) (fs : List (Nat ⊕ Nat)), sh[o]? = some (.inl (ci, fs)) → ∀ (C : String) (T : u_T) (N : Nat), cl[ci]? = some (C, T, N) → fs.length = N ∧ ∀ k i : Nat, fs[k]? = some (.inr i) → parseFieldDescriptor (T k).2.2.1 = some .int ∧ (T k).2.2.2 = false
theorem am_W_row {sh : List am_D} {ad : Nat → Nat} {ca : Nat → ClassId} {h : am_S} {o tc n : Nat} {f : Nat → Int32} (hd : sh[o]? = some (.inr (tc, n))) : (am_W sh ad ca h).set o (ad o, .inl (ca tc, n, .inl f)) = am_W sh ad ca (h.1, va_up h.2 o f) := by
  apply List.ext_getElem?
  intro j
  by_cases hj : j = o
  · subst hj
    have hl : j < (am_W sh ad ca h).length := (List.getElem?_eq_some_iff.mp (am_W_get (ad := ad) (ca := ca) (h := h) hd)).1
    rw [List.getElem?_set_self hl, am_W_get hd]
    simp [am_E, va_up]
  · rw [List.getElem?_set_ne (Ne.symm hj)]
    cases hs : sh[j]? with
    | none => simp [am_W, List.getElem?_mapIdx, hs]
    | some d =>
      rw [am_W_get hs, am_W_get hs]
      cases d with
      | inl q => rfl
      | inr q => simp [am_E, va_up, hj]
theorem am_W_num {cl : List vw_C} {sh : List am_D} (hsh : am_Sh cl sh) {ad : Nat → Nat} {ca : Nat → ClassId} {h : am_S} {o ci k i : Nat} {fs : List (Nat ⊕ Nat)} {x : Int32} (hd : sh[o]? = some (.inl (ci, fs))) (hk : fs[k]? = some (.inr i)) :
    (am_W sh ad ca h).set o (ad o, .inr (ci, (fs.map (am_fv ad h.1)).set k (.int x))) = am_W sh ad ca (upd h.1 i x, h.2) := by
  have old : ∀ (o' ci' : Nat) (fs' : List (Nat ⊕ Nat)) (k' : Nat) (z : Nat ⊕ Nat), sh[o']? = some (.inl (ci', fs')) → fs'[k']? = some z → ¬ (o' = o ∧ k' = k) → am_fv ad (upd h.1 i x) z = am_fv ad h.1 z := by
    intro o' ci' fs' k' z h1 h2 h3
    cases z with
    | inl r => rfl
    | inr i' =>
      by_cases hi : i' = i
      · subst hi
        exact absurd (hsh.1 o ci fs k i' hd hk o' ci' fs' k' h1 h2) h3
      · simp [am_fv, upd, hi]
  apply List.ext_getElem?
  intro j
  by_cases hj : j = o
  · subst hj
    have hl : j < (am_W sh ad ca h).length := (List.getElem?_eq_some_iff.mp (am_W_get (ad := ad) (ca := ca) (h := h) hd)).1
    rw [List.getElem?_set_self hl, am_W_get hd]
    simp only [am_E, Option.some.injEq, Prod.mk.injEq, Sum.inr.injEq, true_and]
    apply List.ext_getElem?
    intro k'
    by_cases hk' : k' = k
    · subst hk'
      have hl2 : k' < (fs.map (am_fv ad h.1)).length := by
        rw [List.length_map]
        exact (List.getElem?_eq_some_iff.mp hk).1
      rw [List.getElem?_set_self hl2, List.getElem?_map, hk]
      simp [am_fv, upd]
    · rw [List.getElem?_set_ne (Ne.symm hk'), List.getElem?_map, List.getElem?_map]
      cases hz : fs[k']? with
      | none => rfl
      | some z =>
        simp only [Option.map_some, Option.some.injEq]
        exact (old j ci fs k' z hd hz (fun q => hk' q.2)).symm
  · rw [List.getElem?_set_ne (Ne.symm hj)]
    cases hs : sh[j]? with
    | none => simp [am_W, List.getElem?_mapIdx, hs]
    | some d =>
      rw [am_W_get hs, am_W_get hs]
      cases d with
      | inr q => rfl
      | inl q =>
        obtain ⟨c2, f2⟩ := q
        simp only [am_E, Option.some.injEq, Prod.mk.injEq, Sum.inr.injEq, true_and]
        apply List.ext_getElem?
        intro k'
        rw [List.getElem?_map, List.getElem?_map]
        cases hz : f2[k']? with
        | none => rfl
        | some z =>
          simp only [Option.map_some, Option.some.injEq]
          exact (old j c2 f2 k' z hs hz (fun q => hj q.1)).symm
/-- the locals -/
def am_lo (ad : Nat → Nat) (ls : Array Slot) (n : Nat) (lo : List (Option Value)) : Prop := ls.size = n ∧ lv_wf ls ∧ ∀ (i : Nat) (v : Value), lo[i]? = some (some v) → ls[i]? = some (.val (am_cv ad v))
def am_pl (ad : Nat → Nat) (n : Nat) (lo : List (Option Value)) : List (Nat × Value) := (List.range n).filterMap (fun i => match lo[i]? with
  | some (some v) => some (i, am_cv ad v)
  | _ => none)
theorem am_pl_mem {ad : Nat → Nat} {n : Nat} {lo : List (Option Value)} {i : Nat} {v : Value} (hi : i < n) (h : lo[i]? = some (some v)) : (i, am_cv ad v) ∈ am_pl ad n lo :=
  List.mem_filterMap.mpr ⟨i, List.mem_range.mpr hi, by rw [h]⟩
theorem am_lo.has {ad : Nat → Nat} {ls : Array Slot} {n : Nat} {lo : List (Option Value)} (h : am_lo ad ls n lo) : lv_has ls n (am_pl ad n lo) := by
  refine ⟨h.1, h.2.1, fun q hq => ?_⟩
  obtain ⟨i, -, hi⟩ := List.mem_filterMap.mp hq
  split at hi
  · rename_i v hv
    cases hi
    exact h.2.2 i v hv
  · cases hi
theorem am_lo.lt {ad : Nat → Nat} {ls : Array Slot} {n : Nat} {lo : List (Option Value)} (h : am_lo ad ls n lo) {i : Nat} {v : Value} (hv : lo[i]? = some (some v)) : i < n := by
  rw [← h.1]
  exact (Array.getElem?_eq_some_iff.mp (h.2.2 i v hv)).1
theorem am_cut_get {lo : List (Option Value)} {i j : Nat} {w : Value} (h : (am_cut lo i)[j]? = some (some w)) : lo[j]? = some (some w) ∧ ¬ (j + 1 = i ∧ w.category = 2) := by
  cases i with
  | zero => exact ⟨h, fun q => by omega⟩
  | succ i =>
    simp only [am_cut] at h
    split at h
    · rename_i v hv
      split at h
      · rename_i hc
        by_cases hj : i = j
        · subst hj
          have hl : i < lo.length := (List.getElem?_eq_some_iff.mp hv).1
          rw [List.getElem?_set_self hl] at h
          simp at h
        · rw [List.getElem?_set_ne hj] at h
          exact ⟨h, fun q => hj (by omega)⟩
      · rename_i hc
        refine ⟨h, fun q => ?_⟩
        have : j = i := by omega
        subst this
        rw [hv] at h
        cases h
        exact hc q.2
    · rename_i hn
      refine ⟨h, fun q => ?_⟩
      have : j = i := by omega
      subst this
      exact hn w h
theorem am_lo_s1 {ad : Nat → Nat} {ls ls' : Array Slot} {n i : Nat} {lo : List (Option Value)} {v : Value} (h : am_lo ad ls n lo)
    (h' : lv_has ls' n ((i, am_cv ad v) :: (am_pl ad n lo).filter (fun q => !(q.1 == i) && !(q.1 + 1 == i && q.2.category == 2)))) : am_lo ad ls' n (am_s1 lo i v) := by
  refine ⟨h'.1, h'.2.1, fun j w hj => ?_⟩
  by_cases hij : i = j
  · subst hij
    have hl : i < (am_cut lo i).length := by
      have := (List.getElem?_eq_some_iff.mp hj).1
      simpa [am_s1] using this
    rw [am_s1, List.getElem?_set_self hl] at hj
    cases hj
    exact h'.2.2 (i, am_cv ad v) List.mem_cons_self
  · rw [am_s1, List.getElem?_set_ne hij] at hj
    obtain ⟨h1, h2⟩ := am_cut_get hj
    refine h'.2.2 (j, am_cv ad w) (List.mem_cons_of_mem _ (List.mem_filter.mpr ⟨am_pl_mem (h.lt h1) h1, ?_⟩))
    have hji : ¬ j = i := fun q => hij q.symm
    simp only [Bool.and_eq_true, Bool.not_eq_true', beq_eq_false_iff_ne, ne_eq, hji, not_false_iff, true_and, am_cv_cat, Bool.and_eq_false_iff]
    by_cases ha : j + 1 = i
    · right
      exact fun q => h2 ⟨ha, q⟩
    · left
      exact ha
theorem am_lo_s2 {ad : Nat → Nat} {ls ls' : Array Slot} {n i : Nat} {lo : List (Option Value)} {v : Value} (h : am_lo ad ls n lo)
    (h' : lv_has ls' n ((i, am_cv ad v) :: (am_pl ad n lo).filter (fun q => !(q.1 == i) && (!(q.1 == i + 1) && !(q.1 + 1 == i && q.2.category == 2))))) : am_lo ad ls' n (am_s2 lo i v) := by
  refine ⟨h'.1, h'.2.1, fun j w hj => ?_⟩
  by_cases hij1 : i + 1 = j
  · subst hij1
    have hl : i + 1 < ((am_cut lo i).set i (some v)).length := by
      have := (List.getElem?_eq_some_iff.mp hj).1
      simpa [am_s2] using this
    rw [am_s2, List.getElem?_set_self hl] at hj
    cases hj
  · rw [am_s2, List.getElem?_set_ne hij1] at hj
    by_cases hij : i = j
    · subst hij
      have hl : i < (am_cut lo i).length := by
        have := (List.getElem?_eq_some_iff.mp hj).1
        simpa using this
      rw [List.getElem?_set_self hl] at hj
      cases hj
      exact h'.2.2 (i, am_cv ad v) List.mem_cons_self
    · rw [List.getElem?_set_ne hij] at hj
      obtain ⟨h1, h2⟩ := am_cut_get hj
      refine h'.2.2 (j, am_cv ad w) (List.mem_cons_of_mem _ (List.mem_filter.mpr ⟨am_pl_mem (h.lt h1) h1, ?_⟩))
      have hji : ¬ j = i := fun q => hij q.symm
      have hji1 : ¬ j = i + 1 := fun q => hij1 q.symm
      simp only [Bool.and_eq_true, Bool.not_eq_true', beq_eq_false_iff_ne, ne_eq, hji, hji1, not_false_iff, true_and, am_cv_cat, Bool.and_eq_false_iff]
      by_cases ha : j + 1 = i
      · right
        exact fun q => h2 ⟨ha, q⟩
      · left
        exact ha
theorem am_pp_spec : ∀ {n : Nat} {st acc args rest : List Value}, am_pp n st acc = some (args, rest) → ∃ pre : List Value, st = pre ++ rest ∧ args = pre.reverse ++ acc ∧ pre.length = n ∧ ∀ v ∈ pre, v.category = 1
  | 0, st, acc, args, rest, h => by
    simp only [am_pp, Option.some.injEq, Prod.mk.injEq] at h
    obtain ⟨rfl, rfl⟩ := h
    exact ⟨[], rfl, rfl, rfl, fun v hv => by cases hv⟩
  | n + 1, [], acc, args, rest, h => by simp [am_pp] at h
  | n + 1, v :: st, acc, args, rest, h => by
    simp only [am_pp] at h
    split at h
    · rename_i hc
      obtain ⟨pre, rfl, rfl, h3, h4⟩ := am_pp_spec h
      refine ⟨v :: pre, rfl, by simp, by simp [h3], fun w hw => ?_⟩
      rcases List.mem_cons.mp hw with rfl | hw
      · exact hc
      · exact h4 w hw
    · cases h
theorem am_in_get : ∀ {n : Nat} {args : List Value} {i : Nat} {v : Value}, (am_in n args)[i]? = some (some v) → args[i]? = some v
  | n, [], i, v, h => by
    exfalso
    have key : ∀ (n i : Nat), (am_no n)[i]? ≠ some (some v) := by
      intro n
      induction n with
      | zero => intro i q; simp [am_no] at q
      | succ n ih =>
        intro i q
        cases i with
        | zero => simp [am_no] at q
        | succ i => exact ih i (by simpa [am_no] using q)
    cases n <;> exact key _ _ (by simpa [am_in] using h)
  | 0, a :: r, 0, v, h => by simpa [am_in] using h
  | 0, a :: r, i + 1, v, h => by
    have := am_in_get (n := 0) (args := r) (i := i) (v := v) (by simpa [am_in] using h)
    simpa using this
  | n + 1, a :: r, 0, v, h => by simpa [am_in] using h
  | n + 1, a :: r, i + 1, v, h => by
    have := am_in_get (n := n) (args := r) (i := i) (v := v) (by simpa [am_in] using h)
    simpa using this
theorem am_sl1 : ∀ {vs : List Value}, (∀ v ∈ vs, v.category = 1) → (lg_sl vs).length = vs.length
  | [], _ => rfl
  | v :: r, h => by
    have h1 := h v List.mem_cons_self
    have ih := am_sl1 (vs := r) (fun w hw => h w (List.mem_cons_of_mem _ hw))
    simp only [lg_sl, List.flatMap_cons, h1] at ih ⊢
    simp [ih]
theorem am_args1 : ∀ {vs : List Value} {k i : Nat} {v : Value}, (∀ w ∈ vs, w.category = 1) → vs[i]? = some v → (k + i, v) ∈ lv_args k vs
  | [], k, i, v, _, h => by simp at h
  | w :: r, k, 0, v, hc, h => by
    have : w = v := by simpa using h
    subst this
    exact List.mem_cons_self
  | w :: r, k, i + 1, v, hc, h => by
    have h1 := hc w List.mem_cons_self
    have := am_args1 (k := k + 1) (i := i) (v := v) (fun w hw => hc w (List.mem_cons_of_mem _ hw)) (by simpa using h)
    refine List.mem_cons_of_mem _ ?_
    rw [h1, if_neg (by decide)]
    rw [show k + (i + 1) = k + 1 + i by omega]
    exact this
theorem am_nn_spec {z : Int} {t : Nat} (h : am_nn z = some t) : z = (t : Int) := by
  cases z with
  | ofNat n => simp only [am_nn, Option.some.injEq] at h; rw [h]; rfl
  | negSucc n => cases h
theorem am_ct_map {ad : Nat → Nat} : ∀ st : List Value, ((st.map (am_cv ad)).map fun v => v.category).sum = am_ct st
  | [] => rfl
  | v :: r => by
    simp only [List.map_cons, List.sum_cons, am_cv_cat, am_ct]
    rw [am_ct_map r]
/-- what the tables must say -/
def am_Ok (G : am_G) (TS NS : List Cond) (cl : List vw_C) : Prop :=
  (∀ w ∈ TS, goodWord w = true) ∧
  (∀ (μ : Nat) (M : am_M), am_m G μ = some M → plainFor M.1 = true ∧ Cond.code M.1 M.2.1 M.2.2.1 M.2.2.2.1 ∈ TS ∧ Cond.initialized M.1.cls ∈ TS ∧ (M.1.cls ≠ "java/lang/invoke/MethodHandle" ∧ M.1.cls ≠ "java/lang/invoke/VarHandle") ∧ M.2.2.2.2.2.slots = 6 * M.2.2.2.2.2.cells) ∧
  (∀ (μ : Nat) (M : am_M) (ix ci k : Nat), am_m G μ = some M → am_fld G μ ix = some (ci, k) → ∃ (C : String) (T : u_T) (N : Nat) (ty : Nat → FieldType), cl[ci]? = some (C, T, N) ∧ k < N ∧ (T k).1 = C ∧ (∀ w ∈ u_ws C T N, w ∈ TS) ∧ (∀ j, j < N → parseFieldDescriptor (T j).2.2.1 = some (ty j)) ∧ (∀ a, a < N → ∀ b, b < N → a ≠ b → (T a).2.1 ≠ (T b).2.1) ∧
    (Cond.fieldLink M.1.cls ix C (T k).2.1 (T k).2.2.1 ∈ TS ∨ ∃ host, Cond.fieldLinkNest M.1.cls ix C (T k).2.1 (T k).2.2.1 host ∈ NS)) ∧
  (∀ (μ : Nat) (M : am_M) (ix μ' n : Nat), am_m G μ = some M → am_cal G μ ix = some (0, μ', n) → ∃ M' : am_M, am_m G μ' = some M' ∧ Cond.methodLink M.1.cls ix M'.1 ∈ TS ∧ Cond.instanceMethod M'.1 ∈ TS ∧ Cond.selects M'.1.cls M'.1 M'.1 ∈ TS ∧ (parseMethodDescriptor M'.1.desc).map (fun d => d.parameters.length) = some n ∧
    M'.2.2.2.2.2.frames + 1 ≤ M.2.2.2.2.2.frames ∧ 8 + (M'.2.2.1 + 11) + M'.2.2.2.2.2.locals ≤ M.2.2.2.2.2.locals ∧ ∃ (T : u_T) (N : Nat), cl[M'.2.2.2.2.1]? = some (M'.1.cls, T, N)) ∧
  (∀ (μ : Nat) (M : am_M) (ix μ' n : Nat), am_m G μ = some M → am_cal G μ ix = some (2, μ', n) → ∃ M' : am_M, am_m G μ' = some M' ∧ Cond.methodLink M.1.cls ix M'.1 ∈ TS ∧ Cond.static M'.1 ∈ TS ∧ (parseMethodDescriptor M'.1.desc).map (fun d => d.parameters.length) = some n ∧
    M'.2.2.2.2.2.frames + 1 ≤ M.2.2.2.2.2.frames ∧ 8 + (M'.2.2.1 + 11) + M'.2.2.2.2.2.locals ≤ M.2.2.2.2.2.locals) ∧
  (∀ (μ : Nat) (M : am_M) (ix a b : Nat), am_m G μ = some M → am_cal G μ ix = some (3, a, b) → Cond.methodLink M.1.cls ix Lib.Math.max.name ∈ TS ∧ Cond.static Lib.Math.max.name ∈ TS ∧ Cond.initialized "java/lang/Math" ∈ TS ∧ Cond.code Lib.Math.max.name Lib.Math.max.code 2 (some .int) ∈ TS ∧ 1 ≤ M.2.2.2.2.2.frames ∧ 23 ≤ M.2.2.2.2.2.locals) ∧
  (∀ (μ : Nat) (M : am_M) (ix a b : Nat), am_m G μ = some M → am_cal G μ ix = some (4, a, b) → Cond.methodLink M.1.cls ix Lib.Math.min.name ∈ TS ∧ Cond.static Lib.Math.min.name ∈ TS ∧ Cond.initialized "java/lang/Math" ∈ TS ∧ Cond.code Lib.Math.min.name Lib.Math.min.code 2 (some .int) ∈ TS ∧ 1 ≤ M.2.2.2.2.2.frames ∧ 23 ≤ M.2.2.2.2.2.locals) ∧
  (∀ (μ : Nat) (M : am_M) (ix a b : Nat), am_m G μ = some M → am_cal G μ ix = some (5, a, b) → Cond.methodLink M.1.cls ix Lib.MathLoose.min_long.x ∈ TS ∧ Cond.static Lib.MathLoose.min_long.x ∈ TS ∧ Cond.initialized "java/lang/Math" ∈ TS ∧ Cond.code Lib.MathLoose.min_long.x Lib.MathLoose.min_long.code 4 (some .long) ∈ TS ∧ 1 ≤ M.2.2.2.2.2.frames ∧ 23 ≤ M.2.2.2.2.2.locals) ∧
  (∀ (μ : Nat) (M : am_M) (ix : Nat) (v : Int32), am_m G μ = some M → am_ki G μ ix = some v → Cond.constant M.1.cls ix v ∈ TS) ∧
  (∀ (μ : Nat) (M : am_M) (ix : Nat) (v : Int64), am_m G μ = some M → am_kl G μ ix = some v → Cond.constantLong M.1.cls ix v ∈ TS)
/-- a method's body at work -/
def am_B (TS NS : List Cond) (M : am_M) (p : Program) (s : State) (m : MethodId) (args : Array Value) (meth : Method) (cd : Code) : Prop :=
  p.tables.exec = Jvm.exec ∧ cd.code = M.2.1 ∧ meth.sig.returnType = M.2.2.2.1 ∧ cd.maxLocals = M.2.2.1 ∧ s.vm.findClass M.1.cls = some m.cls ∧ (∀ w ∈ TS, w.before args s = true) ∧ (∀ w ∈ NS, va_Nw w s) ∧ meth.locks = false ∧ ∀ x ∈ cd.exceptionTable.toList, False
def am_PW (G : am_G) (sh : List am_D) (TS NS : List Cond) (cl : List vw_C) (EX : (Nat → Prop) → State → Heap → Prop) (l : Launch) (c : am_C) (Q : am_Q) : Prop :=
  ∀ M : am_M, am_m G c.1 = some M → ∀ (p : Program) (e : Env) (s : State) (m : MethodId) (args : Array Value) (below : List Frame) (meth : Method) (cd : Code) (H : Heap) (locs : List Loc) (A : Nat → Prop) (ls : Array Slot) (ad : Nat → Nat) (ca : Nat → ClassId) (D : va_G),
    am_B TS NS M p s m args meth cd → EX A s s.heap → va_K D cl (am_ty ca) s → va_P D cl (am_W sh ad ca c.2.2.2.2.2) H → va_D A (am_W sh ad ca c.2.2.2.2.2) → va_S A s.heap H locs → (∀ q, s.heap.size ≤ q → A q) → am_lo ad ls M.2.2.1 c.2.2.2.1 →
    ∀ (Qc : Array Value → State → Outcome → State → Prop) (XC : String → State → State → Prop),
      (∀ (h' : am_S) (r : Option Value) (t : State), Q h' (.inl r) → s.vm.Alike t.vm → va_P D cl (am_W sh ad ca h') t.heap → va_D A (am_W sh ad ca h') → va_F A s t → Qc args s (.returned (r.map (am_cv ad))) t) →
      (∀ (h' : am_S) (E : String) (t : State), Q h' (.inr E) → s.vm.Alike t.vm → va_P D cl (am_W sh ad ca h') t.heap → va_D A (am_W sh ad ca h') → va_F A s t → XC E s t) →
      W p l e M.2.2.2.2.2 s m args below meth cd H locs c.2.2.1 (6 * c.2.2.1) (vx_MQ below Qc XC args s M.2.2.2.2.2.cells M.2.2.2.2.2.slots A) (F0 m c.2.1 ls (c.2.2.2.2.1.map (am_cv ad)))
theorem am_PW_mono (G : am_G) (sh : List am_D) (TS NS : List Cond) (cl : List vw_C) (EX : (Nat → Prop) → State → Heap → Prop) (l : Launch) : am_mono (am_PW G sh TS NS cl EX l) := by
  intro c Q Q' hQ h M hM p e s m args below meth cd H locs A ls ad ca D hB hE hK hP hD hS hA hl Qc XC h1 h2
  exact h M hM p e s m args below meth cd H locs A ls ad ca D hB hE hK hP hD hS hA hl Qc XC (fun h' r t q => h1 h' r t (hQ _ _ q)) (fun h' E t q => h2 h' E t (hQ _ _ q))
/-- what moves the throws' premises along -/
def am_EX (EX : (Nat → Prop) → State → Heap → Prop) : Prop := ∀ (A B : Nat → Prop) (u U : State) (H0 H1 : Heap), EX A u H0 → u.WarmedH U.vm → (∀ a : Nat, a < H0.size → ¬ A a → H1[a]? = H0[a]?) → (∀ q, B q → A q) → EX B U H1
/-- the throws themselves -/
def am_TH (G : am_G) (TS NS : List Cond) (EX : (Nat → Prop) → State → Heap → Prop) (l : Launch) : Prop :=
  ∀ (μ : Nat) (M : am_M) (pc : Nat) (E : String), am_m G μ = some M → am_th G μ pc = some E → ∀ (p : Program) (e : Env) (s : State) (m : MethodId) (args : Array Value) (below : List Frame) (meth : Method) (cd : Code) (H : Heap) (locs : List Loc) (A : Nat → Prop) (ls : Array Slot) (rest : List Value) (nc : Nat) (Qc : Array Value → State → Outcome → State → Prop) (XC : String → State → State → Prop),
    am_B TS NS M p s m args meth cd → EX A s s.heap → va_S A s.heap H locs → ls.size = M.2.2.1 → (rest.map fun v => v.category).sum ≤ 8 → nc + 1 ≤ M.2.2.2.2.2.cells →
    (∀ t : State, s.vm.Alike t.vm → H.size ≤ t.heap.size → (∀ q : Nat, q < H.size → t.heap[q]? = H[q]?) → XC E s t) →
    W p l e M.2.2.2.2.2 s m args below meth cd H locs nc (6 * nc) (vx_MQ below Qc XC args s M.2.2.2.2.2.cells M.2.2.2.2.2.slots A) (F0 m pc ls rest)
theorem am_ml_of {G : am_G} {μ : Nat} {M : am_M} (h : am_m G μ = some M) : am_ml G μ = M.2.2.1 := by simp [am_ml, h]
theorem am_oc_of {G : am_G} {μ : Nat} {M : am_M} (h : am_m G μ = some M) : am_oc G μ = M.2.2.2.2.1 := by simp [am_oc, h]
theorem am_nc_of {G : am_G} {μ : Nat} {M : am_M} (h : am_m G μ = some M) : am_nc G μ = M.2.2.2.2.2.cells := by simp [am_nc, h]
theorem am_rt_of {G : am_G} {μ : Nat} {M : am_M} (h : am_m G μ = some M) : am_rt G μ = am_rk M.2.2.2.1 := by simp [am_rt, h]
theorem am_rk_0 {t : Option FieldType} (h : am_rk t = 0) : t = none := by
  cases t with
  | none => rfl
  | some t => cases t <;> simp [am_rk] at h
theorem am_rk_1 {t : Option FieldType} (h : am_rk t = 1) : t = some .int := by
  cases t with
  | none => simp [am_rk] at h
  | some t => cases t <;> first | rfl | simp [am_rk] at h
theorem am_rk_2 {t : Option FieldType} (h : am_rk t = 2) : t = some .boolean := by
  cases t with
  | none => simp [am_rk] at h
  | some t => cases t <;> first | rfl | simp [am_rk] at h

set_option maxHeartbeats 1000000 in
theorem am_r_iconst {G : am_G} {sh : List am_D} {TS NS : List Cond} {cl : List vw_C} {EX : (Nat → Prop) → State → Heap → Prop} {l : Launch} (hok : am_Ok G TS NS cl) (hsh : am_Sh cl sh) {μ pc len tg nc : Nat} {lo : List (Option Value)} {st : List Value} {h : am_S} {Q : am_Q} {v : Int} (hc : am_code G μ pc = some (.iconst v, len, tg))
    (hF : am_go (am_PW G sh TS NS cl EX l) (am_PW G sh TS NS cl EX l) (am_op G sh μ pc len tg nc lo st h (.iconst v)) Q) : am_PW G sh TS NS cl EX l (μ, pc, nc, lo, st, h) Q := by
  intro M hM p e s m args below meth cd H locs A ls ad ca D hB hE hK hP hD hS hA hl Qc XC hQ hX
  obtain ⟨hdec, hln, htg⟩ := am_code_spec hM hc
  obtain ⟨hx, hb, hr, hml, hown, hts, hns, hlocks, hnoex⟩ := id hB
  have go : ∀ (pc' nc' : Nat) (st' : List Value), am_PW G sh TS NS cl EX l (μ, pc', nc', lo, st', h) Q → W p l e M.2.2.2.2.2 s m args below meth cd H locs nc' (6 * nc') (vx_MQ below Qc XC args s M.2.2.2.2.2.cells M.2.2.2.2.2.slots A) (F0 m pc' ls (st'.map (am_cv ad))) :=
    fun pc' nc' st' k => k M hM p e s m args below meth cd H locs A ls ad ca D hB hE hK hP hD hS hA hl Qc XC hQ hX
  obtain rfl : len = 1 := by simpa [am_ln] using hln
  exact lv_iconst hx hb hdec rfl (go _ _ _ (hF.2.1 trivial))

set_option maxHeartbeats 1000000 in
theorem am_r_bipush {G : am_G} {sh : List am_D} {TS NS : List Cond} {cl : List vw_C} {EX : (Nat → Prop) → State → Heap → Prop} {l : Launch} (hok : am_Ok G TS NS cl) (hsh : am_Sh cl sh) {μ pc len tg nc : Nat} {lo : List (Option Value)} {st : List Value} {h : am_S} {Q : am_Q} {v : Int} (hc : am_code G μ pc = some (.bipush v, len, tg))
    (hF : am_go (am_PW G sh TS NS cl EX l) (am_PW G sh TS NS cl EX l) (am_op G sh μ pc len tg nc lo st h (.bipush v)) Q) : am_PW G sh TS NS cl EX l (μ, pc, nc, lo, st, h) Q := by
  intro M hM p e s m args below meth cd H locs A ls ad ca D hB hE hK hP hD hS hA hl Qc XC hQ hX
  obtain ⟨hdec, hln, htg⟩ := am_code_spec hM hc
  obtain ⟨hx, hb, hr, hml, hown, hts, hns, hlocks, hnoex⟩ := id hB
  have go : ∀ (pc' nc' : Nat) (st' : List Value), am_PW G sh TS NS cl EX l (μ, pc', nc', lo, st', h) Q → W p l e M.2.2.2.2.2 s m args below meth cd H locs nc' (6 * nc') (vx_MQ below Qc XC args s M.2.2.2.2.2.cells M.2.2.2.2.2.slots A) (F0 m pc' ls (st'.map (am_cv ad))) :=
    fun pc' nc' st' k => k M hM p e s m args below meth cd H locs A ls ad ca D hB hE hK hP hD hS hA hl Qc XC hQ hX
  obtain rfl : len = 2 := by simpa [am_ln] using hln
  exact lv_bipush hx hb hdec rfl (go _ _ _ (hF.2.1 trivial))

set_option maxHeartbeats 1000000 in
theorem am_r_sipush {G : am_G} {sh : List am_D} {TS NS : List Cond} {cl : List vw_C} {EX : (Nat → Prop) → State → Heap → Prop} {l : Launch} (hok : am_Ok G TS NS cl) (hsh : am_Sh cl sh) {μ pc len tg nc : Nat} {lo : List (Option Value)} {st : List Value} {h : am_S} {Q : am_Q} {v : Int} (hc : am_code G μ pc = some (.sipush v, len, tg))
    (hF : am_go (am_PW G sh TS NS cl EX l) (am_PW G sh TS NS cl EX l) (am_op G sh μ pc len tg nc lo st h (.sipush v)) Q) : am_PW G sh TS NS cl EX l (μ, pc, nc, lo, st, h) Q := by
  intro M hM p e s m args below meth cd H locs A ls ad ca D hB hE hK hP hD hS hA hl Qc XC hQ hX
  obtain ⟨hdec, hln, htg⟩ := am_code_spec hM hc
  obtain ⟨hx, hb, hr, hml, hown, hts, hns, hlocks, hnoex⟩ := id hB
  have go : ∀ (pc' nc' : Nat) (st' : List Value), am_PW G sh TS NS cl EX l (μ, pc', nc', lo, st', h) Q → W p l e M.2.2.2.2.2 s m args below meth cd H locs nc' (6 * nc') (vx_MQ below Qc XC args s M.2.2.2.2.2.cells M.2.2.2.2.2.slots A) (F0 m pc' ls (st'.map (am_cv ad))) :=
    fun pc' nc' st' k => k M hM p e s m args below meth cd H locs A ls ad ca D hB hE hK hP hD hS hA hl Qc XC hQ hX
  obtain rfl : len = 3 := by simpa [am_ln] using hln
  exact lv_sipush hx hb hdec rfl (go _ _ _ (hF.2.1 trivial))

set_option maxHeartbeats 1000000 in
theorem am_r_lconst {G : am_G} {sh : List am_D} {TS NS : List Cond} {cl : List vw_C} {EX : (Nat → Prop) → State → Heap → Prop} {l : Launch} (hok : am_Ok G TS NS cl) (hsh : am_Sh cl sh) {μ pc len tg nc : Nat} {lo : List (Option Value)} {st : List Value} {h : am_S} {Q : am_Q} {v : Fin 2} (hc : am_code G μ pc = some (.lconst v, len, tg))
    (hF : am_go (am_PW G sh TS NS cl EX l) (am_PW G sh TS NS cl EX l) (am_op G sh μ pc len tg nc lo st h (.lconst v)) Q) : am_PW G sh TS NS cl EX l (μ, pc, nc, lo, st, h) Q := by
  intro M hM p e s m args below meth cd H locs A ls ad ca D hB hE hK hP hD hS hA hl Qc XC hQ hX
  obtain ⟨hdec, hln, htg⟩ := am_code_spec hM hc
  obtain ⟨hx, hb, hr, hml, hown, hts, hns, hlocks, hnoex⟩ := id hB
  have go : ∀ (pc' nc' : Nat) (st' : List Value), am_PW G sh TS NS cl EX l (μ, pc', nc', lo, st', h) Q → W p l e M.2.2.2.2.2 s m args below meth cd H locs nc' (6 * nc') (vx_MQ below Qc XC args s M.2.2.2.2.2.cells M.2.2.2.2.2.slots A) (F0 m pc' ls (st'.map (am_cv ad))) :=
    fun pc' nc' st' k => k M hM p e s m args below meth cd H locs A ls ad ca D hB hE hK hP hD hS hA hl Qc XC hQ hX
  obtain rfl : len = 1 := by simpa [am_ln] using hln
  exact lv_lconst hx hb hdec rfl (go _ _ _ (hF.2.1 trivial))

set_option maxHeartbeats 1000000 in
theorem am_r_ldc {G : am_G} {sh : List am_D} {TS NS : List Cond} {cl : List vw_C} {EX : (Nat → Prop) → State → Heap → Prop} {l : Launch} (hok : am_Ok G TS NS cl) (hsh : am_Sh cl sh) {μ pc len tg nc : Nat} {lo : List (Option Value)} {st : List Value} {h : am_S} {Q : am_Q} {ix : Nat} (hc : am_code G μ pc = some (.ldc ix, len, tg))
    (hF : am_go (am_PW G sh TS NS cl EX l) (am_PW G sh TS NS cl EX l) (am_op G sh μ pc len tg nc lo st h (.ldc ix)) Q) : am_PW G sh TS NS cl EX l (μ, pc, nc, lo, st, h) Q := by
  intro M hM p e s m args below meth cd H locs A ls ad ca D hB hE hK hP hD hS hA hl Qc XC hQ hX
  obtain ⟨hdec, hln, htg⟩ := am_code_spec hM hc
  obtain ⟨hx, hb, hr, hml, hown, hts, hns, hlocks, hnoex⟩ := id hB
  have go : ∀ (pc' nc' : Nat) (st' : List Value), am_PW G sh TS NS cl EX l (μ, pc', nc', lo, st', h) Q → W p l e M.2.2.2.2.2 s m args below meth cd H locs nc' (6 * nc') (vx_MQ below Qc XC args s M.2.2.2.2.2.cells M.2.2.2.2.2.slots A) (F0 m pc' ls (st'.map (am_cv ad))) :=
    fun pc' nc' st' k => k M hM p e s m args below meth cd H locs A ls ad ca D hB hE hK hP hD hS hA hl Qc XC hQ hX
  obtain rfl : len = 2 := by simpa [am_ln] using hln
  dsimp only [am_op] at hF
  split at hF
  · rename_i v hv
    exact lv_ldc hx hb hown (hts _ (hok.2.2.2.2.2.2.2.2.1 μ M ix v hM hv)) hdec (go _ _ _ (hF.2.1 trivial))
  · exact hF.elim

set_option maxHeartbeats 1000000 in
theorem am_r_ldc2 {G : am_G} {sh : List am_D} {TS NS : List Cond} {cl : List vw_C} {EX : (Nat → Prop) → State → Heap → Prop} {l : Launch} (hok : am_Ok G TS NS cl) (hsh : am_Sh cl sh) {μ pc len tg nc : Nat} {lo : List (Option Value)} {st : List Value} {h : am_S} {Q : am_Q} {ix : Nat} (hc : am_code G μ pc = some (.ldc2_w ix, len, tg))
    (hF : am_go (am_PW G sh TS NS cl EX l) (am_PW G sh TS NS cl EX l) (am_op G sh μ pc len tg nc lo st h (.ldc2_w ix)) Q) : am_PW G sh TS NS cl EX l (μ, pc, nc, lo, st, h) Q := by
  intro M hM p e s m args below meth cd H locs A ls ad ca D hB hE hK hP hD hS hA hl Qc XC hQ hX
  obtain ⟨hdec, hln, htg⟩ := am_code_spec hM hc
  obtain ⟨hx, hb, hr, hml, hown, hts, hns, hlocks, hnoex⟩ := id hB
  have go : ∀ (pc' nc' : Nat) (st' : List Value), am_PW G sh TS NS cl EX l (μ, pc', nc', lo, st', h) Q → W p l e M.2.2.2.2.2 s m args below meth cd H locs nc' (6 * nc') (vx_MQ below Qc XC args s M.2.2.2.2.2.cells M.2.2.2.2.2.slots A) (F0 m pc' ls (st'.map (am_cv ad))) :=
    fun pc' nc' st' k => k M hM p e s m args below meth cd H locs A ls ad ca D hB hE hK hP hD hS hA hl Qc XC hQ hX
  obtain rfl : len = 3 := by simpa [am_ln] using hln
  dsimp only [am_op] at hF
  split at hF
  · rename_i v hv
    exact lv_ldc2 hx hb hown (hts _ (hok.2.2.2.2.2.2.2.2.2 μ M ix v hM hv)) hdec (go _ _ _ (hF.2.1 trivial))
  · exact hF.elim

set_option maxHeartbeats 1000000 in
theorem am_r_iload_n {G : am_G} {sh : List am_D} {TS NS : List Cond} {cl : List vw_C} {EX : (Nat → Prop) → State → Heap → Prop} {l : Launch} (hok : am_Ok G TS NS cl) (hsh : am_Sh cl sh) {μ pc len tg nc : Nat} {lo : List (Option Value)} {st : List Value} {h : am_S} {Q : am_Q} {k : Fin 4} (hc : am_code G μ pc = some (.iload_n k, len, tg))
    (hF : am_go (am_PW G sh TS NS cl EX l) (am_PW G sh TS NS cl EX l) (am_op G sh μ pc len tg nc lo st h (.iload_n k)) Q) : am_PW G sh TS NS cl EX l (μ, pc, nc, lo, st, h) Q := by
  intro M hM p e s m args below meth cd H locs A ls ad ca D hB hE hK hP hD hS hA hl Qc XC hQ hX
  obtain ⟨hdec, hln, htg⟩ := am_code_spec hM hc
  obtain ⟨hx, hb, hr, hml, hown, hts, hns, hlocks, hnoex⟩ := id hB
  have go : ∀ (pc' nc' : Nat) (st' : List Value), am_PW G sh TS NS cl EX l (μ, pc', nc', lo, st', h) Q → W p l e M.2.2.2.2.2 s m args below meth cd H locs nc' (6 * nc') (vx_MQ below Qc XC args s M.2.2.2.2.2.cells M.2.2.2.2.2.slots A) (F0 m pc' ls (st'.map (am_cv ad))) :=
    fun pc' nc' st' k => k M hM p e s m args below meth cd H locs A ls ad ca D hB hE hK hP hD hS hA hl Qc XC hQ hX
  obtain rfl : len = 1 := by simpa [am_ln] using hln
  dsimp only [am_op] at hF
  split at hF
  · rename_i x hv
    exact lv_iload_n hx hb hdec rfl (hl.2.2 _ _ hv) (go _ _ _ (hF.2.1 trivial))
  · exact hF.elim

set_option maxHeartbeats 1000000 in
theorem am_r_iload {G : am_G} {sh : List am_D} {TS NS : List Cond} {cl : List vw_C} {EX : (Nat → Prop) → State → Heap → Prop} {l : Launch} (hok : am_Ok G TS NS cl) (hsh : am_Sh cl sh) {μ pc len tg nc : Nat} {lo : List (Option Value)} {st : List Value} {h : am_S} {Q : am_Q} {k : Nat} (hc : am_code G μ pc = some (.iload k, len, tg))
    (hF : am_go (am_PW G sh TS NS cl EX l) (am_PW G sh TS NS cl EX l) (am_op G sh μ pc len tg nc lo st h (.iload k)) Q) : am_PW G sh TS NS cl EX l (μ, pc, nc, lo, st, h) Q := by
  intro M hM p e s m args below meth cd H locs A ls ad ca D hB hE hK hP hD hS hA hl Qc XC hQ hX
  obtain ⟨hdec, hln, htg⟩ := am_code_spec hM hc
  obtain ⟨hx, hb, hr, hml, hown, hts, hns, hlocks, hnoex⟩ := id hB
  have go : ∀ (pc' nc' : Nat) (st' : List Value), am_PW G sh TS NS cl EX l (μ, pc', nc', lo, st', h) Q → W p l e M.2.2.2.2.2 s m args below meth cd H locs nc' (6 * nc') (vx_MQ below Qc XC args s M.2.2.2.2.2.cells M.2.2.2.2.2.slots A) (F0 m pc' ls (st'.map (am_cv ad))) :=
    fun pc' nc' st' k => k M hM p e s m args below meth cd H locs A ls ad ca D hB hE hK hP hD hS hA hl Qc XC hQ hX
  obtain rfl : len = 2 := by simpa [am_ln] using hln
  dsimp only [am_op] at hF
  split at hF
  · rename_i x hv
    exact lv_iload hx hb hdec (hl.2.2 _ _ hv) (go _ _ _ (hF.2.1 trivial))
  · exact hF.elim

set_option maxHeartbeats 1000000 in
theorem am_r_lload_n {G : am_G} {sh : List am_D} {TS NS : List Cond} {cl : List vw_C} {EX : (Nat → Prop) → State → Heap → Prop} {l : Launch} (hok : am_Ok G TS NS cl) (hsh : am_Sh cl sh) {μ pc len tg nc : Nat} {lo : List (Option Value)} {st : List Value} {h : am_S} {Q : am_Q} {k : Fin 4} (hc : am_code G μ pc = some (.lload_n k, len, tg))
    (hF : am_go (am_PW G sh TS NS cl EX l) (am_PW G sh TS NS cl EX l) (am_op G sh μ pc len tg nc lo st h (.lload_n k)) Q) : am_PW G sh TS NS cl EX l (μ, pc, nc, lo, st, h) Q := by
  intro M hM p e s m args below meth cd H locs A ls ad ca D hB hE hK hP hD hS hA hl Qc XC hQ hX
  obtain ⟨hdec, hln, htg⟩ := am_code_spec hM hc
  obtain ⟨hx, hb, hr, hml, hown, hts, hns, hlocks, hnoex⟩ := id hB
  have go : ∀ (pc' nc' : Nat) (st' : List Value), am_PW G sh TS NS cl EX l (μ, pc', nc', lo, st', h) Q → W p l e M.2.2.2.2.2 s m args below meth cd H locs nc' (6 * nc') (vx_MQ below Qc XC args s M.2.2.2.2.2.cells M.2.2.2.2.2.slots A) (F0 m pc' ls (st'.map (am_cv ad))) :=
    fun pc' nc' st' k => k M hM p e s m args below meth cd H locs A ls ad ca D hB hE hK hP hD hS hA hl Qc XC hQ hX
  obtain rfl : len = 1 := by simpa [am_ln] using hln
  dsimp only [am_op] at hF
  split at hF
  · rename_i x hv
    exact lv_lload_n hx hb hdec rfl (hl.2.2 _ _ hv) (go _ _ _ (hF.2.1 trivial))
  · exact hF.elim

set_option maxHeartbeats 1000000 in
theorem am_r_lload {G : am_G} {sh : List am_D} {TS NS : List Cond} {cl : List vw_C} {EX : (Nat → Prop) → State → Heap → Prop} {l : Launch} (hok : am_Ok G TS NS cl) (hsh : am_Sh cl sh) {μ pc len tg nc : Nat} {lo : List (Option Value)} {st : List Value} {h : am_S} {Q : am_Q} {k : Nat} (hc : am_code G μ pc = some (.lload k, len, tg))
    (hF : am_go (am_PW G sh TS NS cl EX l) (am_PW G sh TS NS cl EX l) (am_op G sh μ pc len tg nc lo st h (.lload k)) Q) : am_PW G sh TS NS cl EX l (μ, pc, nc, lo, st, h) Q := by
  intro M hM p e s m args below meth cd H locs A ls ad ca D hB hE hK hP hD hS hA hl Qc XC hQ hX
  obtain ⟨hdec, hln, htg⟩ := am_code_spec hM hc
  obtain ⟨hx, hb, hr, hml, hown, hts, hns, hlocks, hnoex⟩ := id hB
  have go : ∀ (pc' nc' : Nat) (st' : List Value), am_PW G sh TS NS cl EX l (μ, pc', nc', lo, st', h) Q → W p l e M.2.2.2.2.2 s m args below meth cd H locs nc' (6 * nc') (vx_MQ below Qc XC args s M.2.2.2.2.2.cells M.2.2.2.2.2.slots A) (F0 m pc' ls (st'.map (am_cv ad))) :=
    fun pc' nc' st' k => k M hM p e s m args below meth cd H locs A ls ad ca D hB hE hK hP hD hS hA hl Qc XC hQ hX
  obtain rfl : len = 2 := by simpa [am_ln] using hln
  dsimp only [am_op] at hF
  split at hF
  · rename_i x hv
    exact lv_lload hx hb hdec (hl.2.2 _ _ hv) (go _ _ _ (hF.2.1 trivial))
  · exact hF.elim

set_option maxHeartbeats 1000000 in
theorem am_r_aload_n {G : am_G} {sh : List am_D} {TS NS : List Cond} {cl : List vw_C} {EX : (Nat → Prop) → State → Heap → Prop} {l : Launch} (hok : am_Ok G TS NS cl) (hsh : am_Sh cl sh) {μ pc len tg nc : Nat} {lo : List (Option Value)} {st : List Value} {h : am_S} {Q : am_Q} {k : Fin 4} (hc : am_code G μ pc = some (.aload_n k, len, tg))
    (hF : am_go (am_PW G sh TS NS cl EX l) (am_PW G sh TS NS cl EX l) (am_op G sh μ pc len tg nc lo st h (.aload_n k)) Q) : am_PW G sh TS NS cl EX l (μ, pc, nc, lo, st, h) Q := by
  intro M hM p e s m args below meth cd H locs A ls ad ca D hB hE hK hP hD hS hA hl Qc XC hQ hX
  obtain ⟨hdec, hln, htg⟩ := am_code_spec hM hc
  obtain ⟨hx, hb, hr, hml, hown, hts, hns, hlocks, hnoex⟩ := id hB
  have go : ∀ (pc' nc' : Nat) (st' : List Value), am_PW G sh TS NS cl EX l (μ, pc', nc', lo, st', h) Q → W p l e M.2.2.2.2.2 s m args below meth cd H locs nc' (6 * nc') (vx_MQ below Qc XC args s M.2.2.2.2.2.cells M.2.2.2.2.2.slots A) (F0 m pc' ls (st'.map (am_cv ad))) :=
    fun pc' nc' st' k => k M hM p e s m args below meth cd H locs A ls ad ca D hB hE hK hP hD hS hA hl Qc XC hQ hX
  obtain rfl : len = 1 := by simpa [am_ln] using hln
  dsimp only [am_op] at hF
  split at hF
  · rename_i x hv
    exact lv_aload_n hx hb hdec rfl (hl.2.2 _ _ hv) (go _ _ _ (hF.2.1 trivial))
  · exact hF.elim

set_option maxHeartbeats 1000000 in
theorem am_r_aload {G : am_G} {sh : List am_D} {TS NS : List Cond} {cl : List vw_C} {EX : (Nat → Prop) → State → Heap → Prop} {l : Launch} (hok : am_Ok G TS NS cl) (hsh : am_Sh cl sh) {μ pc len tg nc : Nat} {lo : List (Option Value)} {st : List Value} {h : am_S} {Q : am_Q} {k : Nat} (hc : am_code G μ pc = some (.aload k, len, tg))
    (hF : am_go (am_PW G sh TS NS cl EX l) (am_PW G sh TS NS cl EX l) (am_op G sh μ pc len tg nc lo st h (.aload k)) Q) : am_PW G sh TS NS cl EX l (μ, pc, nc, lo, st, h) Q := by
  intro M hM p e s m args below meth cd H locs A ls ad ca D hB hE hK hP hD hS hA hl Qc XC hQ hX
  obtain ⟨hdec, hln, htg⟩ := am_code_spec hM hc
  obtain ⟨hx, hb, hr, hml, hown, hts, hns, hlocks, hnoex⟩ := id hB
  have go : ∀ (pc' nc' : Nat) (st' : List Value), am_PW G sh TS NS cl EX l (μ, pc', nc', lo, st', h) Q → W p l e M.2.2.2.2.2 s m args below meth cd H locs nc' (6 * nc') (vx_MQ below Qc XC args s M.2.2.2.2.2.cells M.2.2.2.2.2.slots A) (F0 m pc' ls (st'.map (am_cv ad))) :=
    fun pc' nc' st' k => k M hM p e s m args below meth cd H locs A ls ad ca D hB hE hK hP hD hS hA hl Qc XC hQ hX
  obtain rfl : len = 2 := by simpa [am_ln] using hln
  dsimp only [am_op] at hF
  split at hF
  · rename_i x hv
    exact lv_aload hx hb hdec (hl.2.2 _ _ hv) (go _ _ _ (hF.2.1 trivial))
  · exact hF.elim

set_option maxHeartbeats 1000000 in
theorem am_r_istore_n {G : am_G} {sh : List am_D} {TS NS : List Cond} {cl : List vw_C} {EX : (Nat → Prop) → State → Heap → Prop} {l : Launch} (hok : am_Ok G TS NS cl) (hsh : am_Sh cl sh) {μ pc len tg nc : Nat} {lo : List (Option Value)} {st : List Value} {h : am_S} {Q : am_Q} {k : Fin 4} (hc : am_code G μ pc = some (.istore_n k, len, tg))
    (hF : am_go (am_PW G sh TS NS cl EX l) (am_PW G sh TS NS cl EX l) (am_op G sh μ pc len tg nc lo st h (.istore_n k)) Q) : am_PW G sh TS NS cl EX l (μ, pc, nc, lo, st, h) Q := by
  intro M hM p e s m args below meth cd H locs A ls ad ca D hB hE hK hP hD hS hA hl Qc XC hQ hX
  obtain ⟨hdec, hln, htg⟩ := am_code_spec hM hc
  obtain ⟨hx, hb, hr, hml, hown, hts, hns, hlocks, hnoex⟩ := id hB
  have go : ∀ (pc' nc' : Nat) (st' : List Value), am_PW G sh TS NS cl EX l (μ, pc', nc', lo, st', h) Q → W p l e M.2.2.2.2.2 s m args below meth cd H locs nc' (6 * nc') (vx_MQ below Qc XC args s M.2.2.2.2.2.cells M.2.2.2.2.2.slots A) (F0 m pc' ls (st'.map (am_cv ad))) :=
    fun pc' nc' st' k => k M hM p e s m args below meth cd H locs A ls ad ca D hB hE hK hP hD hS hA hl Qc XC hQ hX
  obtain rfl : len = 1 := by simpa [am_ln] using hln
  dsimp only [am_op] at hF
  split at hF
  · rename_i x r
    have hi := hF.1
    rw [am_ml_of hM] at hi
    exact lv_istore_n hx hb hdec rfl hl.has hi rfl (fun ls' hl' => hF.2.1 trivial M hM p e s m args below meth cd H locs A ls' ad ca D hB hE hK hP hD hS hA (am_lo_s1 (v := .int x) hl hl') Qc XC hQ hX)
  · exact hF.elim

set_option maxHeartbeats 1000000 in
theorem am_r_istore {G : am_G} {sh : List am_D} {TS NS : List Cond} {cl : List vw_C} {EX : (Nat → Prop) → State → Heap → Prop} {l : Launch} (hok : am_Ok G TS NS cl) (hsh : am_Sh cl sh) {μ pc len tg nc : Nat} {lo : List (Option Value)} {st : List Value} {h : am_S} {Q : am_Q} {k : Nat} (hc : am_code G μ pc = some (.istore k, len, tg))
    (hF : am_go (am_PW G sh TS NS cl EX l) (am_PW G sh TS NS cl EX l) (am_op G sh μ pc len tg nc lo st h (.istore k)) Q) : am_PW G sh TS NS cl EX l (μ, pc, nc, lo, st, h) Q := by
  intro M hM p e s m args below meth cd H locs A ls ad ca D hB hE hK hP hD hS hA hl Qc XC hQ hX
  obtain ⟨hdec, hln, htg⟩ := am_code_spec hM hc
  obtain ⟨hx, hb, hr, hml, hown, hts, hns, hlocks, hnoex⟩ := id hB
  have go : ∀ (pc' nc' : Nat) (st' : List Value), am_PW G sh TS NS cl EX l (μ, pc', nc', lo, st', h) Q → W p l e M.2.2.2.2.2 s m args below meth cd H locs nc' (6 * nc') (vx_MQ below Qc XC args s M.2.2.2.2.2.cells M.2.2.2.2.2.slots A) (F0 m pc' ls (st'.map (am_cv ad))) :=
    fun pc' nc' st' k => k M hM p e s m args below meth cd H locs A ls ad ca D hB hE hK hP hD hS hA hl Qc XC hQ hX
  obtain rfl : len = 2 := by simpa [am_ln] using hln
  dsimp only [am_op] at hF
  split at hF
  · rename_i x r
    have hi := hF.1
    rw [am_ml_of hM] at hi
    exact lv_istore hx hb hdec hl.has hi rfl (fun ls' hl' => hF.2.1 trivial M hM p e s m args below meth cd H locs A ls' ad ca D hB hE hK hP hD hS hA (am_lo_s1 (v := .int x) hl hl') Qc XC hQ hX)
  · exact hF.elim

set_option maxHeartbeats 1000000 in
theorem am_r_lstore_n {G : am_G} {sh : List am_D} {TS NS : List Cond} {cl : List vw_C} {EX : (Nat → Prop) → State → Heap → Prop} {l : Launch} (hok : am_Ok G TS NS cl) (hsh : am_Sh cl sh) {μ pc len tg nc : Nat} {lo : List (Option Value)} {st : List Value} {h : am_S} {Q : am_Q} {k : Fin 4} (hc : am_code G μ pc = some (.lstore_n k, len, tg))
    (hF : am_go (am_PW G sh TS NS cl EX l) (am_PW G sh TS NS cl EX l) (am_op G sh μ pc len tg nc lo st h (.lstore_n k)) Q) : am_PW G sh TS NS cl EX l (μ, pc, nc, lo, st, h) Q := by
  intro M hM p e s m args below meth cd H locs A ls ad ca D hB hE hK hP hD hS hA hl Qc XC hQ hX
  obtain ⟨hdec, hln, htg⟩ := am_code_spec hM hc
  obtain ⟨hx, hb, hr, hml, hown, hts, hns, hlocks, hnoex⟩ := id hB
  have go : ∀ (pc' nc' : Nat) (st' : List Value), am_PW G sh TS NS cl EX l (μ, pc', nc', lo, st', h) Q → W p l e M.2.2.2.2.2 s m args below meth cd H locs nc' (6 * nc') (vx_MQ below Qc XC args s M.2.2.2.2.2.cells M.2.2.2.2.2.slots A) (F0 m pc' ls (st'.map (am_cv ad))) :=
    fun pc' nc' st' k => k M hM p e s m args below meth cd H locs A ls ad ca D hB hE hK hP hD hS hA hl Qc XC hQ hX
  obtain rfl : len = 1 := by simpa [am_ln] using hln
  dsimp only [am_op] at hF
  split at hF
  · rename_i x r
    have hi := hF.1
    rw [am_ml_of hM] at hi
    exact lv_lstore_n hx hb hdec rfl hl.has hi rfl (fun ls' hl' => hF.2.1 trivial M hM p e s m args below meth cd H locs A ls' ad ca D hB hE hK hP hD hS hA (am_lo_s2 (v := .long x) hl hl') Qc XC hQ hX)
  · exact hF.elim

set_option maxHeartbeats 1000000 in
theorem am_r_lstore {G : am_G} {sh : List am_D} {TS NS : List Cond} {cl : List vw_C} {EX : (Nat → Prop) → State → Heap → Prop} {l : Launch} (hok : am_Ok G TS NS cl) (hsh : am_Sh cl sh) {μ pc len tg nc : Nat} {lo : List (Option Value)} {st : List Value} {h : am_S} {Q : am_Q} {k : Nat} (hc : am_code G μ pc = some (.lstore k, len, tg))
    (hF : am_go (am_PW G sh TS NS cl EX l) (am_PW G sh TS NS cl EX l) (am_op G sh μ pc len tg nc lo st h (.lstore k)) Q) : am_PW G sh TS NS cl EX l (μ, pc, nc, lo, st, h) Q := by
  intro M hM p e s m args below meth cd H locs A ls ad ca D hB hE hK hP hD hS hA hl Qc XC hQ hX
  obtain ⟨hdec, hln, htg⟩ := am_code_spec hM hc
  obtain ⟨hx, hb, hr, hml, hown, hts, hns, hlocks, hnoex⟩ := id hB
  have go : ∀ (pc' nc' : Nat) (st' : List Value), am_PW G sh TS NS cl EX l (μ, pc', nc', lo, st', h) Q → W p l e M.2.2.2.2.2 s m args below meth cd H locs nc' (6 * nc') (vx_MQ below Qc XC args s M.2.2.2.2.2.cells M.2.2.2.2.2.slots A) (F0 m pc' ls (st'.map (am_cv ad))) :=
    fun pc' nc' st' k => k M hM p e s m args below meth cd H locs A ls ad ca D hB hE hK hP hD hS hA hl Qc XC hQ hX
  obtain rfl : len = 2 := by simpa [am_ln] using hln
  dsimp only [am_op] at hF
  split at hF
  · rename_i x r
    have hi := hF.1
    rw [am_ml_of hM] at hi
    exact lv_lstore hx hb hdec hl.has hi rfl (fun ls' hl' => hF.2.1 trivial M hM p e s m args below meth cd H locs A ls' ad ca D hB hE hK hP hD hS hA (am_lo_s2 (v := .long x) hl hl') Qc XC hQ hX)
  · exact hF.elim

set_option maxHeartbeats 1000000 in
theorem am_r_astore_n {G : am_G} {sh : List am_D} {TS NS : List Cond} {cl : List vw_C} {EX : (Nat → Prop) → State → Heap → Prop} {l : Launch} (hok : am_Ok G TS NS cl) (hsh : am_Sh cl sh) {μ pc len tg nc : Nat} {lo : List (Option Value)} {st : List Value} {h : am_S} {Q : am_Q} {k : Fin 4} (hc : am_code G μ pc = some (.astore_n k, len, tg))
    (hF : am_go (am_PW G sh TS NS cl EX l) (am_PW G sh TS NS cl EX l) (am_op G sh μ pc len tg nc lo st h (.astore_n k)) Q) : am_PW G sh TS NS cl EX l (μ, pc, nc, lo, st, h) Q := by
  intro M hM p e s m args below meth cd H locs A ls ad ca D hB hE hK hP hD hS hA hl Qc XC hQ hX
  obtain ⟨hdec, hln, htg⟩ := am_code_spec hM hc
  obtain ⟨hx, hb, hr, hml, hown, hts, hns, hlocks, hnoex⟩ := id hB
  have go : ∀ (pc' nc' : Nat) (st' : List Value), am_PW G sh TS NS cl EX l (μ, pc', nc', lo, st', h) Q → W p l e M.2.2.2.2.2 s m args below meth cd H locs nc' (6 * nc') (vx_MQ below Qc XC args s M.2.2.2.2.2.cells M.2.2.2.2.2.slots A) (F0 m pc' ls (st'.map (am_cv ad))) :=
    fun pc' nc' st' k => k M hM p e s m args below meth cd H locs A ls ad ca D hB hE hK hP hD hS hA hl Qc XC hQ hX
  obtain rfl : len = 1 := by simpa [am_ln] using hln
  dsimp only [am_op] at hF
  split at hF
  · rename_i x r
    have hi := hF.1
    rw [am_ml_of hM] at hi
    exact lv_astore_n hx hb hdec rfl hl.has hi rfl (fun ls' hl' => hF.2.1 trivial M hM p e s m args below meth cd H locs A ls' ad ca D hB hE hK hP hD hS hA (am_lo_s1 (v := .ref x) hl hl') Qc XC hQ hX)
  · exact hF.elim

set_option maxHeartbeats 1000000 in
theorem am_r_astore {G : am_G} {sh : List am_D} {TS NS : List Cond} {cl : List vw_C} {EX : (Nat → Prop) → State → Heap → Prop} {l : Launch} (hok : am_Ok G TS NS cl) (hsh : am_Sh cl sh) {μ pc len tg nc : Nat} {lo : List (Option Value)} {st : List Value} {h : am_S} {Q : am_Q} {k : Nat} (hc : am_code G μ pc = some (.astore k, len, tg))
    (hF : am_go (am_PW G sh TS NS cl EX l) (am_PW G sh TS NS cl EX l) (am_op G sh μ pc len tg nc lo st h (.astore k)) Q) : am_PW G sh TS NS cl EX l (μ, pc, nc, lo, st, h) Q := by
  intro M hM p e s m args below meth cd H locs A ls ad ca D hB hE hK hP hD hS hA hl Qc XC hQ hX
  obtain ⟨hdec, hln, htg⟩ := am_code_spec hM hc
  obtain ⟨hx, hb, hr, hml, hown, hts, hns, hlocks, hnoex⟩ := id hB
  have go : ∀ (pc' nc' : Nat) (st' : List Value), am_PW G sh TS NS cl EX l (μ, pc', nc', lo, st', h) Q → W p l e M.2.2.2.2.2 s m args below meth cd H locs nc' (6 * nc') (vx_MQ below Qc XC args s M.2.2.2.2.2.cells M.2.2.2.2.2.slots A) (F0 m pc' ls (st'.map (am_cv ad))) :=
    fun pc' nc' st' k => k M hM p e s m args below meth cd H locs A ls ad ca D hB hE hK hP hD hS hA hl Qc XC hQ hX
  obtain rfl : len = 2 := by simpa [am_ln] using hln
  dsimp only [am_op] at hF
  split at hF
  · rename_i x r
    have hi := hF.1
    rw [am_ml_of hM] at hi
    exact lv_astore hx hb hdec hl.has hi rfl (fun ls' hl' => hF.2.1 trivial M hM p e s m args below meth cd H locs A ls' ad ca D hB hE hK hP hD hS hA (am_lo_s1 (v := .ref x) hl hl') Qc XC hQ hX)
  · exact hF.elim

set_option maxHeartbeats 1000000 in
theorem am_r_iinc {G : am_G} {sh : List am_D} {TS NS : List Cond} {cl : List vw_C} {EX : (Nat → Prop) → State → Heap → Prop} {l : Launch} (hok : am_Ok G TS NS cl) (hsh : am_Sh cl sh) {μ pc len tg nc : Nat} {lo : List (Option Value)} {st : List Value} {h : am_S} {Q : am_Q} {k : Nat} {v : Int} (hc : am_code G μ pc = some (.iinc k v, len, tg))
    (hF : am_go (am_PW G sh TS NS cl EX l) (am_PW G sh TS NS cl EX l) (am_op G sh μ pc len tg nc lo st h (.iinc k v)) Q) : am_PW G sh TS NS cl EX l (μ, pc, nc, lo, st, h) Q := by
  intro M hM p e s m args below meth cd H locs A ls ad ca D hB hE hK hP hD hS hA hl Qc XC hQ hX
  obtain ⟨hdec, hln, htg⟩ := am_code_spec hM hc
  obtain ⟨hx, hb, hr, hml, hown, hts, hns, hlocks, hnoex⟩ := id hB
  have go : ∀ (pc' nc' : Nat) (st' : List Value), am_PW G sh TS NS cl EX l (μ, pc', nc', lo, st', h) Q → W p l e M.2.2.2.2.2 s m args below meth cd H locs nc' (6 * nc') (vx_MQ below Qc XC args s M.2.2.2.2.2.cells M.2.2.2.2.2.slots A) (F0 m pc' ls (st'.map (am_cv ad))) :=
    fun pc' nc' st' k => k M hM p e s m args below meth cd H locs A ls ad ca D hB hE hK hP hD hS hA hl Qc XC hQ hX
  obtain rfl : len = 3 := by simpa [am_ln] using hln
  dsimp only [am_op] at hF
  split at hF
  · rename_i x hv
    have hi := hF.1
    rw [am_ml_of hM] at hi
    obtain ⟨j, hj⟩ := List.getElem?_of_mem (am_pl_mem (ad := ad) hi hv)
    exact lv_iinc hx hb hdec hl.has hj rfl hi rfl (fun ls' hl' => hF.2.1 trivial M hM p e s m args below meth cd H locs A ls' ad ca D hB hE hK hP hD hS hA (am_lo_s1 (v := .int (x + Int32.ofInt v)) hl hl') Qc XC hQ hX)
  · exact hF.elim

set_option maxHeartbeats 1000000 in
theorem am_r_iadd {G : am_G} {sh : List am_D} {TS NS : List Cond} {cl : List vw_C} {EX : (Nat → Prop) → State → Heap → Prop} {l : Launch} (hok : am_Ok G TS NS cl) (hsh : am_Sh cl sh) {μ pc len tg nc : Nat} {lo : List (Option Value)} {st : List Value} {h : am_S} {Q : am_Q} (hc : am_code G μ pc = some (.iadd, len, tg))
    (hF : am_go (am_PW G sh TS NS cl EX l) (am_PW G sh TS NS cl EX l) (am_op G sh μ pc len tg nc lo st h (.iadd)) Q) : am_PW G sh TS NS cl EX l (μ, pc, nc, lo, st, h) Q := by
  intro M hM p e s m args below meth cd H locs A ls ad ca D hB hE hK hP hD hS hA hl Qc XC hQ hX
  obtain ⟨hdec, hln, htg⟩ := am_code_spec hM hc
  obtain ⟨hx, hb, hr, hml, hown, hts, hns, hlocks, hnoex⟩ := id hB
  have go : ∀ (pc' nc' : Nat) (st' : List Value), am_PW G sh TS NS cl EX l (μ, pc', nc', lo, st', h) Q → W p l e M.2.2.2.2.2 s m args below meth cd H locs nc' (6 * nc') (vx_MQ below Qc XC args s M.2.2.2.2.2.cells M.2.2.2.2.2.slots A) (F0 m pc' ls (st'.map (am_cv ad))) :=
    fun pc' nc' st' k => k M hM p e s m args below meth cd H locs A ls ad ca D hB hE hK hP hD hS hA hl Qc XC hQ hX
  obtain rfl : len = 1 := by simpa [am_ln] using hln
  dsimp only [am_op] at hF
  split at hF
  · exact lv_iadd hx hb hdec (go _ _ _ (hF.2.1 trivial))
  · exact hF.elim

set_option maxHeartbeats 1000000 in
theorem am_r_isub {G : am_G} {sh : List am_D} {TS NS : List Cond} {cl : List vw_C} {EX : (Nat → Prop) → State → Heap → Prop} {l : Launch} (hok : am_Ok G TS NS cl) (hsh : am_Sh cl sh) {μ pc len tg nc : Nat} {lo : List (Option Value)} {st : List Value} {h : am_S} {Q : am_Q} (hc : am_code G μ pc = some (.isub, len, tg))
    (hF : am_go (am_PW G sh TS NS cl EX l) (am_PW G sh TS NS cl EX l) (am_op G sh μ pc len tg nc lo st h (.isub)) Q) : am_PW G sh TS NS cl EX l (μ, pc, nc, lo, st, h) Q := by
  intro M hM p e s m args below meth cd H locs A ls ad ca D hB hE hK hP hD hS hA hl Qc XC hQ hX
  obtain ⟨hdec, hln, htg⟩ := am_code_spec hM hc
  obtain ⟨hx, hb, hr, hml, hown, hts, hns, hlocks, hnoex⟩ := id hB
  have go : ∀ (pc' nc' : Nat) (st' : List Value), am_PW G sh TS NS cl EX l (μ, pc', nc', lo, st', h) Q → W p l e M.2.2.2.2.2 s m args below meth cd H locs nc' (6 * nc') (vx_MQ below Qc XC args s M.2.2.2.2.2.cells M.2.2.2.2.2.slots A) (F0 m pc' ls (st'.map (am_cv ad))) :=
    fun pc' nc' st' k => k M hM p e s m args below meth cd H locs A ls ad ca D hB hE hK hP hD hS hA hl Qc XC hQ hX
  obtain rfl : len = 1 := by simpa [am_ln] using hln
  dsimp only [am_op] at hF
  split at hF
  · exact lv_isub hx hb hdec (go _ _ _ (hF.2.1 trivial))
  · exact hF.elim

set_option maxHeartbeats 1000000 in
theorem am_r_imul {G : am_G} {sh : List am_D} {TS NS : List Cond} {cl : List vw_C} {EX : (Nat → Prop) → State → Heap → Prop} {l : Launch} (hok : am_Ok G TS NS cl) (hsh : am_Sh cl sh) {μ pc len tg nc : Nat} {lo : List (Option Value)} {st : List Value} {h : am_S} {Q : am_Q} (hc : am_code G μ pc = some (.imul, len, tg))
    (hF : am_go (am_PW G sh TS NS cl EX l) (am_PW G sh TS NS cl EX l) (am_op G sh μ pc len tg nc lo st h (.imul)) Q) : am_PW G sh TS NS cl EX l (μ, pc, nc, lo, st, h) Q := by
  intro M hM p e s m args below meth cd H locs A ls ad ca D hB hE hK hP hD hS hA hl Qc XC hQ hX
  obtain ⟨hdec, hln, htg⟩ := am_code_spec hM hc
  obtain ⟨hx, hb, hr, hml, hown, hts, hns, hlocks, hnoex⟩ := id hB
  have go : ∀ (pc' nc' : Nat) (st' : List Value), am_PW G sh TS NS cl EX l (μ, pc', nc', lo, st', h) Q → W p l e M.2.2.2.2.2 s m args below meth cd H locs nc' (6 * nc') (vx_MQ below Qc XC args s M.2.2.2.2.2.cells M.2.2.2.2.2.slots A) (F0 m pc' ls (st'.map (am_cv ad))) :=
    fun pc' nc' st' k => k M hM p e s m args below meth cd H locs A ls ad ca D hB hE hK hP hD hS hA hl Qc XC hQ hX
  obtain rfl : len = 1 := by simpa [am_ln] using hln
  dsimp only [am_op] at hF
  split at hF
  · exact lv_imul hx hb hdec (go _ _ _ (hF.2.1 trivial))
  · exact hF.elim

set_option maxHeartbeats 1000000 in
theorem am_r_iand {G : am_G} {sh : List am_D} {TS NS : List Cond} {cl : List vw_C} {EX : (Nat → Prop) → State → Heap → Prop} {l : Launch} (hok : am_Ok G TS NS cl) (hsh : am_Sh cl sh) {μ pc len tg nc : Nat} {lo : List (Option Value)} {st : List Value} {h : am_S} {Q : am_Q} (hc : am_code G μ pc = some (.iand, len, tg))
    (hF : am_go (am_PW G sh TS NS cl EX l) (am_PW G sh TS NS cl EX l) (am_op G sh μ pc len tg nc lo st h (.iand)) Q) : am_PW G sh TS NS cl EX l (μ, pc, nc, lo, st, h) Q := by
  intro M hM p e s m args below meth cd H locs A ls ad ca D hB hE hK hP hD hS hA hl Qc XC hQ hX
  obtain ⟨hdec, hln, htg⟩ := am_code_spec hM hc
  obtain ⟨hx, hb, hr, hml, hown, hts, hns, hlocks, hnoex⟩ := id hB
  have go : ∀ (pc' nc' : Nat) (st' : List Value), am_PW G sh TS NS cl EX l (μ, pc', nc', lo, st', h) Q → W p l e M.2.2.2.2.2 s m args below meth cd H locs nc' (6 * nc') (vx_MQ below Qc XC args s M.2.2.2.2.2.cells M.2.2.2.2.2.slots A) (F0 m pc' ls (st'.map (am_cv ad))) :=
    fun pc' nc' st' k => k M hM p e s m args below meth cd H locs A ls ad ca D hB hE hK hP hD hS hA hl Qc XC hQ hX
  obtain rfl : len = 1 := by simpa [am_ln] using hln
  dsimp only [am_op] at hF
  split at hF
  · exact lv_iand hx hb hdec (go _ _ _ (hF.2.1 trivial))
  · exact hF.elim

set_option maxHeartbeats 1000000 in
theorem am_r_ixor {G : am_G} {sh : List am_D} {TS NS : List Cond} {cl : List vw_C} {EX : (Nat → Prop) → State → Heap → Prop} {l : Launch} (hok : am_Ok G TS NS cl) (hsh : am_Sh cl sh) {μ pc len tg nc : Nat} {lo : List (Option Value)} {st : List Value} {h : am_S} {Q : am_Q} (hc : am_code G μ pc = some (.ixor, len, tg))
    (hF : am_go (am_PW G sh TS NS cl EX l) (am_PW G sh TS NS cl EX l) (am_op G sh μ pc len tg nc lo st h (.ixor)) Q) : am_PW G sh TS NS cl EX l (μ, pc, nc, lo, st, h) Q := by
  intro M hM p e s m args below meth cd H locs A ls ad ca D hB hE hK hP hD hS hA hl Qc XC hQ hX
  obtain ⟨hdec, hln, htg⟩ := am_code_spec hM hc
  obtain ⟨hx, hb, hr, hml, hown, hts, hns, hlocks, hnoex⟩ := id hB
  have go : ∀ (pc' nc' : Nat) (st' : List Value), am_PW G sh TS NS cl EX l (μ, pc', nc', lo, st', h) Q → W p l e M.2.2.2.2.2 s m args below meth cd H locs nc' (6 * nc') (vx_MQ below Qc XC args s M.2.2.2.2.2.cells M.2.2.2.2.2.slots A) (F0 m pc' ls (st'.map (am_cv ad))) :=
    fun pc' nc' st' k => k M hM p e s m args below meth cd H locs A ls ad ca D hB hE hK hP hD hS hA hl Qc XC hQ hX
  obtain rfl : len = 1 := by simpa [am_ln] using hln
  dsimp only [am_op] at hF
  split at hF
  · exact lv_ixor hx hb hdec (go _ _ _ (hF.2.1 trivial))
  · exact hF.elim

set_option maxHeartbeats 1000000 in
theorem am_r_ladd {G : am_G} {sh : List am_D} {TS NS : List Cond} {cl : List vw_C} {EX : (Nat → Prop) → State → Heap → Prop} {l : Launch} (hok : am_Ok G TS NS cl) (hsh : am_Sh cl sh) {μ pc len tg nc : Nat} {lo : List (Option Value)} {st : List Value} {h : am_S} {Q : am_Q} (hc : am_code G μ pc = some (.ladd, len, tg))
    (hF : am_go (am_PW G sh TS NS cl EX l) (am_PW G sh TS NS cl EX l) (am_op G sh μ pc len tg nc lo st h (.ladd)) Q) : am_PW G sh TS NS cl EX l (μ, pc, nc, lo, st, h) Q := by
  intro M hM p e s m args below meth cd H locs A ls ad ca D hB hE hK hP hD hS hA hl Qc XC hQ hX
  obtain ⟨hdec, hln, htg⟩ := am_code_spec hM hc
  obtain ⟨hx, hb, hr, hml, hown, hts, hns, hlocks, hnoex⟩ := id hB
  have go : ∀ (pc' nc' : Nat) (st' : List Value), am_PW G sh TS NS cl EX l (μ, pc', nc', lo, st', h) Q → W p l e M.2.2.2.2.2 s m args below meth cd H locs nc' (6 * nc') (vx_MQ below Qc XC args s M.2.2.2.2.2.cells M.2.2.2.2.2.slots A) (F0 m pc' ls (st'.map (am_cv ad))) :=
    fun pc' nc' st' k => k M hM p e s m args below meth cd H locs A ls ad ca D hB hE hK hP hD hS hA hl Qc XC hQ hX
  obtain rfl : len = 1 := by simpa [am_ln] using hln
  dsimp only [am_op] at hF
  split at hF
  · exact lv_ladd hx hb hdec (go _ _ _ (hF.2.1 trivial))
  · exact hF.elim

set_option maxHeartbeats 1000000 in
theorem am_r_irem {G : am_G} {sh : List am_D} {TS NS : List Cond} {cl : List vw_C} {EX : (Nat → Prop) → State → Heap → Prop} {l : Launch} (hok : am_Ok G TS NS cl) (hsh : am_Sh cl sh) {μ pc len tg nc : Nat} {lo : List (Option Value)} {st : List Value} {h : am_S} {Q : am_Q} (hc : am_code G μ pc = some (.irem, len, tg))
    (hF : am_go (am_PW G sh TS NS cl EX l) (am_PW G sh TS NS cl EX l) (am_op G sh μ pc len tg nc lo st h (.irem)) Q) : am_PW G sh TS NS cl EX l (μ, pc, nc, lo, st, h) Q := by
  intro M hM p e s m args below meth cd H locs A ls ad ca D hB hE hK hP hD hS hA hl Qc XC hQ hX
  obtain ⟨hdec, hln, htg⟩ := am_code_spec hM hc
  obtain ⟨hx, hb, hr, hml, hown, hts, hns, hlocks, hnoex⟩ := id hB
  have go : ∀ (pc' nc' : Nat) (st' : List Value), am_PW G sh TS NS cl EX l (μ, pc', nc', lo, st', h) Q → W p l e M.2.2.2.2.2 s m args below meth cd H locs nc' (6 * nc') (vx_MQ below Qc XC args s M.2.2.2.2.2.cells M.2.2.2.2.2.slots A) (F0 m pc' ls (st'.map (am_cv ad))) :=
    fun pc' nc' st' k => k M hM p e s m args below meth cd H locs A ls ad ca D hB hE hK hP hD hS hA hl Qc XC hQ hX
  obtain rfl : len = 1 := by simpa [am_ln] using hln
  dsimp only [am_op] at hF
  split at hF
  · exact lv_irem hx hb hdec hF.1 (go _ _ _ (hF.2.1 trivial))
  · exact hF.elim

set_option maxHeartbeats 1000000 in
theorem am_r_i2l {G : am_G} {sh : List am_D} {TS NS : List Cond} {cl : List vw_C} {EX : (Nat → Prop) → State → Heap → Prop} {l : Launch} (hok : am_Ok G TS NS cl) (hsh : am_Sh cl sh) {μ pc len tg nc : Nat} {lo : List (Option Value)} {st : List Value} {h : am_S} {Q : am_Q} (hc : am_code G μ pc = some (.i2l, len, tg))
    (hF : am_go (am_PW G sh TS NS cl EX l) (am_PW G sh TS NS cl EX l) (am_op G sh μ pc len tg nc lo st h (.i2l)) Q) : am_PW G sh TS NS cl EX l (μ, pc, nc, lo, st, h) Q := by
  intro M hM p e s m args below meth cd H locs A ls ad ca D hB hE hK hP hD hS hA hl Qc XC hQ hX
  obtain ⟨hdec, hln, htg⟩ := am_code_spec hM hc
  obtain ⟨hx, hb, hr, hml, hown, hts, hns, hlocks, hnoex⟩ := id hB
  have go : ∀ (pc' nc' : Nat) (st' : List Value), am_PW G sh TS NS cl EX l (μ, pc', nc', lo, st', h) Q → W p l e M.2.2.2.2.2 s m args below meth cd H locs nc' (6 * nc') (vx_MQ below Qc XC args s M.2.2.2.2.2.cells M.2.2.2.2.2.slots A) (F0 m pc' ls (st'.map (am_cv ad))) :=
    fun pc' nc' st' k => k M hM p e s m args below meth cd H locs A ls ad ca D hB hE hK hP hD hS hA hl Qc XC hQ hX
  obtain rfl : len = 1 := by simpa [am_ln] using hln
  dsimp only [am_op] at hF
  split at hF
  · exact lv_i2l hx hb hdec rfl (go _ _ _ (hF.2.1 trivial))
  · exact hF.elim

set_option maxHeartbeats 1000000 in
theorem am_r_l2i {G : am_G} {sh : List am_D} {TS NS : List Cond} {cl : List vw_C} {EX : (Nat → Prop) → State → Heap → Prop} {l : Launch} (hok : am_Ok G TS NS cl) (hsh : am_Sh cl sh) {μ pc len tg nc : Nat} {lo : List (Option Value)} {st : List Value} {h : am_S} {Q : am_Q} (hc : am_code G μ pc = some (.l2i, len, tg))
    (hF : am_go (am_PW G sh TS NS cl EX l) (am_PW G sh TS NS cl EX l) (am_op G sh μ pc len tg nc lo st h (.l2i)) Q) : am_PW G sh TS NS cl EX l (μ, pc, nc, lo, st, h) Q := by
  intro M hM p e s m args below meth cd H locs A ls ad ca D hB hE hK hP hD hS hA hl Qc XC hQ hX
  obtain ⟨hdec, hln, htg⟩ := am_code_spec hM hc
  obtain ⟨hx, hb, hr, hml, hown, hts, hns, hlocks, hnoex⟩ := id hB
  have go : ∀ (pc' nc' : Nat) (st' : List Value), am_PW G sh TS NS cl EX l (μ, pc', nc', lo, st', h) Q → W p l e M.2.2.2.2.2 s m args below meth cd H locs nc' (6 * nc') (vx_MQ below Qc XC args s M.2.2.2.2.2.cells M.2.2.2.2.2.slots A) (F0 m pc' ls (st'.map (am_cv ad))) :=
    fun pc' nc' st' k => k M hM p e s m args below meth cd H locs A ls ad ca D hB hE hK hP hD hS hA hl Qc XC hQ hX
  obtain rfl : len = 1 := by simpa [am_ln] using hln
  dsimp only [am_op] at hF
  split at hF
  · exact lv_l2i hx hb hdec rfl (go _ _ _ (hF.2.1 trivial))
  · exact hF.elim

set_option maxHeartbeats 1000000 in
theorem am_r_dup {G : am_G} {sh : List am_D} {TS NS : List Cond} {cl : List vw_C} {EX : (Nat → Prop) → State → Heap → Prop} {l : Launch} (hok : am_Ok G TS NS cl) (hsh : am_Sh cl sh) {μ pc len tg nc : Nat} {lo : List (Option Value)} {st : List Value} {h : am_S} {Q : am_Q} (hc : am_code G μ pc = some (.dup, len, tg))
    (hF : am_go (am_PW G sh TS NS cl EX l) (am_PW G sh TS NS cl EX l) (am_op G sh μ pc len tg nc lo st h (.dup)) Q) : am_PW G sh TS NS cl EX l (μ, pc, nc, lo, st, h) Q := by
  intro M hM p e s m args below meth cd H locs A ls ad ca D hB hE hK hP hD hS hA hl Qc XC hQ hX
  obtain ⟨hdec, hln, htg⟩ := am_code_spec hM hc
  obtain ⟨hx, hb, hr, hml, hown, hts, hns, hlocks, hnoex⟩ := id hB
  have go : ∀ (pc' nc' : Nat) (st' : List Value), am_PW G sh TS NS cl EX l (μ, pc', nc', lo, st', h) Q → W p l e M.2.2.2.2.2 s m args below meth cd H locs nc' (6 * nc') (vx_MQ below Qc XC args s M.2.2.2.2.2.cells M.2.2.2.2.2.slots A) (F0 m pc' ls (st'.map (am_cv ad))) :=
    fun pc' nc' st' k => k M hM p e s m args below meth cd H locs A ls ad ca D hB hE hK hP hD hS hA hl Qc XC hQ hX
  obtain rfl : len = 1 := by simpa [am_ln] using hln
  dsimp only [am_op] at hF
  split at hF
  · exact lv_dup hx hb hdec (by rw [am_cv_cat]; exact hF.1) (go _ _ _ (hF.2.1 trivial))
  · exact hF.elim

set_option maxHeartbeats 1000000 in
theorem am_r_pop {G : am_G} {sh : List am_D} {TS NS : List Cond} {cl : List vw_C} {EX : (Nat → Prop) → State → Heap → Prop} {l : Launch} (hok : am_Ok G TS NS cl) (hsh : am_Sh cl sh) {μ pc len tg nc : Nat} {lo : List (Option Value)} {st : List Value} {h : am_S} {Q : am_Q} (hc : am_code G μ pc = some (.pop, len, tg))
    (hF : am_go (am_PW G sh TS NS cl EX l) (am_PW G sh TS NS cl EX l) (am_op G sh μ pc len tg nc lo st h (.pop)) Q) : am_PW G sh TS NS cl EX l (μ, pc, nc, lo, st, h) Q := by
  intro M hM p e s m args below meth cd H locs A ls ad ca D hB hE hK hP hD hS hA hl Qc XC hQ hX
  obtain ⟨hdec, hln, htg⟩ := am_code_spec hM hc
  obtain ⟨hx, hb, hr, hml, hown, hts, hns, hlocks, hnoex⟩ := id hB
  have go : ∀ (pc' nc' : Nat) (st' : List Value), am_PW G sh TS NS cl EX l (μ, pc', nc', lo, st', h) Q → W p l e M.2.2.2.2.2 s m args below meth cd H locs nc' (6 * nc') (vx_MQ below Qc XC args s M.2.2.2.2.2.cells M.2.2.2.2.2.slots A) (F0 m pc' ls (st'.map (am_cv ad))) :=
    fun pc' nc' st' k => k M hM p e s m args below meth cd H locs A ls ad ca D hB hE hK hP hD hS hA hl Qc XC hQ hX
  obtain rfl : len = 1 := by simpa [am_ln] using hln
  dsimp only [am_op] at hF
  split at hF
  · exact lv_pop hx hb hdec (by rw [am_cv_cat]; exact hF.1) (go _ _ _ (hF.2.1 trivial))
  · exact hF.elim

set_option maxHeartbeats 1000000 in
theorem am_r_dup2 {G : am_G} {sh : List am_D} {TS NS : List Cond} {cl : List vw_C} {EX : (Nat → Prop) → State → Heap → Prop} {l : Launch} (hok : am_Ok G TS NS cl) (hsh : am_Sh cl sh) {μ pc len tg nc : Nat} {lo : List (Option Value)} {st : List Value} {h : am_S} {Q : am_Q} (hc : am_code G μ pc = some (.dup2, len, tg))
    (hF : am_go (am_PW G sh TS NS cl EX l) (am_PW G sh TS NS cl EX l) (am_op G sh μ pc len tg nc lo st h (.dup2)) Q) : am_PW G sh TS NS cl EX l (μ, pc, nc, lo, st, h) Q := by
  intro M hM p e s m args below meth cd H locs A ls ad ca D hB hE hK hP hD hS hA hl Qc XC hQ hX
  obtain ⟨hdec, hln, htg⟩ := am_code_spec hM hc
  obtain ⟨hx, hb, hr, hml, hown, hts, hns, hlocks, hnoex⟩ := id hB
  have go : ∀ (pc' nc' : Nat) (st' : List Value), am_PW G sh TS NS cl EX l (μ, pc', nc', lo, st', h) Q → W p l e M.2.2.2.2.2 s m args below meth cd H locs nc' (6 * nc') (vx_MQ below Qc XC args s M.2.2.2.2.2.cells M.2.2.2.2.2.slots A) (F0 m pc' ls (st'.map (am_cv ad))) :=
    fun pc' nc' st' k => k M hM p e s m args below meth cd H locs A ls ad ca D hB hE hK hP hD hS hA hl Qc XC hQ hX
  obtain rfl : len = 1 := by simpa [am_ln] using hln
  dsimp only [am_op] at hF
  split at hF
  · exact lv_dup2_11 hx hb hdec (by rw [am_cv_cat]; exact hF.1.1) (by rw [am_cv_cat]; exact hF.1.2) (go _ _ _ (hF.2.1 trivial))
  · exact hF.elim

set_option maxHeartbeats 1000000 in
theorem am_r_dup_x1 {G : am_G} {sh : List am_D} {TS NS : List Cond} {cl : List vw_C} {EX : (Nat → Prop) → State → Heap → Prop} {l : Launch} (hok : am_Ok G TS NS cl) (hsh : am_Sh cl sh) {μ pc len tg nc : Nat} {lo : List (Option Value)} {st : List Value} {h : am_S} {Q : am_Q} (hc : am_code G μ pc = some (.dup_x1, len, tg))
    (hF : am_go (am_PW G sh TS NS cl EX l) (am_PW G sh TS NS cl EX l) (am_op G sh μ pc len tg nc lo st h (.dup_x1)) Q) : am_PW G sh TS NS cl EX l (μ, pc, nc, lo, st, h) Q := by
  intro M hM p e s m args below meth cd H locs A ls ad ca D hB hE hK hP hD hS hA hl Qc XC hQ hX
  obtain ⟨hdec, hln, htg⟩ := am_code_spec hM hc
  obtain ⟨hx, hb, hr, hml, hown, hts, hns, hlocks, hnoex⟩ := id hB
  have go : ∀ (pc' nc' : Nat) (st' : List Value), am_PW G sh TS NS cl EX l (μ, pc', nc', lo, st', h) Q → W p l e M.2.2.2.2.2 s m args below meth cd H locs nc' (6 * nc') (vx_MQ below Qc XC args s M.2.2.2.2.2.cells M.2.2.2.2.2.slots A) (F0 m pc' ls (st'.map (am_cv ad))) :=
    fun pc' nc' st' k => k M hM p e s m args below meth cd H locs A ls ad ca D hB hE hK hP hD hS hA hl Qc XC hQ hX
  obtain rfl : len = 1 := by simpa [am_ln] using hln
  dsimp only [am_op] at hF
  split at hF
  · exact lv_dup_x1 hx hb hdec (by rw [am_cv_cat]; exact hF.1.1) (by rw [am_cv_cat]; exact hF.1.2) (go _ _ _ (hF.2.1 trivial))
  · exact hF.elim

set_option maxHeartbeats 1000000 in
theorem am_r_goto {G : am_G} {sh : List am_D} {TS NS : List Cond} {cl : List vw_C} {EX : (Nat → Prop) → State → Heap → Prop} {l : Launch} (hok : am_Ok G TS NS cl) (hsh : am_Sh cl sh) {μ pc len tg nc : Nat} {lo : List (Option Value)} {st : List Value} {h : am_S} {Q : am_Q} {off : Int} (hc : am_code G μ pc = some (.goto off, len, tg))
    (hF : am_go (am_PW G sh TS NS cl EX l) (am_PW G sh TS NS cl EX l) (am_op G sh μ pc len tg nc lo st h (.goto off)) Q) : am_PW G sh TS NS cl EX l (μ, pc, nc, lo, st, h) Q := by
  intro M hM p e s m args below meth cd H locs A ls ad ca D hB hE hK hP hD hS hA hl Qc XC hQ hX
  obtain ⟨hdec, hln, htg⟩ := am_code_spec hM hc
  obtain ⟨hx, hb, hr, hml, hown, hts, hns, hlocks, hnoex⟩ := id hB
  have go : ∀ (pc' nc' : Nat) (st' : List Value), am_PW G sh TS NS cl EX l (μ, pc', nc', lo, st', h) Q → W p l e M.2.2.2.2.2 s m args below meth cd H locs nc' (6 * nc') (vx_MQ below Qc XC args s M.2.2.2.2.2.cells M.2.2.2.2.2.slots A) (F0 m pc' ls (st'.map (am_cv ad))) :=
    fun pc' nc' st' k => k M hM p e s m args below meth cd H locs A ls ad ca D hB hE hK hP hD hS hA hl Qc XC hQ hX
  obtain rfl : len = 3 := by simpa [am_ln] using hln
  exact lv_goto hx hb hdec (am_nn_spec htg) (go _ _ _ (hF.2.1 trivial))

set_option maxHeartbeats 1000000 in
theorem am_r_ifCond {G : am_G} {sh : List am_D} {TS NS : List Cond} {cl : List vw_C} {EX : (Nat → Prop) → State → Heap → Prop} {l : Launch} (hok : am_Ok G TS NS cl) (hsh : am_Sh cl sh) {μ pc len tg nc : Nat} {lo : List (Option Value)} {st : List Value} {h : am_S} {Q : am_Q} {cc : ClassFile.Cond} {off : Int} (hc : am_code G μ pc = some (.ifCond cc off, len, tg))
    (hF : am_go (am_PW G sh TS NS cl EX l) (am_PW G sh TS NS cl EX l) (am_op G sh μ pc len tg nc lo st h (.ifCond cc off)) Q) : am_PW G sh TS NS cl EX l (μ, pc, nc, lo, st, h) Q := by
  intro M hM p e s m args below meth cd H locs A ls ad ca D hB hE hK hP hD hS hA hl Qc XC hQ hX
  obtain ⟨hdec, hln, htg⟩ := am_code_spec hM hc
  obtain ⟨hx, hb, hr, hml, hown, hts, hns, hlocks, hnoex⟩ := id hB
  have go : ∀ (pc' nc' : Nat) (st' : List Value), am_PW G sh TS NS cl EX l (μ, pc', nc', lo, st', h) Q → W p l e M.2.2.2.2.2 s m args below meth cd H locs nc' (6 * nc') (vx_MQ below Qc XC args s M.2.2.2.2.2.cells M.2.2.2.2.2.slots A) (F0 m pc' ls (st'.map (am_cv ad))) :=
    fun pc' nc' st' k => k M hM p e s m args below meth cd H locs A ls ad ca D hB hE hK hP hD hS hA hl Qc XC hQ hX
  obtain rfl : len = 3 := by simpa [am_ln] using hln
  dsimp only [am_op] at hF
  split at hF
  · cases cc with
    | eq => exact lv_if_eq hx hb hdec (am_nn_spec htg) (fun q => go _ _ _ (hF.2.1 q)) (fun q => go _ _ _ (hF.2.2.1 q))
    | ne => exact lv_if_ne hx hb hdec (am_nn_spec htg) (fun q => go _ _ _ (hF.2.1 q)) (fun q => go _ _ _ (hF.2.2.1 q))
    | lt => exact lv_if_lt hx hb hdec (am_nn_spec htg) (fun q => go _ _ _ (hF.2.1 q)) (fun q => go _ _ _ (hF.2.2.1 q))
    | ge => exact lv_if_ge hx hb hdec (am_nn_spec htg) (fun q => go _ _ _ (hF.2.1 q)) (fun q => go _ _ _ (hF.2.2.1 q))
    | gt => exact lv_if_gt hx hb hdec (am_nn_spec htg) (fun q => go _ _ _ (hF.2.1 q)) (fun q => go _ _ _ (hF.2.2.1 q))
    | le => exact lv_if_le hx hb hdec (am_nn_spec htg) (fun q => go _ _ _ (hF.2.1 q)) (fun q => go _ _ _ (hF.2.2.1 q))
  · exact hF.elim

set_option maxHeartbeats 1000000 in
theorem am_r_if_icmp {G : am_G} {sh : List am_D} {TS NS : List Cond} {cl : List vw_C} {EX : (Nat → Prop) → State → Heap → Prop} {l : Launch} (hok : am_Ok G TS NS cl) (hsh : am_Sh cl sh) {μ pc len tg nc : Nat} {lo : List (Option Value)} {st : List Value} {h : am_S} {Q : am_Q} {cc : ClassFile.Cond} {off : Int} (hc : am_code G μ pc = some (.if_icmp cc off, len, tg))
    (hF : am_go (am_PW G sh TS NS cl EX l) (am_PW G sh TS NS cl EX l) (am_op G sh μ pc len tg nc lo st h (.if_icmp cc off)) Q) : am_PW G sh TS NS cl EX l (μ, pc, nc, lo, st, h) Q := by
  intro M hM p e s m args below meth cd H locs A ls ad ca D hB hE hK hP hD hS hA hl Qc XC hQ hX
  obtain ⟨hdec, hln, htg⟩ := am_code_spec hM hc
  obtain ⟨hx, hb, hr, hml, hown, hts, hns, hlocks, hnoex⟩ := id hB
  have go : ∀ (pc' nc' : Nat) (st' : List Value), am_PW G sh TS NS cl EX l (μ, pc', nc', lo, st', h) Q → W p l e M.2.2.2.2.2 s m args below meth cd H locs nc' (6 * nc') (vx_MQ below Qc XC args s M.2.2.2.2.2.cells M.2.2.2.2.2.slots A) (F0 m pc' ls (st'.map (am_cv ad))) :=
    fun pc' nc' st' k => k M hM p e s m args below meth cd H locs A ls ad ca D hB hE hK hP hD hS hA hl Qc XC hQ hX
  obtain rfl : len = 3 := by simpa [am_ln] using hln
  dsimp only [am_op] at hF
  split at hF
  · cases cc with
    | eq => exact lv_icmp_eq hx hb hdec (am_nn_spec htg) (fun q => go _ _ _ (hF.2.1 q)) (fun q => go _ _ _ (hF.2.2.1 q))
    | ne => exact lv_icmp_ne hx hb hdec (am_nn_spec htg) (fun q => go _ _ _ (hF.2.1 q)) (fun q => go _ _ _ (hF.2.2.1 q))
    | lt => exact lv_icmp_lt hx hb hdec (am_nn_spec htg) (fun q => go _ _ _ (hF.2.1 q)) (fun q => go _ _ _ (hF.2.2.1 q))
    | ge => exact lv_icmp_ge hx hb hdec (am_nn_spec htg) (fun q => go _ _ _ (hF.2.1 q)) (fun q => go _ _ _ (hF.2.2.1 q))
    | gt => exact lv_icmp_gt hx hb hdec (am_nn_spec htg) (fun q => go _ _ _ (hF.2.1 q)) (fun q => go _ _ _ (hF.2.2.1 q))
    | le => exact lv_icmp_le hx hb hdec (am_nn_spec htg) (fun q => go _ _ _ (hF.2.1 q)) (fun q => go _ _ _ (hF.2.2.1 q))
  · exact hF.elim

set_option maxHeartbeats 1000000 in
theorem am_r_getfield {G : am_G} {sh : List am_D} {TS NS : List Cond} {cl : List vw_C} {EX : (Nat → Prop) → State → Heap → Prop} {l : Launch} (hok : am_Ok G TS NS cl) (hsh : am_Sh cl sh) {μ pc len tg nc : Nat} {lo : List (Option Value)} {st : List Value} {h : am_S} {Q : am_Q} {ix : Nat} (hc : am_code G μ pc = some (.getfield ix, len, tg))
    (hF : am_go (am_PW G sh TS NS cl EX l) (am_PW G sh TS NS cl EX l) (am_op G sh μ pc len tg nc lo st h (.getfield ix)) Q) : am_PW G sh TS NS cl EX l (μ, pc, nc, lo, st, h) Q := by
  intro M hM p e s m args below meth cd H locs A ls ad ca D hB hE hK hP hD hS hA hl Qc XC hQ hX
  obtain ⟨hdec, hln, htg⟩ := am_code_spec hM hc
  obtain ⟨hx, hb, hr, hml, hown, hts, hns, hlocks, hnoex⟩ := id hB
  have go : ∀ (pc' nc' : Nat) (st' : List Value), am_PW G sh TS NS cl EX l (μ, pc', nc', lo, st', h) Q → W p l e M.2.2.2.2.2 s m args below meth cd H locs nc' (6 * nc') (vx_MQ below Qc XC args s M.2.2.2.2.2.cells M.2.2.2.2.2.slots A) (F0 m pc' ls (st'.map (am_cv ad))) :=
    fun pc' nc' st' k => k M hM p e s m args below meth cd H locs A ls ad ca D hB hE hK hP hD hS hA hl Qc XC hQ hX
  obtain rfl : len = 3 := by simpa [am_ln] using hln
  dsimp only [am_op] at hF
  split at hF
  · rename_i ci k hfl
    obtain ⟨C, T, N, ty, hcl, hkN, hTC, hin, hty, hnm, hlink⟩ := hok.2.2.1 μ M ix ci k hM hfl
    split at hF
    · rename_i o r
      split at hF
      · rename_i cj fs hso
        split at hF
        · rename_i q hq
          obtain rfl : ci = cj := hF.1
          have hq2 : (fs.map (am_fv ad h.1))[k]? = some (am_fv ad h.1 (.inl q)) := by rw [List.getElem?_map, hq]; rfl
          rcases hlink with hlk | ⟨host, hlk⟩
          · exact va_get (D := D) (ci := ci) (C := C) (T := T) (N := N) hx hb hts hin hown hK hP o (am_W_get hso) hcl k hkN (hts _ hlk) (fun x9 h9 => by rw [hTC] at h9; exact h9) hq2 hdec (go _ _ _ (hF.2.1 trivial))
          · exact va_getN (D := D) (ci := ci) (C := C) (T := T) (N := N) (host := host) hx hb hts hin hown hK hP o (am_W_get hso) hcl k hkN (va_Nw.use rfl (hns _ hlk)) (fun x9 h9 => by rw [hTC] at h9; exact h9) hq2 hdec (go _ _ _ (hF.2.1 trivial))
        · rename_i q hq
          obtain rfl : ci = cj := hF.1
          have hq2 : (fs.map (am_fv ad h.1))[k]? = some (am_fv ad h.1 (.inr q)) := by rw [List.getElem?_map, hq]; rfl
          rcases hlink with hlk | ⟨host, hlk⟩
          · exact va_get (D := D) (ci := ci) (C := C) (T := T) (N := N) hx hb hts hin hown hK hP o (am_W_get hso) hcl k hkN (hts _ hlk) (fun x9 h9 => by rw [hTC] at h9; exact h9) hq2 hdec (go _ _ _ (hF.2.1 trivial))
          · exact va_getN (D := D) (ci := ci) (C := C) (T := T) (N := N) (host := host) hx hb hts hin hown hK hP o (am_W_get hso) hcl k hkN (va_Nw.use rfl (hns _ hlk)) (fun x9 h9 => by rw [hTC] at h9; exact h9) hq2 hdec (go _ _ _ (hF.2.1 trivial))
        · exact hF.elim
      · exact hF.elim
    · exact hF.elim
  · exact hF.elim

set_option maxHeartbeats 1000000 in
theorem am_r_putfield {G : am_G} {sh : List am_D} {TS NS : List Cond} {cl : List vw_C} {EX : (Nat → Prop) → State → Heap → Prop} {l : Launch} (hok : am_Ok G TS NS cl) (hsh : am_Sh cl sh) {μ pc len tg nc : Nat} {lo : List (Option Value)} {st : List Value} {h : am_S} {Q : am_Q} {ix : Nat} (hc : am_code G μ pc = some (.putfield ix, len, tg))
    (hF : am_go (am_PW G sh TS NS cl EX l) (am_PW G sh TS NS cl EX l) (am_op G sh μ pc len tg nc lo st h (.putfield ix)) Q) : am_PW G sh TS NS cl EX l (μ, pc, nc, lo, st, h) Q := by
  intro M hM p e s m args below meth cd H locs A ls ad ca D hB hE hK hP hD hS hA hl Qc XC hQ hX
  obtain ⟨hdec, hln, htg⟩ := am_code_spec hM hc
  obtain ⟨hx, hb, hr, hml, hown, hts, hns, hlocks, hnoex⟩ := id hB
  have go : ∀ (pc' nc' : Nat) (st' : List Value), am_PW G sh TS NS cl EX l (μ, pc', nc', lo, st', h) Q → W p l e M.2.2.2.2.2 s m args below meth cd H locs nc' (6 * nc') (vx_MQ below Qc XC args s M.2.2.2.2.2.cells M.2.2.2.2.2.slots A) (F0 m pc' ls (st'.map (am_cv ad))) :=
    fun pc' nc' st' k => k M hM p e s m args below meth cd H locs A ls ad ca D hB hE hK hP hD hS hA hl Qc XC hQ hX
  obtain rfl : len = 3 := by simpa [am_ln] using hln
  dsimp only [am_op] at hF
  split at hF
  · rename_i ci k hfl
    obtain ⟨C, T, N, ty, hcl, hkN, hTC, hin, hty, hnm, hlink⟩ := hok.2.2.1 μ M ix ci k hM hfl
    split at hF
    · rename_i x o r
      split at hF
      · rename_i cj fs hso
        split at hF
        · rename_i j hq
          obtain rfl : ci = cj := hF.1
          have hfs := (hsh.2 o ci fs hso C T N hcl).2 k j hq
          rcases hlink with hlk | ⟨host, hlk⟩
          · exact va_put (D := D) (ci := ci) (v := .int x) (ty := .int) (C := C) (T := T) (N := N) hx hb hts hin ty hty hnm hown hK hP hD hS o (am_W_get hso) hcl k hkN (hts _ hlk) (fun x9 h9 => by rw [hTC] at h9; exact h9) hfs.2 hfs.1 rfl rfl (by rw [List.length_map]; exact (List.getElem?_eq_some_iff.mp hq).1) hdec (fun H1 locs1 hP1 hD1 hS1 => hF.2.1 trivial M hM p e s m args below meth cd H1 locs1 A ls ad ca D hB hE hK (by rw [← am_W_num hsh hso hq]; exact hP1) (by rw [← am_W_num hsh hso hq]; exact hD1) hS1 hA hl Qc XC hQ hX)
          · exact va_putN (D := D) (ci := ci) (v := .int x) (ty := .int) (C := C) (T := T) (N := N) (host := host) hx hb hts hin ty hty hnm hown hK hP hD hS o (am_W_get hso) hcl k hkN (va_Nw.use rfl (hns _ hlk)) (fun x9 h9 => by rw [hTC] at h9; exact h9) hfs.2 hfs.1 rfl rfl (by rw [List.length_map]; exact (List.getElem?_eq_some_iff.mp hq).1) hdec (fun H1 locs1 hP1 hD1 hS1 => hF.2.1 trivial M hM p e s m args below meth cd H1 locs1 A ls ad ca D hB hE hK (by rw [← am_W_num hsh hso hq]; exact hP1) (by rw [← am_W_num hsh hso hq]; exact hD1) hS1 hA hl Qc XC hQ hX)
        · exact hF.elim
      · exact hF.elim
    · exact hF.elim
  · exact hF.elim

set_option maxHeartbeats 1000000 in
theorem am_r_iaload {G : am_G} {sh : List am_D} {TS NS : List Cond} {cl : List vw_C} {EX : (Nat → Prop) → State → Heap → Prop} {l : Launch} (hok : am_Ok G TS NS cl) (hsh : am_Sh cl sh) {μ pc len tg nc : Nat} {lo : List (Option Value)} {st : List Value} {h : am_S} {Q : am_Q} (hc : am_code G μ pc = some (.iaload, len, tg))
    (hF : am_go (am_PW G sh TS NS cl EX l) (am_PW G sh TS NS cl EX l) (am_op G sh μ pc len tg nc lo st h (.iaload)) Q) : am_PW G sh TS NS cl EX l (μ, pc, nc, lo, st, h) Q := by
  intro M hM p e s m args below meth cd H locs A ls ad ca D hB hE hK hP hD hS hA hl Qc XC hQ hX
  obtain ⟨hdec, hln, htg⟩ := am_code_spec hM hc
  obtain ⟨hx, hb, hr, hml, hown, hts, hns, hlocks, hnoex⟩ := id hB
  have go : ∀ (pc' nc' : Nat) (st' : List Value), am_PW G sh TS NS cl EX l (μ, pc', nc', lo, st', h) Q → W p l e M.2.2.2.2.2 s m args below meth cd H locs nc' (6 * nc') (vx_MQ below Qc XC args s M.2.2.2.2.2.cells M.2.2.2.2.2.slots A) (F0 m pc' ls (st'.map (am_cv ad))) :=
    fun pc' nc' st' k => k M hM p e s m args below meth cd H locs A ls ad ca D hB hE hK hP hD hS hA hl Qc XC hQ hX
  obtain rfl : len = 1 := by simpa [am_ln] using hln
  dsimp only [am_op] at hF
  split at hF
  · rename_i j o r
    split at hF
    · rename_i n hso
      exact va_iald hx hb hK hP o 0 (am_W_get hso) rfl hF.1 hdec (go _ _ _ (hF.2.1 trivial))
    · exact hF.elim
  · exact hF.elim

set_option maxHeartbeats 1000000 in
theorem am_r_baload {G : am_G} {sh : List am_D} {TS NS : List Cond} {cl : List vw_C} {EX : (Nat → Prop) → State → Heap → Prop} {l : Launch} (hok : am_Ok G TS NS cl) (hsh : am_Sh cl sh) {μ pc len tg nc : Nat} {lo : List (Option Value)} {st : List Value} {h : am_S} {Q : am_Q} (hc : am_code G μ pc = some (.baload, len, tg))
    (hF : am_go (am_PW G sh TS NS cl EX l) (am_PW G sh TS NS cl EX l) (am_op G sh μ pc len tg nc lo st h (.baload)) Q) : am_PW G sh TS NS cl EX l (μ, pc, nc, lo, st, h) Q := by
  intro M hM p e s m args below meth cd H locs A ls ad ca D hB hE hK hP hD hS hA hl Qc XC hQ hX
  obtain ⟨hdec, hln, htg⟩ := am_code_spec hM hc
  obtain ⟨hx, hb, hr, hml, hown, hts, hns, hlocks, hnoex⟩ := id hB
  have go : ∀ (pc' nc' : Nat) (st' : List Value), am_PW G sh TS NS cl EX l (μ, pc', nc', lo, st', h) Q → W p l e M.2.2.2.2.2 s m args below meth cd H locs nc' (6 * nc') (vx_MQ below Qc XC args s M.2.2.2.2.2.cells M.2.2.2.2.2.slots A) (F0 m pc' ls (st'.map (am_cv ad))) :=
    fun pc' nc' st' k => k M hM p e s m args below meth cd H locs A ls ad ca D hB hE hK hP hD hS hA hl Qc XC hQ hX
  obtain rfl : len = 1 := by simpa [am_ln] using hln
  dsimp only [am_op] at hF
  split at hF
  · rename_i j o r
    split at hF
    · rename_i n hso
      exact va_zald hx hb hK hP o 1 (am_W_get hso) rfl hF.1 hdec (go _ _ _ (hF.2.1 trivial))
    · exact hF.elim
  · exact hF.elim

set_option maxHeartbeats 1000000 in
theorem am_r_iastore {G : am_G} {sh : List am_D} {TS NS : List Cond} {cl : List vw_C} {EX : (Nat → Prop) → State → Heap → Prop} {l : Launch} (hok : am_Ok G TS NS cl) (hsh : am_Sh cl sh) {μ pc len tg nc : Nat} {lo : List (Option Value)} {st : List Value} {h : am_S} {Q : am_Q} (hc : am_code G μ pc = some (.iastore, len, tg))
    (hF : am_go (am_PW G sh TS NS cl EX l) (am_PW G sh TS NS cl EX l) (am_op G sh μ pc len tg nc lo st h (.iastore)) Q) : am_PW G sh TS NS cl EX l (μ, pc, nc, lo, st, h) Q := by
  intro M hM p e s m args below meth cd H locs A ls ad ca D hB hE hK hP hD hS hA hl Qc XC hQ hX
  obtain ⟨hdec, hln, htg⟩ := am_code_spec hM hc
  obtain ⟨hx, hb, hr, hml, hown, hts, hns, hlocks, hnoex⟩ := id hB
  have go : ∀ (pc' nc' : Nat) (st' : List Value), am_PW G sh TS NS cl EX l (μ, pc', nc', lo, st', h) Q → W p l e M.2.2.2.2.2 s m args below meth cd H locs nc' (6 * nc') (vx_MQ below Qc XC args s M.2.2.2.2.2.cells M.2.2.2.2.2.slots A) (F0 m pc' ls (st'.map (am_cv ad))) :=
    fun pc' nc' st' k => k M hM p e s m args below meth cd H locs A ls ad ca D hB hE hK hP hD hS hA hl Qc XC hQ hX
  obtain rfl : len = 1 := by simpa [am_ln] using hln
  dsimp only [am_op] at hF
  split at hF
  · rename_i x j o r
    split at hF
    · rename_i n hso
      exact va_iast hx hb hK hP hD hS o 0 (am_W_get hso) rfl hF.1 hdec (fun H1 locs1 hP1 hD1 hS1 => hF.2.1 trivial M hM p e s m args below meth cd H1 locs1 A ls ad ca D hB hE hK (by rw [← am_W_row (h := h) hso]; exact hP1) (by rw [← am_W_row (h := h) hso]; exact hD1) hS1 hA hl Qc XC hQ hX)
    · exact hF.elim
  · exact hF.elim

set_option maxHeartbeats 1000000 in
theorem am_r_bastore {G : am_G} {sh : List am_D} {TS NS : List Cond} {cl : List vw_C} {EX : (Nat → Prop) → State → Heap → Prop} {l : Launch} (hok : am_Ok G TS NS cl) (hsh : am_Sh cl sh) {μ pc len tg nc : Nat} {lo : List (Option Value)} {st : List Value} {h : am_S} {Q : am_Q} (hc : am_code G μ pc = some (.bastore, len, tg))
    (hF : am_go (am_PW G sh TS NS cl EX l) (am_PW G sh TS NS cl EX l) (am_op G sh μ pc len tg nc lo st h (.bastore)) Q) : am_PW G sh TS NS cl EX l (μ, pc, nc, lo, st, h) Q := by
  intro M hM p e s m args below meth cd H locs A ls ad ca D hB hE hK hP hD hS hA hl Qc XC hQ hX
  obtain ⟨hdec, hln, htg⟩ := am_code_spec hM hc
  obtain ⟨hx, hb, hr, hml, hown, hts, hns, hlocks, hnoex⟩ := id hB
  have go : ∀ (pc' nc' : Nat) (st' : List Value), am_PW G sh TS NS cl EX l (μ, pc', nc', lo, st', h) Q → W p l e M.2.2.2.2.2 s m args below meth cd H locs nc' (6 * nc') (vx_MQ below Qc XC args s M.2.2.2.2.2.cells M.2.2.2.2.2.slots A) (F0 m pc' ls (st'.map (am_cv ad))) :=
    fun pc' nc' st' k => k M hM p e s m args below meth cd H locs A ls ad ca D hB hE hK hP hD hS hA hl Qc XC hQ hX
  obtain rfl : len = 1 := by simpa [am_ln] using hln
  dsimp only [am_op] at hF
  split at hF
  · rename_i x j o r
    split at hF
    · rename_i n hso
      have hnar : vp_nar .boolean x = x := by rcases hF.1.2 with rfl | rfl <;> decide
      refine va_zast hx hb hK hP hD hS o 1 (am_W_get hso) rfl hF.1.1 hdec (fun H1 locs1 hP1 hD1 hS1 => ?_)
      rw [hnar] at hP1 hD1
      exact hF.2.1 trivial M hM p e s m args below meth cd H1 locs1 A ls ad ca D hB hE hK (by rw [← am_W_row (h := h) hso]; exact hP1) (by rw [← am_W_row (h := h) hso]; exact hD1) hS1 hA hl Qc XC hQ hX
    · exact hF.elim
  · exact hF.elim

set_option maxHeartbeats 1000000 in
theorem am_r_arraylength {G : am_G} {sh : List am_D} {TS NS : List Cond} {cl : List vw_C} {EX : (Nat → Prop) → State → Heap → Prop} {l : Launch} (hok : am_Ok G TS NS cl) (hsh : am_Sh cl sh) {μ pc len tg nc : Nat} {lo : List (Option Value)} {st : List Value} {h : am_S} {Q : am_Q} (hc : am_code G μ pc = some (.arraylength, len, tg))
    (hF : am_go (am_PW G sh TS NS cl EX l) (am_PW G sh TS NS cl EX l) (am_op G sh μ pc len tg nc lo st h (.arraylength)) Q) : am_PW G sh TS NS cl EX l (μ, pc, nc, lo, st, h) Q := by
  intro M hM p e s m args below meth cd H locs A ls ad ca D hB hE hK hP hD hS hA hl Qc XC hQ hX
  obtain ⟨hdec, hln, htg⟩ := am_code_spec hM hc
  obtain ⟨hx, hb, hr, hml, hown, hts, hns, hlocks, hnoex⟩ := id hB
  have go : ∀ (pc' nc' : Nat) (st' : List Value), am_PW G sh TS NS cl EX l (μ, pc', nc', lo, st', h) Q → W p l e M.2.2.2.2.2 s m args below meth cd H locs nc' (6 * nc') (vx_MQ below Qc XC args s M.2.2.2.2.2.cells M.2.2.2.2.2.slots A) (F0 m pc' ls (st'.map (am_cv ad))) :=
    fun pc' nc' st' k => k M hM p e s m args below meth cd H locs A ls ad ca D hB hE hK hP hD hS hA hl Qc XC hQ hX
  obtain rfl : len = 1 := by simpa [am_ln] using hln
  dsimp only [am_op] at hF
  split at hF
  · rename_i o r
    split at hF
    · rename_i n hso
      exact va_alen hx hb hK hP o 0 (am_W_get hso) rfl rfl hdec (go _ _ _ (hF.2.1 trivial))
    · exact hF.elim
  · exact hF.elim

set_option maxHeartbeats 1000000 in
theorem am_r_ireturn {G : am_G} {sh : List am_D} {TS NS : List Cond} {cl : List vw_C} {EX : (Nat → Prop) → State → Heap → Prop} {l : Launch} (hok : am_Ok G TS NS cl) (hsh : am_Sh cl sh) {μ pc len tg nc : Nat} {lo : List (Option Value)} {st : List Value} {h : am_S} {Q : am_Q} (hc : am_code G μ pc = some (.ireturn, len, tg))
    (hF : am_go (am_PW G sh TS NS cl EX l) (am_PW G sh TS NS cl EX l) (am_op G sh μ pc len tg nc lo st h (.ireturn)) Q) : am_PW G sh TS NS cl EX l (μ, pc, nc, lo, st, h) Q := by
  intro M hM p e s m args below meth cd H locs A ls ad ca D hB hE hK hP hD hS hA hl Qc XC hQ hX
  obtain ⟨hdec, hln, htg⟩ := am_code_spec hM hc
  obtain ⟨hx, hb, hr, hml, hown, hts, hns, hlocks, hnoex⟩ := id hB
  have go : ∀ (pc' nc' : Nat) (st' : List Value), am_PW G sh TS NS cl EX l (μ, pc', nc', lo, st', h) Q → W p l e M.2.2.2.2.2 s m args below meth cd H locs nc' (6 * nc') (vx_MQ below Qc XC args s M.2.2.2.2.2.cells M.2.2.2.2.2.slots A) (F0 m pc' ls (st'.map (am_cv ad))) :=
    fun pc' nc' st' k => k M hM p e s m args below meth cd H locs A ls ad ca D hB hE hK hP hD hS hA hl Qc XC hQ hX
  obtain rfl : len = 1 := by simpa [am_ln] using hln
  dsimp only [am_op] at hF
  split at hF
  · rename_i x
    obtain ⟨⟨hz, hn⟩, hq⟩ := hF
    rw [am_nc_of hM] at hn
    rw [am_rt_of hM] at hz
    have hsl := (hok.2.1 μ M hM).2.2.2.2
    refine vx_ret (W.widen (k := M.2.2.2.2.2.cells) (n := M.2.2.2.2.2.slots) hn (by rw [hsl]; exact Nat.mul_le_mul_left 6 hn) ?_)
    rcases hz with hz | ⟨hz, hx01⟩
    · exact W.iret hx hb (hr.trans (am_rk_1 hz)) (fun t ht hW => hQ h (some (.int x)) t hq hW.alike (by rw [ht]; exact hP) hD (hS.F ht)) hS.2.2 hdec hlocks
    · have hnar : narrow .boolean (.int x) = .int x := by rcases hx01 with rfl | rfl <;> decide
      exact W.zret (ty := .boolean) hx hb (hr.trans (am_rk_2 hz)) hnar (fun t ht hW => hQ h (some (.int x)) t hq hW.alike (by rw [ht]; exact hP) hD (hS.F ht)) hS.2.2 hdec hlocks
  · exact hF.elim

set_option maxHeartbeats 1000000 in
theorem am_r_return {G : am_G} {sh : List am_D} {TS NS : List Cond} {cl : List vw_C} {EX : (Nat → Prop) → State → Heap → Prop} {l : Launch} (hok : am_Ok G TS NS cl) (hsh : am_Sh cl sh) {μ pc len tg nc : Nat} {lo : List (Option Value)} {st : List Value} {h : am_S} {Q : am_Q} (hc : am_code G μ pc = some (.return_, len, tg))
    (hF : am_go (am_PW G sh TS NS cl EX l) (am_PW G sh TS NS cl EX l) (am_op G sh μ pc len tg nc lo st h (.return_)) Q) : am_PW G sh TS NS cl EX l (μ, pc, nc, lo, st, h) Q := by
  intro M hM p e s m args below meth cd H locs A ls ad ca D hB hE hK hP hD hS hA hl Qc XC hQ hX
  obtain ⟨hdec, hln, htg⟩ := am_code_spec hM hc
  obtain ⟨hx, hb, hr, hml, hown, hts, hns, hlocks, hnoex⟩ := id hB
  have go : ∀ (pc' nc' : Nat) (st' : List Value), am_PW G sh TS NS cl EX l (μ, pc', nc', lo, st', h) Q → W p l e M.2.2.2.2.2 s m args below meth cd H locs nc' (6 * nc') (vx_MQ below Qc XC args s M.2.2.2.2.2.cells M.2.2.2.2.2.slots A) (F0 m pc' ls (st'.map (am_cv ad))) :=
    fun pc' nc' st' k => k M hM p e s m args below meth cd H locs A ls ad ca D hB hE hK hP hD hS hA hl Qc XC hQ hX
  obtain rfl : len = 1 := by simpa [am_ln] using hln
  dsimp only [am_op] at hF
  split at hF
  · obtain ⟨⟨hz, hn⟩, hq⟩ := hF
    rw [am_nc_of hM] at hn
    rw [am_rt_of hM] at hz
    have hsl := (hok.2.1 μ M hM).2.2.2.2
    refine vx_ret (W.widen (k := M.2.2.2.2.2.cells) (n := M.2.2.2.2.2.slots) hn (by rw [hsl]; exact Nat.mul_le_mul_left 6 hn) ?_)
    exact W.vret hx hb (hr.trans (am_rk_0 hz)) (fun t ht hW => hQ h none t hq hW.alike (by rw [ht]; exact hP) hD (hS.F ht)) hS.2.2 hdec hlocks
  · exact hF.elim

set_option maxHeartbeats 1000000 in
theorem am_r_new {G : am_G} {sh : List am_D} {TS NS : List Cond} {cl : List vw_C} {EX : (Nat → Prop) → State → Heap → Prop} {l : Launch} (hok : am_Ok G TS NS cl) (hsh : am_Sh cl sh) {μ pc len tg nc : Nat} {lo : List (Option Value)} {st : List Value} {h : am_S} {Q : am_Q} (hth : am_TH G TS NS EX l) {ix : Nat} (hc : am_code G μ pc = some (.new ix, len, tg))
    (hF : am_go (am_PW G sh TS NS cl EX l) (am_PW G sh TS NS cl EX l) (am_op G sh μ pc len tg nc lo st h (.new ix)) Q) : am_PW G sh TS NS cl EX l (μ, pc, nc, lo, st, h) Q := by
  intro M hM p e s m args below meth cd H locs A ls ad ca D hB hE hK hP hD hS hA hl Qc XC hQ hX
  obtain ⟨hdec, hln, htg⟩ := am_code_spec hM hc
  obtain ⟨hx, hb, hr, hml, hown, hts, hns, hlocks, hnoex⟩ := id hB
  have go : ∀ (pc' nc' : Nat) (st' : List Value), am_PW G sh TS NS cl EX l (μ, pc', nc', lo, st', h) Q → W p l e M.2.2.2.2.2 s m args below meth cd H locs nc' (6 * nc') (vx_MQ below Qc XC args s M.2.2.2.2.2.cells M.2.2.2.2.2.slots A) (F0 m pc' ls (st'.map (am_cv ad))) :=
    fun pc' nc' st' k => k M hM p e s m args below meth cd H locs A ls ad ca D hB hE hK hP hD hS hA hl Qc XC hQ hX
  obtain rfl : len = 3 := by simpa [am_ln] using hln
  dsimp only [am_op] at hF
  split at hF
  · rename_i E hE9
    obtain ⟨⟨hn, hct⟩, hq⟩ := hF
    rw [am_nc_of hM] at hn
    refine hth μ M pc E hM hE9 p e s m args below meth cd H locs A ls _ nc Qc XC hB hE hS hl.1 (by rw [am_ct_map]; exact hct) hn (fun t ha hz hk => hX h E t hq ha (hP.kept (fun k q hkq => hk q.1 (hP k q hkq).lt)) hD ⟨Nat.le_trans hS.1 hz, fun q h1 h2 => by rw [hk q (Nat.lt_of_lt_of_le h1 hS.1)]; exact hS.2.1 q h1 h2⟩)
  · exact hF.elim

theorem am_sw_get {f : am_C → Prop} {mk : Nat → am_C} {pc : Nat} {x lo : Int} : ∀ {offs : List Int} {j : Nat}, am_all f (am_sw mk pc x lo j offs) → ∀ {i : Nat} {off : Int}, offs[i]? = some off → x = lo + ((j + i : Nat) : Int) → f (mk ((pc : Int) + off).toNat)
  | [], _, _, _, _, h, _ => by simp at h
  | o :: r, j, ha, 0, off, h, hx => by
    have : o = off := by simpa using h
    subst this
    exact ha.1 hx
  | o :: r, j, ha, i + 1, off, h, hx => am_sw_get (j := j + 1) ha.2 (i := i) (by simpa using h) (by rw [hx]; congr 2; omega)
theorem am_swo_get {pc : Nat} : ∀ {offs : List Int}, am_swo pc offs = true → ∀ {i : Nat} {off : Int}, offs[i]? = some off → 0 ≤ (pc : Int) + off
  | [], _, _, _, h => by simp at h
  | o :: r, ha, 0, off, h => by
    have : o = off := by simpa using h
    subst this
    simp only [am_swo, Bool.and_eq_true, decide_eq_true_eq] at ha
    exact ha.1
  | o :: r, ha, i + 1, off, h => by
    simp only [am_swo, Bool.and_eq_true, decide_eq_true_eq] at ha
    exact am_swo_get ha.2 (i := i) (by simpa using h)

set_option maxHeartbeats 1000000 in
theorem am_r_tableswitch {G : am_G} {sh : List am_D} {TS NS : List Cond} {cl : List vw_C} {EX : (Nat → Prop) → State → Heap → Prop} {l : Launch} (hok : am_Ok G TS NS cl) (hsh : am_Sh cl sh) {μ pc len tg nc : Nat} {lo : List (Option Value)} {st : List Value} {h : am_S} {Q : am_Q} {dflt lw up : Int} {offs : Array Int} (hc : am_code G μ pc = some (.tableswitch dflt lw up offs, len, tg))
    (hF : am_go (am_PW G sh TS NS cl EX l) (am_PW G sh TS NS cl EX l) (am_op G sh μ pc len tg nc lo st h (.tableswitch dflt lw up offs)) Q) : am_PW G sh TS NS cl EX l (μ, pc, nc, lo, st, h) Q := by
  intro M hM p e s m args below meth cd H locs A ls ad ca D hB hE hK hP hD hS hA hl Qc XC hQ hX
  obtain ⟨hdec, hln, htg⟩ := am_code_spec hM hc
  obtain ⟨hx, hb, hr, hml, hown, hts, hns, hlocks, hnoex⟩ := id hB
  have go : ∀ (pc' nc' : Nat) (st' : List Value), am_PW G sh TS NS cl EX l (μ, pc', nc', lo, st', h) Q → W p l e M.2.2.2.2.2 s m args below meth cd H locs nc' (6 * nc') (vx_MQ below Qc XC args s M.2.2.2.2.2.cells M.2.2.2.2.2.slots A) (F0 m pc' ls (st'.map (am_cv ad))) :=
    fun pc' nc' st' k => k M hM p e s m args below meth cd H locs A ls ad ca D hB hE hK hP hD hS hA hl Qc XC hQ hX
  dsimp only [am_op] at hF
  split at hF
  · rename_i x r
    obtain ⟨⟨hsz, hof⟩, hd, hrest⟩ := hF
    by_cases hout : x.toInt < lw ∨ up < x.toInt
    · exact lv_tableOut hx hb hdec hout (am_nn_spec htg) (go _ _ _ (hd hout))
    · have h1 : ¬ x.toInt < lw := fun q => hout (Or.inl q)
      have h2 : ¬ up < x.toInt := fun q => hout (Or.inr q)
      have hlt : (x.toInt - lw).toNat < offs.size := by omega
      have hget : offs[(x.toInt - lw).toNat]? = some offs[(x.toInt - lw).toNat] := Array.getElem?_eq_getElem hlt
      have hgl : offs.toList[(x.toInt - lw).toNat]? = some offs[(x.toInt - lw).toNat] := by rw [Array.getElem?_toList]; exact hget
      have hnn := am_swo_get hof hgl
      have hgo := am_sw_get (j := 0) hrest hgl (by omega)
      exact lv_tableIn hx hb hdec h1 h2 hget (Int.toNat_of_nonneg hnn).symm (go _ _ _ hgo)
  · exact hF.elim

theorem am_ctr {ad : Nat → Nat} {r : List Value} {k n : Nat} (h : am_ct r ≤ 8) (hk : 8 + k ≤ n) : ((r.map (am_cv ad)).map fun v => v.category).sum + k ≤ n := by
  rw [am_ct_map]
  omega
theorem am_ofW {l : Launch} {y : MethodName} {ws ws' : List Cond} {rm : Room} {Pc : Array Value → State → Prop} {Qc : Array Value → State → Outcome → State → Prop} {XC : String → State → State → Prop} {mc ms : Nat} {free : Addr → Prop} {cc : ByteArray} {maxL : Nat} {ret : Option FieldType}
    (hy : plainFor y = true) (hw : ws = Cond.code y cc maxL ret :: ws')
    (body : ∀ p e s m args below meth c s₁, BodyLoose p l y (headSpec ws rm) cc maxL ret e s m args below meth c s₁ → c.maxLocals = maxL → (∀ x ∈ c.exceptionTable.toList, False) → Pc args s →
      W p l e (headSpec ws rm).room s m args below meth c s.heap [] 0 0 (vx_MQ below Qc XC args s mc ms free) (entryFrame m args maxL)) : vx_Met l y ws rm Pc Qc XC mc ms free := by
  refine MetFree.of_bodySF (code := cc) (maxLocals := maxL) (ret := ret) hy ?_ ?_
  · intro args s m h hn
    obtain ⟨meth, c, h1, h2, h3, h4, h5, h6, -, -⟩ := Cond.code_spec hn (atoms_spec (ws := ws) h _ (by rw [hw]; exact List.mem_cons_self))
    exact ⟨meth, c, h1, h2, h3, h4, h5, h6⟩
  · intro p e s m args below meth c s₁ B hml hP _
    have hh0 : s₁.heap = s.heap := by rw [B.state]; rfl
    have ht : ∀ x ∈ c.exceptionTable.toList, False := by
      obtain ⟨meth9, c9, h1, h2, -, -, -, -, h7, -⟩ := Cond.code_spec B.named (atoms_spec (ws := ws) B.pre _ (by rw [hw]; exact List.mem_cons_self))
      cases Option.some.inj (h1.symm.trans B.method)
      cases Option.some.inj (h2.symm.trans (Stand.of_body B).code)
      intro x hx
      rw [Array.isEmpty_iff.mp h7] at hx
      cases hx
    obtain ⟨t, a1, o, b1, b2, b3⟩ := body p e s m args below meth c s₁ B hml ht hP s₁ hh0 (Stand.of_body B)
    exact ⟨t, o, a1, b1, b2, b3⟩
/-- a method's contract out of its entry -/
theorem am_met {G : am_G} {sh : List am_D} {TS NS : List Cond} {cl : List vw_C} {EX : (Nat → Prop) → State → Heap → Prop} {l : Launch} (hok : am_Ok G TS NS cl) (hEX : am_EX EX) {μ : Nat} {M : am_M} (hM : am_m G μ = some M) {av : List Value} {h : am_S} {Q : am_Q} (hlen : av.length ≤ M.2.2.1) (hcat : ∀ v ∈ av, v.category = 1) (hPW : am_PW G sh TS NS cl EX l (μ, 0, 0, am_in M.2.2.1 av, [], h) Q) (ad : Nat → Nat) (ca : Nat → ClassId) (D : va_G) (sz : Nat) :
    vx_Met l M.1 (Cond.code M.1 M.2.1 M.2.2.1 M.2.2.2.1 :: TS) M.2.2.2.2.2 (va_Pc (av.map (am_cv ad)) (fun U => U.heap.size = sz ∧ va_P D cl (am_W sh ad ca h) U.heap ∧ va_K D cl (am_ty ca) U ∧ va_D (fun _ => True) (am_W sh ad ca h) ∧ (∀ w ∈ NS, va_Nw w U) ∧ EX (va_A (am_W sh ad ca h) sz) U U.heap))
      (fun _ st oc t => (∃ (h' : am_S) (r : Option Value), oc = .returned (r.map (am_cv ad)) ∧ Q h' (.inl r) ∧ va_P D cl (am_W sh ad ca h') t.heap ∧ va_D (va_A (am_W sh ad ca h) sz) (am_W sh ad ca h')) ∧ va_F (va_A (am_W sh ad ca h) sz) st t)
      (fun E st t => ∃ h' : am_S, Q h' (.inr E) ∧ va_P D cl (am_W sh ad ca h') t.heap ∧ va_D (va_A (am_W sh ad ca h) sz) (am_W sh ad ca h') ∧ va_F (va_A (am_W sh ad ca h) sz) st t)
      M.2.2.2.2.2.cells M.2.2.2.2.2.slots (va_A (am_W sh ad ca h) sz) := by
  refine am_ofW (cc := M.2.1) (maxL := M.2.2.1) (ret := M.2.2.2.1) (hok.2.1 μ M hM).1 rfl ?_
  intro p e s m args below meth cd s₁ B hml hnoex hv
  obtain ⟨rfl, hsz, hP, hK, hD0, hns, hE⟩ := hv
  have hts := atoms_spec (ws := Cond.code M.1 M.2.1 M.2.2.1 M.2.2.2.1 :: TS) B.pre
  have hcat' : ∀ v ∈ av.map (am_cv ad), v.category = 1 := fun v hv => by
    obtain ⟨w, hw, rfl⟩ := List.mem_map.mp hv
    rw [am_cv_cat]
    exact hcat w hw
  have hlen' : (lg_sl (av.map (am_cv ad))).length ≤ M.2.2.1 := by rw [am_sl1 hcat', List.length_map]; exact hlen
  have hl0 := lv_entry (av.map (am_cv ad)) (n := M.2.2.1) hlen'
  rw [lg_entry_eq]
  generalize (lg_sl (av.map (am_cv ad)) ++ List.replicate (M.2.2.1 - (lg_sl (av.map (am_cv ad))).length) Slot.unset).toArray = ls at hl0 ⊢
  have hl : am_lo ad ls M.2.2.1 (am_in M.2.2.1 av) := ⟨hl0.1, hl0.2.1, fun i v hi => by
    have h1 := am_in_get hi
    have h2 := am_args1 (k := 0) (i := i) (v := am_cv ad v) hcat' (by rw [List.getElem?_map, h1]; rfl)
    rw [Nat.zero_add] at h2
    exact hl0.2.2 _ h2⟩
  refine hPW M hM p e s m _ below meth cd s.heap [] (va_A (am_W sh ad ca h) sz) ls ad ca D ⟨B.exec, B.bytes, B.returns, hml, findClass_of_methodNamed B.named, fun w hw => hts w (List.mem_cons_of_mem _ hw), hns, B.notSynchronized, hnoex⟩ hE hK hP hD0.self va_S.rf (fun q hq => Or.inr (by rw [← hsz]; exact hq)) hl _ _ ?_ ?_
  · intro h' r t hq ha hP' hD' hF
    exact ⟨⟨h', r, rfl, hq, hP', hD'⟩, hF⟩
  · intro h' E t hq ha hP' hD' hF
    exact ⟨h', hq, hP', hD', hF⟩
/-- behind a call -/
theorem am_back {G : am_G} {sh : List am_D} {TS NS : List Cond} {cl : List vw_C} {EX : (Nat → Prop) → State → Heap → Prop} {l : Launch} (hok : am_Ok G TS NS cl) {μ μ' : Nat} {M M' : am_M} (hM : am_m G μ = some M) (hM' : am_m G μ' = some M') {pc nc : Nat} {lo : List (Option Value)} {rest : List Value} {h : am_S} {Q : am_Q}
    {p : Program} {e : Env} {s : State} {m : MethodId} {args : Array Value} {below : List Frame} {meth : Method} {cd : Code} {H : Heap} {locs : List Loc} {A : Nat → Prop} {ls : Array Slot} {ad : Nat → Nat} {ca : Nat → ClassId} {D : va_G}
    (hB : am_B TS NS M p s m args meth cd) (hE : EX A s s.heap) (hK : va_K D cl (am_ty ca) s) (hD : va_D A (am_W sh ad ca h)) (hS : va_S A s.heap H locs) (hA : ∀ q, s.heap.size ≤ q → A q) (hl : am_lo ad ls M.2.2.1 lo) {Qc : Array Value → State → Outcome → State → Prop} {XC : String → State → State → Prop}
    (hQ : ∀ (h' : am_S) (r : Option Value) (t : State), Q h' (.inl r) → s.vm.Alike t.vm → va_P D cl (am_W sh ad ca h') t.heap → va_D A (am_W sh ad ca h') → va_F A s t → Qc args s (.returned (r.map (am_cv ad))) t)
    (hX : ∀ (h' : am_S) (E : String) (t : State), Q h' (.inr E) → s.vm.Alike t.vm → va_P D cl (am_W sh ad ca h') t.heap → va_D A (am_W sh ad ca h') → va_F A s t → XC E s t)
    (hn : nc + M'.2.2.2.2.2.cells ≤ M.2.2.2.2.2.cells) {st0 : List Value} {a : Array Value}
    (hr : vx_Run p l e M.2.2.2.2.2 s m args below meth cd H locs nc (6 * nc) M'.2.2.2.2.2.cells M'.2.2.2.2.2.slots (F0 m pc ls st0) (rest.map (am_cv ad))
      ((fun (_ : Array Value) st oc t => (∃ (h' : am_S) (r : Option Value), oc = .returned (r.map (am_cv ad)) ∧ am_k Q (fun h' r => am_PW G sh TS NS cl EX l (μ, pc + 3, nc + am_nc G μ', lo, r.toList ++ rest, h') Q) h' (.inl r) ∧ va_P D cl (am_W sh ad ca h') t.heap ∧ va_D (va_A (am_W sh ad ca h) H.size) (am_W sh ad ca h')) ∧ va_F (va_A (am_W sh ad ca h) H.size) st t) a)
      (fun E st t => ∃ h' : am_S, am_k Q (fun h' r => am_PW G sh TS NS cl EX l (μ, pc + 3, nc + am_nc G μ', lo, r.toList ++ rest, h') Q) h' (.inr E) ∧ va_P D cl (am_W sh ad ca h') t.heap ∧ va_D (va_A (am_W sh ad ca h) H.size) (am_W sh ad ca h') ∧ va_F (va_A (am_W sh ad ca h) H.size) st t)
      (va_A (am_W sh ad ca h) H.size)) :
    W p l e M.2.2.2.2.2 s m args below meth cd H locs nc (6 * nc) (vx_MQ below Qc XC args s M.2.2.2.2.2.cells M.2.2.2.2.2.slots A) (F0 m pc ls st0) := by
  have hAA : ∀ q, va_A (am_W sh ad ca h) H.size q → A q := fun q hq => by
    rcases hq with ⟨k, e9, hk⟩ | hq
    · exact hD.2 k (q, e9) hk
    · exact hA q (Nat.le_trans hS.1 hq)
  have hsl := (hok.2.1 μ M hM).2.2.2.2
  have hsl' := (hok.2.1 μ' M' hM').2.2.2.2
  intro T hT X
  rcases hr T hT X with ⟨v, st₀, t, T', L, h0, X', hL, e1, e2, ⟨⟨h', r, hv, hPW, hP', hD'⟩, hF⟩, st⟩ | ⟨q, st₀, t, T', L, E, ce, h0, X', hL, e1, e2, ⟨h', hq, hP', hD', hF⟩, hce, hcv, hcl, st⟩
  · cases hv
    obtain ⟨k1, k2, k3⟩ := vx_keep h0 e1 hS (fun q _ z => hAA q z) hAA hL hF
    have X2 : Stand p l e M.2.2.2.2.2 s m args below meth cd T' (locs ++ L) (nc + am_nc G μ') (6 * (nc + am_nc G μ')) := by
      rw [am_nc_of hM', Nat.mul_add, ← hsl']
      exact X'
    obtain ⟨t2, a1, b1⟩ := hPW M hM p e s m args below meth cd T'.heap (locs ++ L) A ls ad ca D hB hE hK (by rw [e1]; exact hP') (hD'.weaken (fun _ _ _ z => hAA _ z)) k3 hA hl Qc XC hQ hX T' rfl X2
    refine ⟨t2, st t2 ?_, b1⟩
    have hst : (r.map (am_cv ad)).toList ++ rest.map (am_cv ad) = (r.toList ++ rest).map (am_cv ad) := by cases r <;> rfl
    show Steps p.tables e below (T'.setTop { (F0 m pc ls st0) with pc := pc + 3, stack := (r.map (am_cv ad)).toList ++ rest.map (am_cv ad) }) t2
    rw [hst]
    exact a1
  · obtain ⟨k1, k2, k3⟩ := vx_keep h0 e1 hS (fun q _ z => hAA q z) hAA hL hF
    obtain ⟨t2, a1, b1⟩ := vx_out (Qc := Qc) (XC := XC) (free := A) (pc := pc) (ls := ls) (rest := rest.map (am_cv ad)) (mc := M.2.2.2.2.2.cells) (ms := M.2.2.2.2.2.slots) (fun x hx => (hB.2.2.2.2.2.2.2.2 x hx).elim) hB.2.2.2.2.2.2.2.1 (show T'.heap[q]? = some ce by rw [e1]; exact hce) hcv hcl
      (fun t9 ht9 ha9 => hX h' E t9 hq ha9 (by rw [ht9, e1]; exact hP') (hD'.weaken (fun _ _ _ z => hAA _ z)) (k3.F ht9)) k3.2.2 hn (by rw [hsl, hsl', ← Nat.mul_add]; exact Nat.mul_le_mul_left 6 hn) T' rfl X'
    exact ⟨t2, st.trans a1, b1⟩
theorem am_pre {G : am_G} {sh : List am_D} {TS NS : List Cond} {cl : List vw_C} {EX : (Nat → Prop) → State → Heap → Prop} {l : Launch} (hEX : am_EX EX) {M' : am_M} {av : List Value} {h : am_S} {s : State} {H : Heap} {locs : List Loc} {A : Nat → Prop} {ad : Nat → Nat} {ca : Nat → ClassId} {D : va_G} (hNS : ∀ w ∈ NS, ∀ {u U : State}, u.WarmedH U.vm → va_Nw w u → va_Nw w U)
    (hE : EX A s s.heap) (hns : ∀ w ∈ NS, va_Nw w s) (hK : va_K D cl (am_ty ca) s) (hP : va_P D cl (am_W sh ad ca h) H) (hD : va_D A (am_W sh ad ca h)) (hS : va_S A s.heap H locs) (hA : ∀ q, s.heap.size ≤ q → A q) :
    PreS s H (va_Pc (av.map (am_cv ad)) (fun U => U.heap.size = H.size ∧ va_P D cl (am_W sh ad ca h) U.heap ∧ va_K D cl (am_ty ca) U ∧ va_D (fun _ => True) (am_W sh ad ca h) ∧ (∀ w ∈ NS, va_Nw w U) ∧ EX (va_A (am_W sh ad ca h) H.size) U U.heap)) (av.map (am_cv ad)) := by
  have hAA : ∀ q, va_A (am_W sh ad ca h) H.size q → A q := fun q hq => by
    rcases hq with ⟨k, e9, hk⟩ | hq
    · exact hD.2 k (q, e9) hk
    · exact hA q (Nat.le_trans hS.1 hq)
  refine ⟨fun a U g mk q => ?_, fun U hU hW => ⟨rfl, by rw [hU], by rw [hU]; exact hP, va_K.moved hW.alike hK, hD.weaken (fun _ _ _ _ => trivial), fun w hw => hNS w hw hW (hns w hw), hEX A _ s U s.heap U.heap hE hW (fun a h1 h2 => by rw [hU]; exact hS.2.1 a h1 h2) hAA⟩⟩
  obtain ⟨q0, q1, q2, q3, q4, q5, q6⟩ := q
  exact ⟨q0, q1, q2, va_K.moved (u := U) (U := U.calling g mk a) (Vm.Alike.refl U.vm) q3, q4, fun w hw => hNS w hw (u := U) (U := U.calling g mk a) (State.WarmedH.refl U) (q5 w hw), hEX _ _ U (U.calling g mk a) U.heap U.heap q6 (State.WarmedH.refl U) (fun _ _ _ => rfl) (fun _ z => z)⟩

set_option maxHeartbeats 1000000 in
theorem am_r_invokevirtual {G : am_G} {sh : List am_D} {TS NS : List Cond} {cl : List vw_C} {EX : (Nat → Prop) → State → Heap → Prop} {l : Launch} (hok : am_Ok G TS NS cl) (hsh : am_Sh cl sh) {μ pc len tg nc : Nat} {lo : List (Option Value)} {st : List Value} {h : am_S} {Q : am_Q} (hEX : am_EX EX) (hNS : ∀ w ∈ NS, ∀ {u U : State}, u.WarmedH U.vm → va_Nw w u → va_Nw w U) {ix : Nat} (hc : am_code G μ pc = some (.invokevirtual ix, len, tg))
    (hF : am_go (am_PW G sh TS NS cl EX l) (am_PW G sh TS NS cl EX l) (am_op G sh μ pc len tg nc lo st h (.invokevirtual ix)) Q) : am_PW G sh TS NS cl EX l (μ, pc, nc, lo, st, h) Q := by
  intro M hM p e s m args below meth cd H locs A ls ad ca D hB hE hK hP hD hS hA hl Qc XC hQ hX
  obtain ⟨hdec, hln, htg⟩ := am_code_spec hM hc
  obtain ⟨hx, hb, hr, hml, hown, hts, hns, hlocks, hnoex⟩ := id hB
  have go : ∀ (pc' nc' : Nat) (st' : List Value), am_PW G sh TS NS cl EX l (μ, pc', nc', lo, st', h) Q → W p l e M.2.2.2.2.2 s m args below meth cd H locs nc' (6 * nc') (vx_MQ below Qc XC args s M.2.2.2.2.2.cells M.2.2.2.2.2.slots A) (F0 m pc' ls (st'.map (am_cv ad))) :=
    fun pc' nc' st' k => k M hM p e s m args below meth cd H locs A ls ad ca D hB hE hK hP hD hS hA hl Qc XC hQ hX
  obtain rfl : len = 3 := by simpa [am_ln] using hln
  dsimp only [am_op] at hF
  split at hF
  · rename_i μ' n hcal
    obtain ⟨M', hM', hlk, hinst, hsel, hdesc, hfr, hlo, T9, N9, hcl9⟩ := hok.2.2.2.1 μ M ix μ' n hM hcal
    cases hpp : am_pp (n + 1) st [] with
    | none => simp only [am_inv, hpp] at hF; exact hF.elim
    | some q =>
      obtain ⟨av, rest⟩ := q
      simp only [am_inv, hpp] at hF
      obtain ⟨⟨hrc, hct, hnl, hn⟩, hPW⟩ := hF
      obtain ⟨pre, rfl, hav, hpl, hpc⟩ := am_pp_spec hpp
      rw [List.append_nil] at hav
      subst hav
      rw [am_nc_of hM', am_nc_of hM] at hn
      rw [am_ml_of hM'] at hnl
      rw [am_ml_of hM'] at hPW
      have hcat : ∀ v ∈ pre.reverse, v.category = 1 := fun v hv => hpc v (List.mem_reverse.mp hv)
      have hmet := am_met hok hEX hM' (by rw [List.length_reverse, hpl]; exact hnl) hcat hPW ad ca D H.size
      have hmok := hok.2.1 μ' M' hM'
      have hmok0 := hok.2.1 μ M hM
      have hpar : ∀ sig, parseMethodDescriptor M'.1.desc = some sig → n = sig.parameters.length := fun sig h9 => by
        rw [h9] at hdesc
        exact (Option.some.inj hdesc).symm
      have hcb : CallB M.2.2.2.2.2 s args M.1.cls ix M'.1 M'.2.1 M'.2.2.1 M'.2.2.2.1 (Cond.code M'.1 M'.2.1 M'.2.2.1 M'.2.2.2.1 :: TS) M'.2.2.2.2.2 M'.2.2.2.2.2.cells M'.2.2.2.2.2.slots n := by
        refine ⟨rfl, rfl, hfr, hlo, fun w hw a' U hW => ?_, List.mem_cons_self, hts _ hmok.2.1, hts _ hmok.2.2.1, hmok.2.2.2.1, hpar, hts _ hlk⟩
        rcases List.mem_cons.mp hw with rfl | hw
        · exact word_at hW (good_of_word (hok.1 _ hmok.2.1)) (hts _ hmok.2.1)
        · exact word_at hW (good_of_word (hok.1 _ hw)) (hts w hw)
      have hps := am_pre (l := l) (G := G) (TS := TS) (M' := M') hEX (av := pre.reverse) hNS hE hns hK hP hD hS hA
      have hf : nc + M'.2.2.2.2.2.cells ≤ M.2.2.2.2.2.cells ∧ 6 * nc + M'.2.2.2.2.2.slots ≤ M.2.2.2.2.2.slots := ⟨hn, by rw [hmok.2.2.2.2, hmok0.2.2.2.2, ← Nat.mul_add]; exact Nat.mul_le_mul_left 6 hn⟩
      have hst8 : ((rest.map (am_cv ad)).map fun v => v.category).sum ≤ 8 := by rw [am_ct_map]; exact hct
      have hrc := hrc (by omega)
      rw [am_oc_of hM'] at hrc
      obtain ⟨o, ps, hpr⟩ : ∃ o ps, pre.reverse = .ref o :: ps := by
        cases hz : pre.reverse with
        | nil => rw [hz] at hrc; exact hrc.elim
        | cons v ps =>
          rw [hz] at hrc
          cases v with
          | ref o => exact ⟨o, ps, rfl⟩
          | _ => exact hrc.elim
      rw [hpr] at hrc hmet hps
      have hpre : pre = ps.reverse ++ [.ref o] := by rw [← List.reverse_reverse pre, hpr]; simp
      simp only [am_rc] at hrc
      split at hrc
      · rename_i ci fs hso
        subst hrc
        have hlen : ps.length = n := by rw [hpre] at hpl; simpa using hpl
        have hrec := va_recv hK hP hcl9 (am_W_get hso)
        refine am_back hok hM hM' hB hE hK hD hS hA hl hQ hX hn (a := (Value.ref (ad o) :: ps.map (am_cv ad)).toArray) (rest := rest) (vx_runV (C := M'.1.cls) (b := ad o) (As := ps.map (am_cv ad)) (rest := rest.map (am_cv ad)) ⟨hx, hb, hml, hown, hts⟩ hmet ⟨hcb, hts _ hinst, hts _ hsel⟩ ⟨hps.1, hrec, hps.2⟩ rfl (by rw [List.length_map]; exact hlen) hl.1 ?_ (lv_room hst8) hdec hf)
        rw [hpre]
        simp [am_cv]
      · exact hrc.elim
  · exact hF.elim

set_option maxHeartbeats 1000000 in
theorem am_r_invokestatic {G : am_G} {sh : List am_D} {TS NS : List Cond} {cl : List vw_C} {EX : (Nat → Prop) → State → Heap → Prop} {l : Launch} (hok : am_Ok G TS NS cl) (hsh : am_Sh cl sh) {μ pc len tg nc : Nat} {lo : List (Option Value)} {st : List Value} {h : am_S} {Q : am_Q} (hEX : am_EX EX) (hNS : ∀ w ∈ NS, ∀ {u U : State}, u.WarmedH U.vm → va_Nw w u → va_Nw w U) {ix : Nat} (hc : am_code G μ pc = some (.invokestatic ix, len, tg))
    (hF : am_go (am_PW G sh TS NS cl EX l) (am_PW G sh TS NS cl EX l) (am_op G sh μ pc len tg nc lo st h (.invokestatic ix)) Q) : am_PW G sh TS NS cl EX l (μ, pc, nc, lo, st, h) Q := by
  intro M hM p e s m args below meth cd H locs A ls ad ca D hB hE hK hP hD hS hA hl Qc XC hQ hX
  obtain ⟨hdec, hln, htg⟩ := am_code_spec hM hc
  obtain ⟨hx, hb, hr, hml, hown, hts, hns, hlocks, hnoex⟩ := id hB
  have go : ∀ (pc' nc' : Nat) (st' : List Value), am_PW G sh TS NS cl EX l (μ, pc', nc', lo, st', h) Q → W p l e M.2.2.2.2.2 s m args below meth cd H locs nc' (6 * nc') (vx_MQ below Qc XC args s M.2.2.2.2.2.cells M.2.2.2.2.2.slots A) (F0 m pc' ls (st'.map (am_cv ad))) :=
    fun pc' nc' st' k => k M hM p e s m args below meth cd H locs A ls ad ca D hB hE hK hP hD hS hA hl Qc XC hQ hX
  obtain rfl : len = 3 := by simpa [am_ln] using hln
  dsimp only [am_op] at hF
  split at hF
  · rename_i μ' n hcal
    obtain ⟨M', hM', hlk, hstat, hdesc, hfr, hlo⟩ := hok.2.2.2.2.1 μ M ix μ' n hM hcal
    cases hpp : am_pp n st [] with
    | none => simp only [am_inv, hpp] at hF; exact hF.elim
    | some q =>
      obtain ⟨av, rest⟩ := q
      simp only [am_inv, hpp] at hF
      obtain ⟨⟨hrc, hct, hnl, hn⟩, hPW⟩ := hF
      obtain ⟨pre, rfl, hav, hpl, hpc⟩ := am_pp_spec hpp
      rw [List.append_nil] at hav
      subst hav
      rw [am_nc_of hM', am_nc_of hM] at hn
      rw [am_ml_of hM'] at hnl
      rw [am_ml_of hM'] at hPW
      have hcat : ∀ v ∈ pre.reverse, v.category = 1 := fun v hv => hpc v (List.mem_reverse.mp hv)
      have hmet := am_met hok hEX hM' (by rw [List.length_reverse, hpl]; exact hnl) hcat hPW ad ca D H.size
      have hmok := hok.2.1 μ' M' hM'
      have hmok0 := hok.2.1 μ M hM
      have hpar : ∀ sig, parseMethodDescriptor M'.1.desc = some sig → n = sig.parameters.length := fun sig h9 => by
        rw [h9] at hdesc
        exact (Option.some.inj hdesc).symm
      have hcb : CallB M.2.2.2.2.2 s args M.1.cls ix M'.1 M'.2.1 M'.2.2.1 M'.2.2.2.1 (Cond.code M'.1 M'.2.1 M'.2.2.1 M'.2.2.2.1 :: TS) M'.2.2.2.2.2 M'.2.2.2.2.2.cells M'.2.2.2.2.2.slots n := by
        refine ⟨rfl, rfl, hfr, hlo, fun w hw a' U hW => ?_, List.mem_cons_self, hts _ hmok.2.1, hts _ hmok.2.2.1, hmok.2.2.2.1, hpar, hts _ hlk⟩
        rcases List.mem_cons.mp hw with rfl | hw
        · exact word_at hW (good_of_word (hok.1 _ hmok.2.1)) (hts _ hmok.2.1)
        · exact word_at hW (good_of_word (hok.1 _ hw)) (hts w hw)
      have hps := am_pre (l := l) (G := G) (TS := TS) (M' := M') hEX (av := pre.reverse) hNS hE hns hK hP hD hS hA
      have hf : nc + M'.2.2.2.2.2.cells ≤ M.2.2.2.2.2.cells ∧ 6 * nc + M'.2.2.2.2.2.slots ≤ M.2.2.2.2.2.slots := ⟨hn, by rw [hmok.2.2.2.2, hmok0.2.2.2.2, ← Nat.mul_add]; exact Nat.mul_le_mul_left 6 hn⟩
      have hst8 : ((rest.map (am_cv ad)).map fun v => v.category).sum ≤ 8 := by rw [am_ct_map]; exact hct
      refine am_back hok hM hM' hB hE hK hD hS hA hl hQ hX hn (a := (pre.reverse.map (am_cv ad)).toArray) (rest := rest) (vx_runS (As := pre.reverse.map (am_cv ad)) (rest := rest.map (am_cv ad)) ⟨hx, hb, hml, hown, hts⟩ hmet ⟨hcb, hts _ hstat⟩ hps rfl (by rw [List.length_map, List.length_reverse]; exact hpl) hl.1 ?_ (lv_room hst8) hdec hf)
      simp [List.map_reverse]
  · rename_i a9 b9 hcal
    obtain ⟨k1, k2, k3, k4, k5, k6⟩ := hok.2.2.2.2.2.1 μ M ix a9 b9 hM hcal
    split at hF
    · have hcn := hF.1.2
      rw [am_nc_of hM] at hcn
      exact va_mmax hx hb (hml.trans hl.1.symm) hown (hts _ k1) (hts _ k2) (hts _ k3) (hts _ k4) k5 (am_ctr hF.1.1 (by omega)) hcn (by rw [(hok.2.1 μ M hM).2.2.2.2]; exact Nat.mul_le_mul_left 6 hcn) hdec (go _ _ _ (hF.2.1 trivial))
    · exact hF.elim
  · rename_i a9 b9 hcal
    obtain ⟨k1, k2, k3, k4, k5, k6⟩ := hok.2.2.2.2.2.2.1 μ M ix a9 b9 hM hcal
    split at hF
    · have hcn := hF.1.2
      rw [am_nc_of hM] at hcn
      exact va_mmin hx hb (hml.trans hl.1.symm) hown (hts _ k1) (hts _ k2) (hts _ k3) (hts _ k4) k5 (am_ctr hF.1.1 (by omega)) hcn (by rw [(hok.2.1 μ M hM).2.2.2.2]; exact Nat.mul_le_mul_left 6 hcn) hdec (go _ _ _ (hF.2.1 trivial))
    · exact hF.elim
  · rename_i a9 b9 hcal
    obtain ⟨k1, k2, k3, k4, k5, k6⟩ := hok.2.2.2.2.2.2.2.1 μ M ix a9 b9 hM hcal
    split at hF
    · have hcn := hF.1.2
      rw [am_nc_of hM] at hcn
      exact va_mmin_long hx hb (hml.trans hl.1.symm) hown (hts _ k1) (hts _ k2) (hts _ k3) (hts _ k4) k5 (am_ctr hF.1.1 (by omega)) hcn (by rw [(hok.2.1 μ M hM).2.2.2.2]; exact Nat.mul_le_mul_left 6 hcn) hdec (go _ _ _ (hF.2.1 trivial))
    · exact hF.elim
  · exact hF.elim

set_option maxHeartbeats 4000000 in
theorem am_sound {G : am_G} {sh : List am_D} {TS NS : List Cond} {cl : List vw_C} {EX : (Nat → Prop) → State → Heap → Prop} {l : Launch} (hok : am_Ok G TS NS cl) (hsh : am_Sh cl sh) (hEX : am_EX EX) (hNS : ∀ w ∈ NS, ∀ {u U : State}, u.WarmedH U.vm → va_Nw w u → va_Nw w U) (hth : am_TH G TS NS EX l) (c : am_C) (Q : am_Q) (hF : am_go (am_PW G sh TS NS cl EX l) (am_PW G sh TS NS cl EX l) (am_step G sh c) Q) : am_PW G sh TS NS cl EX l c Q := by
  obtain ⟨μ, pc, nc, lo, st, h⟩ := c
  cases hc : am_code G μ pc with
  | none => simp only [am_step, hc] at hF; exact hF.elim
  | some z =>
    obtain ⟨i, len, tg⟩ := z
    simp only [am_step, hc] at hF
    cases i with
    | iconst v => exact am_r_iconst hok hsh hc hF
    | bipush v => exact am_r_bipush hok hsh hc hF
    | sipush v => exact am_r_sipush hok hsh hc hF
    | lconst v => exact am_r_lconst hok hsh hc hF
    | ldc ix => exact am_r_ldc hok hsh hc hF
    | ldc2_w ix => exact am_r_ldc2 hok hsh hc hF
    | iload_n k => exact am_r_iload_n hok hsh hc hF
    | iload k => exact am_r_iload hok hsh hc hF
    | istore_n k => exact am_r_istore_n hok hsh hc hF
    | istore k => exact am_r_istore hok hsh hc hF
    | lload_n k => exact am_r_lload_n hok hsh hc hF
    | lload k => exact am_r_lload hok hsh hc hF
    | lstore_n k => exact am_r_lstore_n hok hsh hc hF
    | lstore k => exact am_r_lstore hok hsh hc hF
    | aload_n k => exact am_r_aload_n hok hsh hc hF
    | aload k => exact am_r_aload hok hsh hc hF
    | astore_n k => exact am_r_astore_n hok hsh hc hF
    | astore k => exact am_r_astore hok hsh hc hF
    | iinc k v => exact am_r_iinc hok hsh hc hF
    | iadd => exact am_r_iadd hok hsh hc hF
    | isub => exact am_r_isub hok hsh hc hF
    | imul => exact am_r_imul hok hsh hc hF
    | iand => exact am_r_iand hok hsh hc hF
    | ixor => exact am_r_ixor hok hsh hc hF
    | ladd => exact am_r_ladd hok hsh hc hF
    | irem => exact am_r_irem hok hsh hc hF
    | i2l => exact am_r_i2l hok hsh hc hF
    | l2i => exact am_r_l2i hok hsh hc hF
    | dup => exact am_r_dup hok hsh hc hF
    | pop => exact am_r_pop hok hsh hc hF
    | dup2 => exact am_r_dup2 hok hsh hc hF
    | dup_x1 => exact am_r_dup_x1 hok hsh hc hF
    | goto off => exact am_r_goto hok hsh hc hF
    | ifCond cc off => exact am_r_ifCond hok hsh hc hF
    | if_icmp cc off => exact am_r_if_icmp hok hsh hc hF
    | getfield ix => exact am_r_getfield hok hsh hc hF
    | putfield ix => exact am_r_putfield hok hsh hc hF
    | iaload => exact am_r_iaload hok hsh hc hF
    | baload => exact am_r_baload hok hsh hc hF
    | iastore => exact am_r_iastore hok hsh hc hF
    | bastore => exact am_r_bastore hok hsh hc hF
    | arraylength => exact am_r_arraylength hok hsh hc hF
    | ireturn => exact am_r_ireturn hok hsh hc hF
    | return_ => exact am_r_return hok hsh hc hF
    | new ix => exact am_r_new hok hsh hth hc hF
    | tableswitch d lw up offs => exact am_r_tableswitch hok hsh hc hF
    | invokevirtual ix => exact am_r_invokevirtual hok hsh hEX hNS hc hF
    | invokestatic ix => exact am_r_invokestatic hok hsh hEX hNS hc hF
    | _ => exact hF.elim
theorem am_AW.sound {G : am_G} {sh : List am_D} {TS NS : List Cond} {cl : List vw_C} {EX : (Nat → Prop) → State → Heap → Prop} {l : Launch} (hok : am_Ok G TS NS cl) (hsh : am_Sh cl sh) (hEX : am_EX EX) (hNS : ∀ w ∈ NS, ∀ {u U : State}, u.WarmedH U.vm → va_Nw w u → va_Nw w U) (hth : am_TH G TS NS EX l) {c : am_C} {Q : am_Q} (h : am_AW G sh c Q) : am_PW G sh TS NS cl EX l c Q :=
  h _ (am_PW_mono G sh TS NS cl EX l) (am_sound hok hsh hEX hNS hth)
end
section
/-! TABLES of the abstract machine for this system, laid by a program (wip/whole/mk04.py) out of the Statement's words. Classes: 0 Groups, 1 Told, 2 Twins, 3 Walk, 4 TermNet, 5 TermNetModel, 6 Math, 7 Arrays. -/
theorem tn_lk {β : Type} {k : Nat × Nat} {v : β} : ∀ {l : List ((Nat × Nat) × β)}, l.lookup k = some v → (k, v) ∈ l
  | [], h => by simp at h
  | (a, b) :: l, h => by
    simp only [List.lookup] at h
    split at h
    · rename_i e
      cases h
      have := eq_of_beq e
      subst this
      exact List.mem_cons_self
    · exact List.mem_cons_of_mem _ (tn_lk h)
def tn_TS : List Cond := lw_tbl.filter goodWord
theorem tn_in {w : Cond} (i : Nat) (h : lw_tbl[i]? = some w) (g : goodWord w = true) : w ∈ tn_TS := List.mem_filter.mpr ⟨List.mem_of_getElem? h, g⟩
def tn_R0 : String := "TermNet$Groups"
def tn_T0 : u_T := fun k => match k with
  | 0 => ("TermNet$Groups", "told", "LTermNet$Told;", true)
  | 1 => ("TermNet$Groups", "leader", "[I", true)
  | 2 => ("TermNet$Groups", "ring", "[I", true)
  | 3 => ("TermNet$Groups", "shape", "[I", true)
  | 4 => ("TermNet$Groups", "trail", "[I", true)
  | _ => ("TermNet$Groups", "merges", "I", false)
def tn_ty0 : Nat → FieldType := fun k => match k with
  | 0 => .object "TermNet$Told"
  | 1 => .array .int
  | 2 => .array .int
  | 3 => .array .int
  | 4 => .array .int
  | _ => .int
theorem tn_nm0 : ∀ a, a < 6 → ∀ b, b < 6 → a ≠ b → (tn_T0 a).2.1 ≠ (tn_T0 b).2.1 := by decide +kernel
theorem tn_to0 : ∀ k, k < 6 → parseFieldDescriptor (tn_T0 k).2.2.1 = some (tn_ty0 k) := by decide +kernel
theorem tn_iw0 : ∀ w ∈ u_ws tn_R0 tn_T0 6, w ∈ tn_TS := fun w h => List.mem_filter.mpr ⟨(by decide +kernel : ∀ w ∈ u_ws tn_R0 tn_T0 6, w ∈ lw_tbl) w h, (by decide +kernel : ∀ w ∈ u_ws tn_R0 tn_T0 6, goodWord w = true) w h⟩
def tn_R1 : String := "TermNet$Told"
def tn_T1 : u_T := fun k => match k with
  | 0 => ("TermNet$Told", "partsOfSign", "[I", true)
  | 1 => ("TermNet$Told", "signOf", "[I", true)
  | 2 => ("TermNet$Told", "parts", "[I", true)
  | 3 => ("TermNet$Told", "signs", "I", false)
  | _ => ("TermNet$Told", "terms", "I", false)
def tn_ty1 : Nat → FieldType := fun k => match k with
  | 0 => .array .int
  | 1 => .array .int
  | 2 => .array .int
  | 3 => .int
  | _ => .int
theorem tn_nm1 : ∀ a, a < 5 → ∀ b, b < 5 → a ≠ b → (tn_T1 a).2.1 ≠ (tn_T1 b).2.1 := by decide +kernel
theorem tn_to1 : ∀ k, k < 5 → parseFieldDescriptor (tn_T1 k).2.2.1 = some (tn_ty1 k) := by decide +kernel
theorem tn_iw1 : ∀ w ∈ u_ws tn_R1 tn_T1 5, w ∈ tn_TS := fun w h => List.mem_filter.mpr ⟨(by decide +kernel : ∀ w ∈ u_ws tn_R1 tn_T1 5, w ∈ lw_tbl) w h, (by decide +kernel : ∀ w ∈ u_ws tn_R1 tn_T1 5, goodWord w = true) w h⟩
def tn_R2 : String := "TermNet$Twins"
def tn_T2 : u_T := fun k => match k with
  | 0 => ("TermNet$Twins", "groups", "LTermNet$Groups;", true)
  | 1 => ("TermNet$Twins", "first", "[I", true)
  | 2 => ("TermNet$Twins", "next", "[I", true)
  | _ => ("TermNet$Twins", "print", "[I", true)
def tn_ty2 : Nat → FieldType := fun k => match k with
  | 0 => .object "TermNet$Groups"
  | 1 => .array .int
  | 2 => .array .int
  | _ => .array .int
theorem tn_nm2 : ∀ a, a < 4 → ∀ b, b < 4 → a ≠ b → (tn_T2 a).2.1 ≠ (tn_T2 b).2.1 := by decide +kernel
theorem tn_to2 : ∀ k, k < 4 → parseFieldDescriptor (tn_T2 k).2.2.1 = some (tn_ty2 k) := by decide +kernel
theorem tn_iw2 : ∀ w ∈ u_ws tn_R2 tn_T2 4, w ∈ tn_TS := fun w h => List.mem_filter.mpr ⟨(by decide +kernel : ∀ w ∈ u_ws tn_R2 tn_T2 4, w ∈ lw_tbl) w h, (by decide +kernel : ∀ w ∈ u_ws tn_R2 tn_T2 4, goodWord w = true) w h⟩
def tn_R3 : String := "TermNet$Walk"
def tn_T3 : u_T := fun k => match k with
  | 0 => ("TermNet$Walk", "groups", "LTermNet$Groups;", true)
  | 1 => ("TermNet$Walk", "state", "[I", true)
  | 2 => ("TermNet$Walk", "partsTried", "[I", true)
  | 3 => ("TermNet$Walk", "path", "[I", true)
  | 4 => ("TermNet$Walk", "order", "[I", true)
  | 5 => ("TermNet$Walk", "value", "[I", true)
  | 6 => ("TermNet$Walk", "pathLength", "I", false)
  | _ => ("TermNet$Walk", "ordered", "I", false)
def tn_ty3 : Nat → FieldType := fun k => match k with
  | 0 => .object "TermNet$Groups"
  | 1 => .array .int
  | 2 => .array .int
  | 3 => .array .int
  | 4 => .array .int
  | 5 => .array .int
  | 6 => .int
  | _ => .int
theorem tn_nm3 : ∀ a, a < 8 → ∀ b, b < 8 → a ≠ b → (tn_T3 a).2.1 ≠ (tn_T3 b).2.1 := by decide +kernel
theorem tn_to3 : ∀ k, k < 8 → parseFieldDescriptor (tn_T3 k).2.2.1 = some (tn_ty3 k) := by decide +kernel
theorem tn_iw3 : ∀ w ∈ u_ws tn_R3 tn_T3 8, w ∈ tn_TS := fun w h => List.mem_filter.mpr ⟨(by decide +kernel : ∀ w ∈ u_ws tn_R3 tn_T3 8, w ∈ lw_tbl) w h, (by decide +kernel : ∀ w ∈ u_ws tn_R3 tn_T3 8, goodWord w = true) w h⟩
def tn_R4 : String := "TermNet"
def tn_T4 : u_T := fun k => match k with
  | 0 => ("TermNet", "told", "LTermNet$Told;", true)
  | 1 => ("TermNet", "groups", "LTermNet$Groups;", true)
  | 2 => ("TermNet", "walk", "LTermNet$Walk;", true)
  | 3 => ("TermNet", "twins", "LTermNet$Twins;", true)
  | 4 => ("TermNet", "pointTerms", "[I", true)
  | 5 => ("TermNet", "pointMerges", "[I", true)
  | 6 => ("TermNet", "pointEquations", "[I", true)
  | 7 => ("TermNet", "points", "I", false)
  | _ => ("TermNet", "equations", "I", false)
def tn_ty4 : Nat → FieldType := fun k => match k with
  | 0 => .object "TermNet$Told"
  | 1 => .object "TermNet$Groups"
  | 2 => .object "TermNet$Walk"
  | 3 => .object "TermNet$Twins"
  | 4 => .array .int
  | 5 => .array .int
  | 6 => .array .int
  | 7 => .int
  | _ => .int
theorem tn_nm4 : ∀ a, a < 9 → ∀ b, b < 9 → a ≠ b → (tn_T4 a).2.1 ≠ (tn_T4 b).2.1 := by decide +kernel
theorem tn_to4 : ∀ k, k < 9 → parseFieldDescriptor (tn_T4 k).2.2.1 = some (tn_ty4 k) := by decide +kernel
theorem tn_iw4 : ∀ w ∈ u_ws tn_R4 tn_T4 9, w ∈ tn_TS := fun w h => List.mem_filter.mpr ⟨(by decide +kernel : ∀ w ∈ u_ws tn_R4 tn_T4 9, w ∈ lw_tbl) w h, (by decide +kernel : ∀ w ∈ u_ws tn_R4 tn_T4 9, goodWord w = true) w h⟩
def tn_R5 : String := "TermNetModel"
def tn_T5 : u_T := fun k => match k with
  | 0 => ("TermNetModel", "arity", "[I", true)
  | 1 => ("TermNetModel", "sign", "[I", true)
  | 2 => ("TermNetModel", "parts", "[I", true)
  | 3 => ("TermNetModel", "signs", "I", false)
  | 4 => ("TermNetModel", "terms", "I", false)
  | 5 => ("TermNetModel", "points", "I", false)
  | 6 => ("TermNetModel", "equations", "I", false)
  | 7 => ("TermNetModel", "thrown", "I", false)
  | 8 => ("TermNetModel", "least", "[I", true)
  | 9 => ("TermNetModel", "tried", "[I", true)
  | 10 => ("TermNetModel", "hadTerms", "[I", true)
  | 11 => ("TermNetModel", "hadEquations", "[I", true)
  | 12 => ("TermNetModel", "had", "[I", true)
  | 13 => ("TermNetModel", "known", "[I", true)
  | 14 => ("TermNetModel", "sizes", "[I", true)
  | 15 => ("TermNetModel", "depths", "[I", true)
  | 16 => ("TermNetModel", "ready", "[Z", true)
  | _ => ("TermNetModel", "in", "[Z", true)
def tn_ty5 : Nat → FieldType := fun k => match k with
  | 0 => .array .int
  | 1 => .array .int
  | 2 => .array .int
  | 3 => .int
  | 4 => .int
  | 5 => .int
  | 6 => .int
  | 7 => .int
  | 8 => .array .int
  | 9 => .array .int
  | 10 => .array .int
  | 11 => .array .int
  | 12 => .array .int
  | 13 => .array .int
  | 14 => .array .int
  | 15 => .array .int
  | 16 => .array .boolean
  | _ => .array .boolean
theorem tn_nm5 : ∀ a, a < 18 → ∀ b, b < 18 → a ≠ b → (tn_T5 a).2.1 ≠ (tn_T5 b).2.1 := by decide +kernel
theorem tn_to5 : ∀ k, k < 18 → parseFieldDescriptor (tn_T5 k).2.2.1 = some (tn_ty5 k) := by decide +kernel
theorem tn_iw5 : ∀ w ∈ u_ws tn_R5 tn_T5 18, w ∈ tn_TS := fun w h => List.mem_filter.mpr ⟨(by decide +kernel : ∀ w ∈ u_ws tn_R5 tn_T5 18, w ∈ lw_tbl) w h, (by decide +kernel : ∀ w ∈ u_ws tn_R5 tn_T5 18, goodWord w = true) w h⟩
def tn_R6 : String := "java/lang/Math"
def tn_R7 : String := "java/util/Arrays"
abbrev tn_cl : List vw_C := [(tn_R0, tn_T0, 6), (tn_R1, tn_T1, 5), (tn_R2, tn_T2, 4), (tn_R3, tn_T3, 8), (tn_R4, tn_T4, 9), (tn_R5, tn_T5, 18)]
def tn_cn : Nat → String := fun c => match c with
  | 0 => tn_R0
  | 1 => tn_R1
  | 2 => tn_R2
  | 3 => tn_R3
  | 4 => tn_R4
  | 5 => tn_R5
  | 6 => tn_R6
  | _ => tn_R7
def tn_NS : List Cond := [.fieldLinkNest "TermNet$Groups" 32 "TermNet$Told" "signOf" "[I" "TermNet", .fieldLinkNest "TermNet$Twins" 67 "TermNet$Told" "signOf" "[I" "TermNet", .fieldLinkNest "TermNet" 134 "TermNet$Told" "signOf" "[I" "TermNet", .fieldLinkNest "TermNet" 65 "TermNet$Told" "signs" "I" "TermNet", .fieldLinkNest "TermNet" 115 "TermNet$Told" "terms" "I" "TermNet", .fieldLinkNest "TermNet$Groups" 48 "TermNet$Told" "terms" "I" "TermNet", .fieldLinkNest "TermNet$Twins" 63 "TermNet$Groups" "told" "LTermNet$Told;" "TermNet", .fieldLinkNest "TermNet" 104 "TermNet$Groups" "merges" "I" "TermNet", .fieldLinkNest "TermNet$Twins" 37 "TermNet$Walk" "order" "[I" "TermNet", .fieldLinkNest "TermNet$Twins" 31 "TermNet$Walk" "ordered" "I" "TermNet"]
theorem tn_NS_warm : ∀ w ∈ tn_NS, ∀ {u U : State}, u.WarmedH U.vm → va_Nw w u → va_Nw w U := by
  intro w hw u U hW h
  simp only [tn_NS, List.mem_cons, List.not_mem_nil, or_false] at hw
  rcases hw with rfl | rfl | rfl | rfl | rfl | rfl | rfl | rfl | rfl | rfl <;> exact va_Nw.warmF hW h
theorem tn_NS_in : ∀ w ∈ tn_NS, w ∈ lw_tbl := by decide +kernel
/-- 0: TermNet$Groups.knownGroups()I -/
def tn_m0 : am_M := (⟨tn_R0, "knownGroups", "()I"⟩, prog_2_method_8_code, 3, (some .int), 0, { frames := 0, cells := 0, slots := 0, locals := 0 })
/-- 1: TermNet$Groups.found(I)V -/
def tn_m1 : am_M := (⟨tn_R0, "found", "(I)V"⟩, prog_2_method_2_code, 2, none, 0, { frames := 0, cells := 0, slots := 0, locals := 0 })
/-- 2: TermNet$Groups.joinToTwin(I)V -/
def tn_m2 : am_M := (⟨tn_R0, "joinToTwin", "(I)V"⟩, prog_2_method_16_code, 3, none, 0, { frames := 2, cells := 0, slots := 0, locals := 48 })
/-- 3: TermNet$Groups.areTwins(II)Z -/
def tn_m3 : am_M := (⟨tn_R0, "areTwins", "(II)Z"⟩, prog_2_method_17_code, 4, (some .boolean), 0, { frames := 1, cells := 0, slots := 0, locals := 22 })
/-- 4: TermNet$Groups.join(II)V -/
def tn_m4 : am_M := (⟨tn_R0, "join", "(II)V"⟩, prog_2_method_9_code, 5, none, 0, { frames := 1, cells := 0, slots := 0, locals := 24 })
/-- 5: TermNet$Groups.leadRing(II)V -/
def tn_m5 : am_M := (⟨tn_R0, "leadRing", "(II)V"⟩, prog_2_method_14_code, 5, none, 0, { frames := 0, cells := 0, slots := 0, locals := 0 })
/-- 6: TermNet$Groups.swapLinks(II)V -/
def tn_m6 : am_M := (⟨tn_R0, "swapLinks", "(II)V"⟩, prog_2_method_15_code, 4, none, 0, { frames := 0, cells := 0, slots := 0, locals := 0 })
/-- 7: TermNet$Groups.settle(I)Z -/
def tn_m7 : am_M := (⟨tn_R0, "settle", "(I)Z"⟩, prog_2_method_10_code, 3, (some .boolean), 0, { frames := 3, cells := 0, slots := 0, locals := 72 })
/-- 8: TermNet$Groups.joinParts(I)Z -/
def tn_m8 : am_M := (⟨tn_R0, "joinParts", "(I)Z"⟩, prog_2_method_11_code, 5, (some .boolean), 0, { frames := 2, cells := 0, slots := 0, locals := 48 })
/-- 9: TermNet$Groups.shapeOf(I)I -/
def tn_m9 : am_M := (⟨tn_R0, "shapeOf", "(I)I"⟩, prog_2_method_4_code, 2, (some .int), 0, { frames := 0, cells := 0, slots := 0, locals := 0 })
/-- 10: TermNet$Groups.leaderOf(I)I -/
def tn_m10 : am_M := (⟨tn_R0, "leaderOf", "(I)I"⟩, prog_2_method_3_code, 2, (some .int), 0, { frames := 0, cells := 0, slots := 0, locals := 0 })
/-- 11: TermNet$Groups.partsOf(I)I -/
def tn_m11 : am_M := (⟨tn_R0, "partsOf", "(I)I"⟩, prog_2_method_6_code, 3, (some .int), 0, { frames := 1, cells := 0, slots := 0, locals := 21 })
/-- 12: TermNet$Groups.partLeader(II)I -/
def tn_m12 : am_M := (⟨tn_R0, "partLeader", "(II)I"⟩, prog_2_method_7_code, 3, (some .int), 0, { frames := 1, cells := 0, slots := 0, locals := 22 })
/-- 13: TermNet$Groups.undoTo(I)V -/
def tn_m13 : am_M := (⟨tn_R0, "undoTo", "(I)V"⟩, prog_2_method_12_code, 3, none, 0, { frames := 2, cells := 0, slots := 0, locals := 46 })
/-- 14: TermNet$Groups.undo(I)V -/
def tn_m14 : am_M := (⟨tn_R0, "undo", "(I)V"⟩, prog_2_method_13_code, 3, none, 0, { frames := 1, cells := 0, slots := 0, locals := 24 })
/-- 15: TermNet$Groups.isKnown(I)Z -/
def tn_m15 : am_M := (⟨tn_R0, "isKnown", "(I)Z"⟩, prog_2_method_5_code, 2, (some .boolean), 0, { frames := 1, cells := 0, slots := 0, locals := 21 })
/-- 16: TermNet$Told.addSign(I)I -/
def tn_m16 : am_M := (⟨tn_R1, "addSign", "(I)I"⟩, prog_3_method_4_code, 2, (some .int), 1, { frames := 0, cells := 0, slots := 0, locals := 0 })
/-- 17: TermNet$Told.addUnknown()I -/
def tn_m17 : am_M := (⟨tn_R1, "addUnknown", "()I"⟩, prog_3_method_5_code, 1, (some .int), 1, { frames := 0, cells := 0, slots := 0, locals := 0 })
/-- 18: TermNet$Told.canBeTerm(IIII)Z -/
def tn_m18 : am_M := (⟨tn_R1, "canBeTerm", "(IIII)Z"⟩, prog_3_method_3_code, 6, (some .boolean), 1, { frames := 1, cells := 0, slots := 0, locals := 21 })
/-- 19: TermNet$Told.isTerm(I)Z -/
def tn_m19 : am_M := (⟨tn_R1, "isTerm", "(I)Z"⟩, prog_3_method_2_code, 2, (some .boolean), 1, { frames := 0, cells := 0, slots := 0, locals := 0 })
/-- 20: TermNet$Told.addTerm(IIII)I -/
def tn_m20 : am_M := (⟨tn_R1, "addTerm", "(IIII)I"⟩, prog_3_method_6_code, 5, (some .int), 1, { frames := 0, cells := 0, slots := 0, locals := 0 })
/-- 21: TermNet$Told.partsOfTerm(I)I -/
def tn_m21 : am_M := (⟨tn_R1, "partsOfTerm", "(I)I"⟩, prog_3_method_7_code, 2, (some .int), 1, { frames := 0, cells := 0, slots := 0, locals := 0 })
/-- 22: TermNet$Told.partOfTerm(II)I -/
def tn_m22 : am_M := (⟨tn_R1, "partOfTerm", "(II)I"⟩, prog_3_method_8_code, 3, (some .int), 1, { frames := 0, cells := 0, slots := 0, locals := 0 })
/-- 23: TermNet$Twins.joinAll(LTermNet$Walk;)V -/
def tn_m23 : am_M := (⟨tn_R2, "joinAll", "(LTermNet$Walk;)V"⟩, prog_4_method_2_code, 4, none, 2, { frames := 3, cells := 0, slots := 0, locals := 72 })
/-- 24: TermNet$Twins.printOf(I)I -/
def tn_m24 : am_M := (⟨tn_R2, "printOf", "(I)I"⟩, prog_4_method_3_code, 4, (some .int), 2, { frames := 2, cells := 0, slots := 0, locals := 44 })
/-- 25: TermNet$Twins.joinOrKeep(II)V -/
def tn_m25 : am_M := (⟨tn_R2, "joinOrKeep", "(II)V"⟩, prog_4_method_4_code, 5, none, 2, { frames := 2, cells := 0, slots := 0, locals := 48 })
/-- 26: TermNet$Walk.overAll(I)Z -/
def tn_m26 : am_M := (⟨tn_R3, "overAll", "(I)Z"⟩, prog_5_method_2_code, 3, (some .boolean), 3, { frames := 4, cells := 0, slots := 0, locals := 88 })
/-- 27: TermNet$Walk.begin()V -/
def tn_m27 : am_M := (⟨tn_R3, "begin", "()V"⟩, prog_5_method_10_code, 1, none, 3, { frames := 1, cells := 0, slots := 0, locals := 23 })
/-- 28: TermNet$Walk.reach(I)Z -/
def tn_m28 : am_M := (⟨tn_R3, "reach", "(I)Z"⟩, prog_5_method_11_code, 4, (some .boolean), 3, { frames := 3, cells := 0, slots := 0, locals := 65 })
/-- 29: TermNet$Walk.enter(I)Z -/
def tn_m29 : am_M := (⟨tn_R3, "enter", "(I)Z"⟩, prog_5_method_13_code, 2, (some .boolean), 3, { frames := 0, cells := 0, slots := 0, locals := 0 })
/-- 30: TermNet$Walk.goOn(I)Z -/
def tn_m30 : am_M := (⟨tn_R3, "goOn", "(I)Z"⟩, prog_5_method_12_code, 2, (some .boolean), 3, { frames := 2, cells := 0, slots := 0, locals := 44 })
/-- 31: TermNet$Walk.sizeBelow(I)I -/
def tn_m31 : am_M := (⟨tn_R3, "sizeBelow", "(I)I"⟩, prog_5_method_3_code, 3, (some .int), 3, { frames := 5, cells := 0, slots := 0, locals := 109 })
/-- 32: TermNet$Walk.overTree(I)V -/
def tn_m32 : am_M := (⟨tn_R3, "overTree", "(I)V"⟩, prog_5_method_9_code, 2, none, 3, { frames := 4, cells := 0, slots := 0, locals := 88 })
/-- 33: TermNet$Walk.sizeOver(I)I -/
def tn_m33 : am_M := (⟨tn_R3, "sizeOver", "(I)I"⟩, prog_5_method_4_code, 5, (some .int), 3, { frames := 2, cells := 0, slots := 0, locals := 44 })
/-- 34: TermNet$Walk.depthBelow(I)I -/
def tn_m34 : am_M := (⟨tn_R3, "depthBelow", "(I)I"⟩, prog_5_method_5_code, 3, (some .int), 3, { frames := 5, cells := 0, slots := 0, locals := 109 })
/-- 35: TermNet$Walk.depthOver(I)I -/
def tn_m35 : am_M := (⟨tn_R3, "depthOver", "(I)I"⟩, prog_5_method_6_code, 4, (some .int), 3, { frames := 2, cells := 0, slots := 0, locals := 44 })
/-- 36: TermNet$Walk.findsBelow(II)Z -/
def tn_m36 : am_M := (⟨tn_R3, "findsBelow", "(II)Z"⟩, prog_5_method_8_code, 3, (some .boolean), 3, { frames := 5, cells := 0, slots := 0, locals := 109 })
/-- 37: TermNet$Walk.unknownsBelow(I)I -/
def tn_m37 : am_M := (⟨tn_R3, "unknownsBelow", "(I)I"⟩, prog_5_method_7_code, 4, (some .int), 3, { frames := 5, cells := 0, slots := 0, locals := 109 })
/-- 38: TermNet.count(I)I -/
def tn_m38 : am_M := (⟨tn_R4, "count", "(I)I"⟩, prog_1_method_16_code, 2, (some .int), 4, { frames := 1, cells := 0, slots := 0, locals := 22 })
/-- 39: TermNet.sign(I)I -/
def tn_m39 : am_M := (⟨tn_R4, "sign", "(I)I"⟩, prog_1_method_2_code, 2, (some .int), 4, { frames := 6, cells := 1, slots := 6, locals := 90 })
/-- 40: TermNet.unknown()I -/
def tn_m40 : am_M := (⟨tn_R4, "unknown", "()I"⟩, prog_1_method_3_code, 2, (some .int), 4, { frames := 7, cells := 1, slots := 6, locals := 110 })
/-- 41: TermNet.refuseWhenFull()V -/
def tn_m41 : am_M := (⟨tn_R4, "refuseWhenFull", "()V"⟩, prog_1_method_18_code, 1, none, 4, { frames := 6, cells := 1, slots := 6, locals := 90 })
/-- 42: TermNet.term(IIII)I -/
def tn_m42 : am_M := (⟨tn_R4, "term", "(IIII)I"⟩, prog_1_method_4_code, 6, (some .int), 4, { frames := 7, cells := 1, slots := 6, locals := 110 })
/-- 43: TermNet.equal(II)Z -/
def tn_m43 : am_M := (⟨tn_R4, "equal", "(II)Z"⟩, prog_1_method_5_code, 4, (some .boolean), 4, { frames := 7, cells := 2, slots := 12, locals := 111 })
/-- 44: TermNet.refuseUnlessTerm(I)V -/
def tn_m44 : am_M := (⟨tn_R4, "refuseUnlessTerm", "(I)V"⟩, prog_1_method_17_code, 2, none, 4, { frames := 6, cells := 1, slots := 6, locals := 90 })
/-- 45: TermNet.same(II)Z -/
def tn_m45 : am_M := (⟨tn_R4, "same", "(II)Z"⟩, prog_1_method_6_code, 3, (some .boolean), 4, { frames := 7, cells := 2, slots := 12, locals := 111 })
/-- 46: TermNet.top(I)I -/
def tn_m46 : am_M := (⟨tn_R4, "top", "(I)I"⟩, prog_1_method_7_code, 2, (some .int), 4, { frames := 7, cells := 1, slots := 6, locals := 111 })
/-- 47: TermNet.part(II)I -/
def tn_m47 : am_M := (⟨tn_R4, "part", "(II)I"⟩, prog_1_method_8_code, 3, (some .int), 4, { frames := 7, cells := 2, slots := 12, locals := 111 })
/-- 48: TermNet.least(I)I -/
def tn_m48 : am_M := (⟨tn_R4, "least", "(I)I"⟩, prog_1_method_9_code, 2, (some .int), 4, { frames := 7, cells := 1, slots := 6, locals := 111 })
/-- 49: TermNet.size(I)I -/
def tn_m49 : am_M := (⟨tn_R4, "size", "(I)I"⟩, prog_1_method_10_code, 2, (some .int), 4, { frames := 7, cells := 1, slots := 6, locals := 131 })
/-- 50: TermNet.depth(I)I -/
def tn_m50 : am_M := (⟨tn_R4, "depth", "(I)I"⟩, prog_1_method_11_code, 2, (some .int), 4, { frames := 7, cells := 1, slots := 6, locals := 131 })
/-- 51: TermNet.inside(II)Z -/
def tn_m51 : am_M := (⟨tn_R4, "inside", "(II)Z"⟩, prog_1_method_12_code, 3, (some .boolean), 4, { frames := 7, cells := 2, slots := 12, locals := 131 })
/-- 52: TermNet.unknowns(I)I -/
def tn_m52 : am_M := (⟨tn_R4, "unknowns", "(I)I"⟩, prog_1_method_13_code, 2, (some .int), 4, { frames := 7, cells := 1, slots := 6, locals := 132 })
/-- 53: TermNet.mark()I -/
def tn_m53 : am_M := (⟨tn_R4, "mark", "()I"⟩, prog_1_method_14_code, 1, (some .int), 4, { frames := 6, cells := 1, slots := 6, locals := 90 })
/-- 54: TermNet.back()I -/
def tn_m54 : am_M := (⟨tn_R4, "back", "()I"⟩, prog_1_method_15_code, 1, (some .int), 4, { frames := 6, cells := 1, slots := 6, locals := 90 })
/-- 55: TermNetModel.thrown()I -/
def tn_m55 : am_M := (⟨tn_R5, "thrown", "()I"⟩, prog_7_method_2_code, 1, (some .int), 5, { frames := 0, cells := 0, slots := 0, locals := 0 })
/-- 56: TermNetModel.sign(I)I -/
def tn_m56 : am_M := (⟨tn_R5, "sign", "(I)I"⟩, prog_7_method_4_code, 2, (some .int), 5, { frames := 0, cells := 0, slots := 0, locals := 0 })
/-- 57: TermNetModel.unknown()I -/
def tn_m57 : am_M := (⟨tn_R5, "unknown", "()I"⟩, prog_7_method_6_code, 1, (some .int), 5, { frames := 3, cells := 0, slots := 0, locals := 77 })
/-- 58: TermNetModel.add(IIII)I -/
def tn_m58 : am_M := (⟨tn_R5, "add", "(IIII)I"⟩, prog_7_method_5_code, 6, (some .int), 5, { frames := 2, cells := 0, slots := 0, locals := 52 })
/-- 59: TermNetModel.close([I)Z -/
def tn_m59 : am_M := (⟨tn_R5, "close", "([I)Z"⟩, prog_7_method_9_code, 7, (some .boolean), 5, { frames := 1, cells := 0, slots := 0, locals := 26 })
/-- 60: TermNetModel.join([III)V -/
def tn_m60 : am_M := (⟨tn_R5, "join", "([III)V"⟩, prog_7_method_8_code, 7, none, 5, { frames := 0, cells := 0, slots := 0, locals := 0 })
/-- 61: TermNetModel.term(IIII)I -/
def tn_m61 : am_M := (⟨tn_R5, "term", "(IIII)I"⟩, prog_7_method_7_code, 6, (some .int), 5, { frames := 3, cells := 0, slots := 0, locals := 77 })
/-- 62: TermNetModel.isTerm(I)Z -/
def tn_m62 : am_M := (⟨tn_R5, "isTerm", "(I)Z"⟩, prog_7_method_3_code, 2, (some .boolean), 5, { frames := 0, cells := 0, slots := 0, locals := 0 })
/-- 63: TermNetModel.equal(II)Z -/
def tn_m63 : am_M := (⟨tn_R5, "equal", "(II)Z"⟩, prog_7_method_11_code, 4, (some .boolean), 5, { frames := 2, cells := 0, slots := 0, locals := 52 })
/-- 64: TermNetModel.look([I)Z -/
def tn_m64 : am_M := (⟨tn_R5, "look", "([I)Z"⟩, prog_7_method_10_code, 12, (some .boolean), 5, { frames := 0, cells := 0, slots := 0, locals := 0 })
/-- 65: TermNetModel.same(II)Z -/
def tn_m65 : am_M := (⟨tn_R5, "same", "(II)Z"⟩, prog_7_method_12_code, 3, (some .boolean), 5, { frames := 1, cells := 0, slots := 0, locals := 21 })
/-- 66: TermNetModel.top(I)I -/
def tn_m66 : am_M := (⟨tn_R5, "top", "(I)I"⟩, prog_7_method_13_code, 4, (some .int), 5, { frames := 1, cells := 0, slots := 0, locals := 31 })
/-- 67: TermNetModel.part(II)I -/
def tn_m67 : am_M := (⟨tn_R5, "part", "(II)I"⟩, prog_7_method_14_code, 5, (some .int), 5, { frames := 1, cells := 0, slots := 0, locals := 31 })
/-- 68: TermNetModel.least(I)I -/
def tn_m68 : am_M := (⟨tn_R5, "least", "(I)I"⟩, prog_7_method_15_code, 2, (some .int), 5, { frames := 1, cells := 0, slots := 0, locals := 21 })
/-- 69: TermNetModel.size(I)I -/
def tn_m69 : am_M := (⟨tn_R5, "size", "(I)I"⟩, prog_7_method_16_code, 3, (some .int), 5, { frames := 1, cells := 0, slots := 0, locals := 31 })
/-- 70: TermNetModel.depth(I)I -/
def tn_m70 : am_M := (⟨tn_R5, "depth", "(I)I"⟩, prog_7_method_17_code, 3, (some .int), 5, { frames := 1, cells := 0, slots := 0, locals := 31 })
/-- 71: TermNetModel.inside(II)Z -/
def tn_m71 : am_M := (⟨tn_R5, "inside", "(II)Z"⟩, prog_7_method_19_code, 3, (some .boolean), 5, { frames := 2, cells := 0, slots := 0, locals := 58 })
/-- 72: TermNetModel.go(I)V -/
def tn_m72 : am_M := (⟨tn_R5, "go", "(I)V"⟩, prog_7_method_18_code, 8, none, 5, { frames := 1, cells := 0, slots := 0, locals := 31 })
/-- 73: TermNetModel.unknowns(I)I -/
def tn_m73 : am_M := (⟨tn_R5, "unknowns", "(I)I"⟩, prog_7_method_20_code, 4, (some .int), 5, { frames := 2, cells := 0, slots := 0, locals := 58 })
/-- 74: TermNetModel.mark()I -/
def tn_m74 : am_M := (⟨tn_R5, "mark", "()I"⟩, prog_7_method_21_code, 2, (some .int), 5, { frames := 0, cells := 0, slots := 0, locals := 0 })
/-- 75: TermNetModel.back()I -/
def tn_m75 : am_M := (⟨tn_R5, "back", "()I"⟩, prog_7_method_22_code, 2, (some .int), 5, { frames := 0, cells := 0, slots := 0, locals := 0 })
/-- 76: TermNetModel.count(I)I -/
def tn_m76 : am_M := (⟨tn_R5, "count", "(I)I"⟩, prog_7_method_23_code, 6, (some .int), 5, { frames := 1, cells := 0, slots := 0, locals := 31 })
/-- 77: java/lang/Math.floorMod(II)I -/
def tn_m77 : am_M := (⟨tn_R6, "floorMod", "(II)I"⟩, prog_11_method_50_code, 3, (some .int), 6, { frames := 0, cells := 0, slots := 0, locals := 0 })
/-- 78: java/util/Arrays.fill([II)V -/
def tn_m78 : am_M := (⟨tn_R7, "fill", "([II)V"⟩, prog_15_method_103_code, 4, none, 7, { frames := 0, cells := 0, slots := 0, locals := 0 })
def tn_M : List am_M := [tn_m0, tn_m1, tn_m2, tn_m3, tn_m4, tn_m5, tn_m6, tn_m7, tn_m8, tn_m9, tn_m10, tn_m11, tn_m12, tn_m13, tn_m14, tn_m15, tn_m16, tn_m17, tn_m18, tn_m19, tn_m20, tn_m21, tn_m22, tn_m23, tn_m24, tn_m25, tn_m26, tn_m27, tn_m28, tn_m29, tn_m30, tn_m31, tn_m32, tn_m33, tn_m34, tn_m35, tn_m36, tn_m37, tn_m38, tn_m39, tn_m40, tn_m41, tn_m42, tn_m43, tn_m44, tn_m45, tn_m46, tn_m47, tn_m48, tn_m49, tn_m50, tn_m51, tn_m52, tn_m53, tn_m54, tn_m55, tn_m56, tn_m57, tn_m58, tn_m59, tn_m60, tn_m61, tn_m62, tn_m63, tn_m64, tn_m65, tn_m66, tn_m67, tn_m68, tn_m69, tn_m70, tn_m71, tn_m72, tn_m73, tn_m74, tn_m75, tn_m76, tn_m77, tn_m78]
def tn_fl : List ((Nat × Nat) × (Nat × Nat)) := [((0, 15), (0, 2)), ((0, 18), (0, 3)), ((0, 21), (0, 4)), ((0, 24), (0, 5)), ((0, 28), (0, 0)), ((0, 32), (1, 1)), ((0, 48), (1, 4)), ((0, 9), (0, 1)), ((1, 15), (1, 1)), ((1, 18), (1, 2)), ((1, 21), (1, 3)), ((1, 25), (1, 4)), ((1, 9), (1, 0)), ((2, 11), (2, 1)), ((2, 15), (2, 2)), ((2, 18), (2, 3)), ((2, 21), (2, 0)), ((2, 31), (3, 7)), ((2, 37), (3, 4)), ((2, 63), (0, 0)), ((2, 67), (1, 1)), ((3, 15), (3, 2)), ((3, 18), (3, 3)), ((3, 21), (3, 4)), ((3, 24), (3, 5)), ((3, 27), (3, 6)), ((3, 31), (3, 7)), ((3, 34), (3, 0)), ((3, 9), (3, 1)), ((4, 10), (4, 0)), ((4, 104), (0, 5)), ((4, 115), (1, 4)), ((4, 134), (1, 1)), ((4, 21), (4, 1)), ((4, 30), (4, 2)), ((4, 37), (4, 3)), ((4, 41), (4, 4)), ((4, 45), (4, 5)), ((4, 48), (4, 6)), ((4, 51), (4, 7)), ((4, 55), (4, 8)), ((4, 65), (1, 3)), ((5, 13), (5, 1)), ((5, 16), (5, 2)), ((5, 19), (5, 8)), ((5, 22), (5, 9)), ((5, 25), (5, 10)), ((5, 28), (5, 11)), ((5, 31), (5, 12)), ((5, 34), (5, 13)), ((5, 37), (5, 14)), ((5, 40), (5, 15)), ((5, 43), (5, 16)), ((5, 47), (5, 17)), ((5, 50), (5, 7)), ((5, 54), (5, 4)), ((5, 57), (5, 3)), ((5, 80), (5, 6)), ((5, 87), (5, 5)), ((5, 9), (5, 0))]
def tn_ca : List ((Nat × Nat) × (Nat × Nat × Nat)) := [((2, 70), (0, 4, 2)), ((2, 77), (0, 3, 2)), ((3, 41), (0, 21, 1)), ((3, 44), (0, 22, 2)), ((4, 51), (4, 0, 0)), ((4, 56), (3, 0, 0)), ((4, 59), (0, 5, 2)), ((4, 63), (0, 6, 2)), ((7, 66), (0, 8, 1)), ((8, 37), (0, 9, 1)), ((8, 41), (0, 21, 1)), ((8, 44), (0, 22, 2)), ((8, 70), (0, 4, 2)), ((11, 37), (0, 9, 1)), ((11, 41), (0, 21, 1)), ((12, 37), (0, 9, 1)), ((12, 44), (0, 22, 2)), ((13, 73), (0, 14, 1)), ((14, 59), (0, 5, 2)), ((14, 63), (0, 6, 2)), ((15, 37), (0, 9, 1)), ((18, 28), (0, 19, 1)), ((23, 25), (2, 78, 2)), ((23, 40), (0, 24, 1)), ((23, 44), (0, 15, 1)), ((23, 50), (0, 9, 1)), ((23, 53), (2, 77, 2)), ((23, 59), (0, 25, 2)), ((24, 44), (0, 15, 1)), ((24, 50), (0, 9, 1)), ((24, 72), (0, 11, 1)), ((24, 76), (0, 12, 2)), ((25, 79), (0, 3, 2)), ((25, 83), (0, 4, 2)), ((26, 38), (0, 27, 0)), ((26, 41), (0, 10, 1)), ((26, 47), (0, 28, 1)), ((27, 82), (2, 78, 2)), ((28, 88), (0, 29, 1)), ((28, 91), (0, 30, 1)), ((30, 58), (0, 11, 1)), ((30, 61), (0, 12, 2)), ((30, 88), (0, 29, 1)), ((31, 41), (0, 10, 1)), ((31, 51), (0, 32, 1)), ((31, 55), (0, 33, 1)), ((32, 38), (0, 27, 0)), ((32, 41), (0, 10, 1)), ((32, 47), (0, 28, 1)), ((33, 58), (0, 11, 1)), ((33, 61), (0, 12, 2)), ((33, 67), (5, 0, 0)), ((34, 41), (0, 10, 1)), ((34, 51), (0, 32, 1)), ((34, 73), (0, 35, 1)), ((35, 58), (0, 11, 1)), ((35, 61), (0, 12, 2)), ((35, 76), (3, 0, 0)), ((36, 41), (0, 10, 1)), ((36, 51), (0, 32, 1)), ((37, 51), (0, 32, 1)), ((37, 79), (0, 15, 1)), ((38, 169), (0, 0, 0)), ((39, 73), (0, 16, 1)), ((40, 77), (0, 41, 0)), ((40, 80), (0, 17, 0)), ((40, 84), (0, 1, 1)), ((42, 77), (0, 41, 0)), ((42, 84), (0, 1, 1)), ((42, 88), (0, 18, 4)), ((42, 94), (0, 20, 4)), ((42, 98), (0, 2, 1)), ((43, 101), (0, 44, 1)), ((43, 107), (0, 4, 2)), ((43, 111), (0, 7, 1)), ((43, 118), (0, 26, 1)), ((43, 121), (0, 13, 1)), ((43, 124), (0, 23, 1)), ((44, 172), (0, 19, 1)), ((45, 101), (0, 44, 1)), ((45, 128), (0, 10, 1)), ((46, 101), (0, 44, 1)), ((46, 131), (0, 15, 1)), ((46, 137), (0, 9, 1)), ((47, 101), (0, 44, 1)), ((47, 140), (0, 11, 1)), ((47, 148), (0, 12, 2)), ((48, 101), (0, 44, 1)), ((48, 128), (0, 10, 1)), ((49, 101), (0, 44, 1)), ((49, 152), (0, 31, 1)), ((50, 101), (0, 44, 1)), ((50, 155), (0, 34, 1)), ((51, 101), (0, 44, 1)), ((51, 131), (0, 15, 1)), ((51, 158), (0, 36, 2)), ((52, 101), (0, 44, 1)), ((52, 162), (0, 37, 1)), ((54, 121), (0, 13, 1)), ((57, 64), (0, 58, 4)), ((58, 60), (0, 59, 1)), ((59, 72), (0, 60, 3)), ((61, 64), (0, 58, 4)), ((61, 68), (0, 62, 1)), ((63, 60), (0, 59, 1)), ((63, 68), (0, 62, 1)), ((63, 72), (0, 60, 3)), ((63, 77), (0, 64, 1)), ((65, 68), (0, 62, 1)), ((66, 68), (0, 62, 1)), ((66, 77), (0, 64, 1)), ((67, 68), (0, 62, 1)), ((67, 77), (0, 64, 1)), ((68, 68), (0, 62, 1)), ((69, 68), (0, 62, 1)), ((69, 77), (0, 64, 1)), ((70, 68), (0, 62, 1)), ((70, 77), (0, 64, 1)), ((71, 68), (0, 62, 1)), ((71, 83), (0, 72, 1)), ((72, 77), (0, 64, 1)), ((73, 68), (0, 62, 1)), ((73, 83), (0, 72, 1)), ((76, 77), (0, 64, 1))]
def tn_ki : List ((Nat × Nat) × Int32) := [((2, 75), 1000003), ((5, 76), 1000000000)]
def tn_kl : List ((Nat × Nat) × Int64) := [((3, 65), 1000000000)]
def tn_tw : List ((Nat × Nat) × String) := [((39, 9), "java/lang/IllegalArgumentException"), ((39, 31), "java/lang/IndexOutOfBoundsException"), ((41, 13), "java/lang/IndexOutOfBoundsException"), ((42, 15), "java/lang/IllegalArgumentException"), ((44, 11), "java/lang/IllegalArgumentException"), ((47, 21), "java/util/NoSuchElementException"), ((53, 9), "java/lang/IndexOutOfBoundsException"), ((54, 7), "java/util/NoSuchElementException")]
def tn_G : am_G := (tn_M, tn_fl, tn_ca, tn_ki, tn_kl, tn_tw)
def tn_okM (M : am_M) : Prop := (plainFor M.1 = true ∧ Cond.code M.1 M.2.1 M.2.2.1 M.2.2.2.1 ∈ tn_TS ∧ Cond.initialized M.1.cls ∈ tn_TS ∧ (M.1.cls ≠ "java/lang/invoke/MethodHandle" ∧ M.1.cls ≠ "java/lang/invoke/VarHandle") ∧ M.2.2.2.2.2.slots = 6 * M.2.2.2.2.2.cells) ∧ M.1.cls = tn_cn M.2.2.2.2.1
theorem tn_o0 : tn_okM tn_m0 := ⟨⟨by decide +kernel, tn_in 188 (by decide +kernel) (by decide +kernel), tn_in 25 (by decide +kernel) (by decide +kernel), by decide +kernel, rfl⟩, rfl⟩
theorem tn_o1 : tn_okM tn_m1 := ⟨⟨by decide +kernel, tn_in 305 (by decide +kernel) (by decide +kernel), tn_in 25 (by decide +kernel) (by decide +kernel), by decide +kernel, rfl⟩, rfl⟩
theorem tn_o2 : tn_okM tn_m2 := ⟨⟨by decide +kernel, tn_in 329 (by decide +kernel) (by decide +kernel), tn_in 25 (by decide +kernel) (by decide +kernel), by decide +kernel, rfl⟩, rfl⟩
theorem tn_o3 : tn_okM tn_m3 := ⟨⟨by decide +kernel, tn_in 333 (by decide +kernel) (by decide +kernel), tn_in 25 (by decide +kernel) (by decide +kernel), by decide +kernel, rfl⟩, rfl⟩
theorem tn_o4 : tn_okM tn_m4 := ⟨⟨by decide +kernel, tn_in 345 (by decide +kernel) (by decide +kernel), tn_in 25 (by decide +kernel) (by decide +kernel), by decide +kernel, rfl⟩, rfl⟩
theorem tn_o5 : tn_okM tn_m5 := ⟨⟨by decide +kernel, tn_in 355 (by decide +kernel) (by decide +kernel), tn_in 25 (by decide +kernel) (by decide +kernel), by decide +kernel, rfl⟩, rfl⟩
theorem tn_o6 : tn_okM tn_m6 := ⟨⟨by decide +kernel, tn_in 359 (by decide +kernel) (by decide +kernel), tn_in 25 (by decide +kernel) (by decide +kernel), by decide +kernel, rfl⟩, rfl⟩
theorem tn_o7 : tn_okM tn_m7 := ⟨⟨by decide +kernel, tn_in 377 (by decide +kernel) (by decide +kernel), tn_in 25 (by decide +kernel) (by decide +kernel), by decide +kernel, rfl⟩, rfl⟩
theorem tn_o8 : tn_okM tn_m8 := ⟨⟨by decide +kernel, tn_in 381 (by decide +kernel) (by decide +kernel), tn_in 25 (by decide +kernel) (by decide +kernel), by decide +kernel, rfl⟩, rfl⟩
theorem tn_o9 : tn_okM tn_m9 := ⟨⟨by decide +kernel, tn_in 385 (by decide +kernel) (by decide +kernel), tn_in 25 (by decide +kernel) (by decide +kernel), by decide +kernel, rfl⟩, rfl⟩
theorem tn_o10 : tn_okM tn_m10 := ⟨⟨by decide +kernel, tn_in 400 (by decide +kernel) (by decide +kernel), tn_in 25 (by decide +kernel) (by decide +kernel), by decide +kernel, rfl⟩, rfl⟩
theorem tn_o11 : tn_okM tn_m11 := ⟨⟨by decide +kernel, tn_in 416 (by decide +kernel) (by decide +kernel), tn_in 25 (by decide +kernel) (by decide +kernel), by decide +kernel, rfl⟩, rfl⟩
theorem tn_o12 : tn_okM tn_m12 := ⟨⟨by decide +kernel, tn_in 420 (by decide +kernel) (by decide +kernel), tn_in 25 (by decide +kernel) (by decide +kernel), by decide +kernel, rfl⟩, rfl⟩
theorem tn_o13 : tn_okM tn_m13 := ⟨⟨by decide +kernel, tn_in 424 (by decide +kernel) (by decide +kernel), tn_in 25 (by decide +kernel) (by decide +kernel), by decide +kernel, rfl⟩, rfl⟩
theorem tn_o14 : tn_okM tn_m14 := ⟨⟨by decide +kernel, tn_in 428 (by decide +kernel) (by decide +kernel), tn_in 25 (by decide +kernel) (by decide +kernel), by decide +kernel, rfl⟩, rfl⟩
theorem tn_o15 : tn_okM tn_m15 := ⟨⟨by decide +kernel, tn_in 441 (by decide +kernel) (by decide +kernel), tn_in 25 (by decide +kernel) (by decide +kernel), by decide +kernel, rfl⟩, rfl⟩
theorem tn_o16 : tn_okM tn_m16 := ⟨⟨by decide +kernel, tn_in 285 (by decide +kernel) (by decide +kernel), tn_in 24 (by decide +kernel) (by decide +kernel), by decide +kernel, rfl⟩, rfl⟩
theorem tn_o17 : tn_okM tn_m17 := ⟨⟨by decide +kernel, tn_in 301 (by decide +kernel) (by decide +kernel), tn_in 24 (by decide +kernel) (by decide +kernel), by decide +kernel, rfl⟩, rfl⟩
theorem tn_o18 : tn_okM tn_m18 := ⟨⟨by decide +kernel, tn_in 316 (by decide +kernel) (by decide +kernel), tn_in 24 (by decide +kernel) (by decide +kernel), by decide +kernel, rfl⟩, rfl⟩
theorem tn_o19 : tn_okM tn_m19 := ⟨⟨by decide +kernel, tn_in 320 (by decide +kernel) (by decide +kernel), tn_in 24 (by decide +kernel) (by decide +kernel), by decide +kernel, rfl⟩, rfl⟩
theorem tn_o20 : tn_okM tn_m20 := ⟨⟨by decide +kernel, tn_in 325 (by decide +kernel) (by decide +kernel), tn_in 24 (by decide +kernel) (by decide +kernel), by decide +kernel, rfl⟩, rfl⟩
theorem tn_o21 : tn_okM tn_m21 := ⟨⟨by decide +kernel, tn_in 337 (by decide +kernel) (by decide +kernel), tn_in 24 (by decide +kernel) (by decide +kernel), by decide +kernel, rfl⟩, rfl⟩
theorem tn_o22 : tn_okM tn_m22 := ⟨⟨by decide +kernel, tn_in 341 (by decide +kernel) (by decide +kernel), tn_in 24 (by decide +kernel) (by decide +kernel), by decide +kernel, rfl⟩, rfl⟩
theorem tn_o23 : tn_okM tn_m23 := ⟨⟨by decide +kernel, tn_in 432 (by decide +kernel) (by decide +kernel), tn_in 27 (by decide +kernel) (by decide +kernel), by decide +kernel, rfl⟩, rfl⟩
theorem tn_o24 : tn_okM tn_m24 := ⟨⟨by decide +kernel, tn_in 437 (by decide +kernel) (by decide +kernel), tn_in 27 (by decide +kernel) (by decide +kernel), by decide +kernel, rfl⟩, rfl⟩
theorem tn_o25 : tn_okM tn_m25 := ⟨⟨by decide +kernel, tn_in 452 (by decide +kernel) (by decide +kernel), tn_in 27 (by decide +kernel) (by decide +kernel), by decide +kernel, rfl⟩, rfl⟩
theorem tn_o26 : tn_okM tn_m26 := ⟨⟨by decide +kernel, tn_in 389 (by decide +kernel) (by decide +kernel), tn_in 26 (by decide +kernel) (by decide +kernel), by decide +kernel, rfl⟩, rfl⟩
theorem tn_o27 : tn_okM tn_m27 := ⟨⟨by decide +kernel, tn_in 393 (by decide +kernel) (by decide +kernel), tn_in 26 (by decide +kernel) (by decide +kernel), by decide +kernel, rfl⟩, rfl⟩
theorem tn_o28 : tn_okM tn_m28 := ⟨⟨by decide +kernel, tn_in 404 (by decide +kernel) (by decide +kernel), tn_in 26 (by decide +kernel) (by decide +kernel), by decide +kernel, rfl⟩, rfl⟩
theorem tn_o29 : tn_okM tn_m29 := ⟨⟨by decide +kernel, tn_in 408 (by decide +kernel) (by decide +kernel), tn_in 26 (by decide +kernel) (by decide +kernel), by decide +kernel, rfl⟩, rfl⟩
theorem tn_o30 : tn_okM tn_m30 := ⟨⟨by decide +kernel, tn_in 412 (by decide +kernel) (by decide +kernel), tn_in 26 (by decide +kernel) (by decide +kernel), by decide +kernel, rfl⟩, rfl⟩
theorem tn_o31 : tn_okM tn_m31 := ⟨⟨by decide +kernel, tn_in 515 (by decide +kernel) (by decide +kernel), tn_in 26 (by decide +kernel) (by decide +kernel), by decide +kernel, rfl⟩, rfl⟩
theorem tn_o32 : tn_okM tn_m32 := ⟨⟨by decide +kernel, tn_in 519 (by decide +kernel) (by decide +kernel), tn_in 26 (by decide +kernel) (by decide +kernel), by decide +kernel, rfl⟩, rfl⟩
theorem tn_o33 : tn_okM tn_m33 := ⟨⟨by decide +kernel, tn_in 523 (by decide +kernel) (by decide +kernel), tn_in 26 (by decide +kernel) (by decide +kernel), by decide +kernel, rfl⟩, rfl⟩
theorem tn_o34 : tn_okM tn_m34 := ⟨⟨by decide +kernel, tn_in 538 (by decide +kernel) (by decide +kernel), tn_in 26 (by decide +kernel) (by decide +kernel), by decide +kernel, rfl⟩, rfl⟩
theorem tn_o35 : tn_okM tn_m35 := ⟨⟨by decide +kernel, tn_in 542 (by decide +kernel) (by decide +kernel), tn_in 26 (by decide +kernel) (by decide +kernel), by decide +kernel, rfl⟩, rfl⟩
theorem tn_o36 : tn_okM tn_m36 := ⟨⟨by decide +kernel, tn_in 554 (by decide +kernel) (by decide +kernel), tn_in 26 (by decide +kernel) (by decide +kernel), by decide +kernel, rfl⟩, rfl⟩
theorem tn_o37 : tn_okM tn_m37 := ⟨⟨by decide +kernel, tn_in 565 (by decide +kernel) (by decide +kernel), tn_in 26 (by decide +kernel) (by decide +kernel), by decide +kernel, rfl⟩, rfl⟩
theorem tn_o38 : tn_okM tn_m38 := ⟨⟨by decide +kernel, tn_in 184 (by decide +kernel) (by decide +kernel), tn_in 23 (by decide +kernel) (by decide +kernel), by decide +kernel, rfl⟩, rfl⟩
theorem tn_o39 : tn_okM tn_m39 := ⟨⟨by decide +kernel, tn_in 197 (by decide +kernel) (by decide +kernel), tn_in 23 (by decide +kernel) (by decide +kernel), by decide +kernel, rfl⟩, rfl⟩
theorem tn_o40 : tn_okM tn_m40 := ⟨⟨by decide +kernel, tn_in 292 (by decide +kernel) (by decide +kernel), tn_in 23 (by decide +kernel) (by decide +kernel), by decide +kernel, rfl⟩, rfl⟩
theorem tn_o41 : tn_okM tn_m41 := ⟨⟨by decide +kernel, tn_in 296 (by decide +kernel) (by decide +kernel), tn_in 23 (by decide +kernel) (by decide +kernel), by decide +kernel, rfl⟩, rfl⟩
theorem tn_o42 : tn_okM tn_m42 := ⟨⟨by decide +kernel, tn_in 312 (by decide +kernel) (by decide +kernel), tn_in 23 (by decide +kernel) (by decide +kernel), by decide +kernel, rfl⟩, rfl⟩
theorem tn_o43 : tn_okM tn_m43 := ⟨⟨by decide +kernel, tn_in 366 (by decide +kernel) (by decide +kernel), tn_in 23 (by decide +kernel) (by decide +kernel), by decide +kernel, rfl⟩, rfl⟩
theorem tn_o44 : tn_okM tn_m44 := ⟨⟨by decide +kernel, tn_in 370 (by decide +kernel) (by decide +kernel), tn_in 23 (by decide +kernel) (by decide +kernel), by decide +kernel, rfl⟩, rfl⟩
theorem tn_o45 : tn_okM tn_m45 := ⟨⟨by decide +kernel, tn_in 461 (by decide +kernel) (by decide +kernel), tn_in 23 (by decide +kernel) (by decide +kernel), by decide +kernel, rfl⟩, rfl⟩
theorem tn_o46 : tn_okM tn_m46 := ⟨⟨by decide +kernel, tn_in 469 (by decide +kernel) (by decide +kernel), tn_in 23 (by decide +kernel) (by decide +kernel), by decide +kernel, rfl⟩, rfl⟩
theorem tn_o47 : tn_okM tn_m47 := ⟨⟨by decide +kernel, tn_in 479 (by decide +kernel) (by decide +kernel), tn_in 23 (by decide +kernel) (by decide +kernel), by decide +kernel, rfl⟩, rfl⟩
theorem tn_o48 : tn_okM tn_m48 := ⟨⟨by decide +kernel, tn_in 504 (by decide +kernel) (by decide +kernel), tn_in 23 (by decide +kernel) (by decide +kernel), by decide +kernel, rfl⟩, rfl⟩
theorem tn_o49 : tn_okM tn_m49 := ⟨⟨by decide +kernel, tn_in 511 (by decide +kernel) (by decide +kernel), tn_in 23 (by decide +kernel) (by decide +kernel), by decide +kernel, rfl⟩, rfl⟩
theorem tn_o50 : tn_okM tn_m50 := ⟨⟨by decide +kernel, tn_in 534 (by decide +kernel) (by decide +kernel), tn_in 23 (by decide +kernel) (by decide +kernel), by decide +kernel, rfl⟩, rfl⟩
theorem tn_o51 : tn_okM tn_m51 := ⟨⟨by decide +kernel, tn_in 550 (by decide +kernel) (by decide +kernel), tn_in 23 (by decide +kernel) (by decide +kernel), by decide +kernel, rfl⟩, rfl⟩
theorem tn_o52 : tn_okM tn_m52 := ⟨⟨by decide +kernel, tn_in 561 (by decide +kernel) (by decide +kernel), tn_in 23 (by decide +kernel) (by decide +kernel), by decide +kernel, rfl⟩, rfl⟩
theorem tn_o53 : tn_okM tn_m53 := ⟨⟨by decide +kernel, tn_in 573 (by decide +kernel) (by decide +kernel), tn_in 23 (by decide +kernel) (by decide +kernel), by decide +kernel, rfl⟩, rfl⟩
theorem tn_o54 : tn_okM tn_m54 := ⟨⟨by decide +kernel, tn_in 581 (by decide +kernel) (by decide +kernel), tn_in 23 (by decide +kernel) (by decide +kernel), by decide +kernel, rfl⟩, rfl⟩
theorem tn_o55 : tn_okM tn_m55 := ⟨⟨by decide +kernel, tn_in 648 (by decide +kernel) (by decide +kernel), tn_in 28 (by decide +kernel) (by decide +kernel), by decide +kernel, rfl⟩, rfl⟩
theorem tn_o56 : tn_okM tn_m56 := ⟨⟨by decide +kernel, tn_in 652 (by decide +kernel) (by decide +kernel), tn_in 28 (by decide +kernel) (by decide +kernel), by decide +kernel, rfl⟩, rfl⟩
theorem tn_o57 : tn_okM tn_m57 := ⟨⟨by decide +kernel, tn_in 656 (by decide +kernel) (by decide +kernel), tn_in 28 (by decide +kernel) (by decide +kernel), by decide +kernel, rfl⟩, rfl⟩
theorem tn_o58 : tn_okM tn_m58 := ⟨⟨by decide +kernel, tn_in 660 (by decide +kernel) (by decide +kernel), tn_in 28 (by decide +kernel) (by decide +kernel), by decide +kernel, rfl⟩, rfl⟩
theorem tn_o59 : tn_okM tn_m59 := ⟨⟨by decide +kernel, tn_in 664 (by decide +kernel) (by decide +kernel), tn_in 28 (by decide +kernel) (by decide +kernel), by decide +kernel, rfl⟩, rfl⟩
theorem tn_o60 : tn_okM tn_m60 := ⟨⟨by decide +kernel, tn_in 668 (by decide +kernel) (by decide +kernel), tn_in 28 (by decide +kernel) (by decide +kernel), by decide +kernel, rfl⟩, rfl⟩
theorem tn_o61 : tn_okM tn_m61 := ⟨⟨by decide +kernel, tn_in 672 (by decide +kernel) (by decide +kernel), tn_in 28 (by decide +kernel) (by decide +kernel), by decide +kernel, rfl⟩, rfl⟩
theorem tn_o62 : tn_okM tn_m62 := ⟨⟨by decide +kernel, tn_in 676 (by decide +kernel) (by decide +kernel), tn_in 28 (by decide +kernel) (by decide +kernel), by decide +kernel, rfl⟩, rfl⟩
theorem tn_o63 : tn_okM tn_m63 := ⟨⟨by decide +kernel, tn_in 680 (by decide +kernel) (by decide +kernel), tn_in 28 (by decide +kernel) (by decide +kernel), by decide +kernel, rfl⟩, rfl⟩
theorem tn_o64 : tn_okM tn_m64 := ⟨⟨by decide +kernel, tn_in 684 (by decide +kernel) (by decide +kernel), tn_in 28 (by decide +kernel) (by decide +kernel), by decide +kernel, rfl⟩, rfl⟩
theorem tn_o65 : tn_okM tn_m65 := ⟨⟨by decide +kernel, tn_in 689 (by decide +kernel) (by decide +kernel), tn_in 28 (by decide +kernel) (by decide +kernel), by decide +kernel, rfl⟩, rfl⟩
theorem tn_o66 : tn_okM tn_m66 := ⟨⟨by decide +kernel, tn_in 693 (by decide +kernel) (by decide +kernel), tn_in 28 (by decide +kernel) (by decide +kernel), by decide +kernel, rfl⟩, rfl⟩
theorem tn_o67 : tn_okM tn_m67 := ⟨⟨by decide +kernel, tn_in 697 (by decide +kernel) (by decide +kernel), tn_in 28 (by decide +kernel) (by decide +kernel), by decide +kernel, rfl⟩, rfl⟩
theorem tn_o68 : tn_okM tn_m68 := ⟨⟨by decide +kernel, tn_in 701 (by decide +kernel) (by decide +kernel), tn_in 28 (by decide +kernel) (by decide +kernel), by decide +kernel, rfl⟩, rfl⟩
theorem tn_o69 : tn_okM tn_m69 := ⟨⟨by decide +kernel, tn_in 705 (by decide +kernel) (by decide +kernel), tn_in 28 (by decide +kernel) (by decide +kernel), by decide +kernel, rfl⟩, rfl⟩
theorem tn_o70 : tn_okM tn_m70 := ⟨⟨by decide +kernel, tn_in 709 (by decide +kernel) (by decide +kernel), tn_in 28 (by decide +kernel) (by decide +kernel), by decide +kernel, rfl⟩, rfl⟩
theorem tn_o71 : tn_okM tn_m71 := ⟨⟨by decide +kernel, tn_in 713 (by decide +kernel) (by decide +kernel), tn_in 28 (by decide +kernel) (by decide +kernel), by decide +kernel, rfl⟩, rfl⟩
theorem tn_o72 : tn_okM tn_m72 := ⟨⟨by decide +kernel, tn_in 717 (by decide +kernel) (by decide +kernel), tn_in 28 (by decide +kernel) (by decide +kernel), by decide +kernel, rfl⟩, rfl⟩
theorem tn_o73 : tn_okM tn_m73 := ⟨⟨by decide +kernel, tn_in 721 (by decide +kernel) (by decide +kernel), tn_in 28 (by decide +kernel) (by decide +kernel), by decide +kernel, rfl⟩, rfl⟩
theorem tn_o74 : tn_okM tn_m74 := ⟨⟨by decide +kernel, tn_in 725 (by decide +kernel) (by decide +kernel), tn_in 28 (by decide +kernel) (by decide +kernel), by decide +kernel, rfl⟩, rfl⟩
theorem tn_o75 : tn_okM tn_m75 := ⟨⟨by decide +kernel, tn_in 729 (by decide +kernel) (by decide +kernel), tn_in 28 (by decide +kernel) (by decide +kernel), by decide +kernel, rfl⟩, rfl⟩
theorem tn_o76 : tn_okM tn_m76 := ⟨⟨by decide +kernel, tn_in 733 (by decide +kernel) (by decide +kernel), tn_in 28 (by decide +kernel) (by decide +kernel), by decide +kernel, rfl⟩, rfl⟩
theorem tn_o77 : tn_okM tn_m77 := ⟨⟨by decide +kernel, tn_in 448 (by decide +kernel) (by decide +kernel), tn_in 34 (by decide +kernel) (by decide +kernel), by decide +kernel, rfl⟩, rfl⟩
theorem tn_o78 : tn_okM tn_m78 := ⟨⟨by decide +kernel, tn_in 396 (by decide +kernel) (by decide +kernel), tn_in 35 (by decide +kernel) (by decide +kernel), by decide +kernel, rfl⟩, rfl⟩
set_option maxRecDepth 20000 in
theorem tn_oM : ∀ M ∈ tn_M, tn_okM M := List.forall_mem_cons.mpr ⟨tn_o0, List.forall_mem_cons.mpr ⟨tn_o1, List.forall_mem_cons.mpr ⟨tn_o2, List.forall_mem_cons.mpr ⟨tn_o3, List.forall_mem_cons.mpr ⟨tn_o4, List.forall_mem_cons.mpr ⟨tn_o5, List.forall_mem_cons.mpr ⟨tn_o6, List.forall_mem_cons.mpr ⟨tn_o7, List.forall_mem_cons.mpr ⟨tn_o8, List.forall_mem_cons.mpr ⟨tn_o9, List.forall_mem_cons.mpr ⟨tn_o10, List.forall_mem_cons.mpr ⟨tn_o11, List.forall_mem_cons.mpr ⟨tn_o12, List.forall_mem_cons.mpr ⟨tn_o13, List.forall_mem_cons.mpr ⟨tn_o14, List.forall_mem_cons.mpr ⟨tn_o15, List.forall_mem_cons.mpr ⟨tn_o16, List.forall_mem_cons.mpr ⟨tn_o17, List.forall_mem_cons.mpr ⟨tn_o18, List.forall_mem_cons.mpr ⟨tn_o19, List.forall_mem_cons.mpr ⟨tn_o20, List.forall_mem_cons.mpr ⟨tn_o21, List.forall_mem_cons.mpr ⟨tn_o22, List.forall_mem_cons.mpr ⟨tn_o23, List.forall_mem_cons.mpr ⟨tn_o24, List.forall_mem_cons.mpr ⟨tn_o25, List.forall_mem_cons.mpr ⟨tn_o26, List.forall_mem_cons.mpr ⟨tn_o27, List.forall_mem_cons.mpr ⟨tn_o28, List.forall_mem_cons.mpr ⟨tn_o29, List.forall_mem_cons.mpr ⟨tn_o30, List.forall_mem_cons.mpr ⟨tn_o31, List.forall_mem_cons.mpr ⟨tn_o32, List.forall_mem_cons.mpr ⟨tn_o33, List.forall_mem_cons.mpr ⟨tn_o34, List.forall_mem_cons.mpr ⟨tn_o35, List.forall_mem_cons.mpr ⟨tn_o36, List.forall_mem_cons.mpr ⟨tn_o37, List.forall_mem_cons.mpr ⟨tn_o38, List.forall_mem_cons.mpr ⟨tn_o39, List.forall_mem_cons.mpr ⟨tn_o40, List.forall_mem_cons.mpr ⟨tn_o41, List.forall_mem_cons.mpr ⟨tn_o42, List.forall_mem_cons.mpr ⟨tn_o43, List.forall_mem_cons.mpr ⟨tn_o44, List.forall_mem_cons.mpr ⟨tn_o45, List.forall_mem_cons.mpr ⟨tn_o46, List.forall_mem_cons.mpr ⟨tn_o47, List.forall_mem_cons.mpr ⟨tn_o48, List.forall_mem_cons.mpr ⟨tn_o49, List.forall_mem_cons.mpr ⟨tn_o50, List.forall_mem_cons.mpr ⟨tn_o51, List.forall_mem_cons.mpr ⟨tn_o52, List.forall_mem_cons.mpr ⟨tn_o53, List.forall_mem_cons.mpr ⟨tn_o54, List.forall_mem_cons.mpr ⟨tn_o55, List.forall_mem_cons.mpr ⟨tn_o56, List.forall_mem_cons.mpr ⟨tn_o57, List.forall_mem_cons.mpr ⟨tn_o58, List.forall_mem_cons.mpr ⟨tn_o59, List.forall_mem_cons.mpr ⟨tn_o60, List.forall_mem_cons.mpr ⟨tn_o61, List.forall_mem_cons.mpr ⟨tn_o62, List.forall_mem_cons.mpr ⟨tn_o63, List.forall_mem_cons.mpr ⟨tn_o64, List.forall_mem_cons.mpr ⟨tn_o65, List.forall_mem_cons.mpr ⟨tn_o66, List.forall_mem_cons.mpr ⟨tn_o67, List.forall_mem_cons.mpr ⟨tn_o68, List.forall_mem_cons.mpr ⟨tn_o69, List.forall_mem_cons.mpr ⟨tn_o70, List.forall_mem_cons.mpr ⟨tn_o71, List.forall_mem_cons.mpr ⟨tn_o72, List.forall_mem_cons.mpr ⟨tn_o73, List.forall_mem_cons.mpr ⟨tn_o74, List.forall_mem_cons.mpr ⟨tn_o75, List.forall_mem_cons.mpr ⟨tn_o76, List.forall_mem_cons.mpr ⟨tn_o77, List.forall_mem_cons.mpr ⟨tn_o78, fun _ h => absurd h List.not_mem_nil⟩⟩⟩⟩⟩⟩⟩⟩⟩⟩⟩⟩⟩⟩⟩⟩⟩⟩⟩⟩⟩⟩⟩⟩⟩⟩⟩⟩⟩⟩⟩⟩⟩⟩⟩⟩⟩⟩⟩⟩⟩⟩⟩⟩⟩⟩⟩⟩⟩⟩⟩⟩⟩⟩⟩⟩⟩⟩⟩⟩⟩⟩⟩⟩⟩⟩⟩⟩⟩⟩⟩⟩⟩⟩⟩⟩⟩⟩⟩
theorem tn_mM {μ : Nat} {M : am_M} (h : am_m tn_G μ = some M) : tn_okM M := tn_oM M (List.mem_of_getElem? h)
def tn_okF (q : (Nat × Nat) × (Nat × Nat)) : Prop := ∃ (C : String) (T : u_T) (N : Nat) (ty : Nat → FieldType), tn_cl[q.2.1]? = some (C, T, N) ∧ q.2.2 < N ∧ (T q.2.2).1 = C ∧ (∀ w ∈ u_ws C T N, w ∈ tn_TS) ∧ (∀ j, j < N → parseFieldDescriptor (T j).2.2.1 = some (ty j)) ∧ (∀ a, a < N → ∀ b, b < N → a ≠ b → (T a).2.1 ≠ (T b).2.1) ∧
    (Cond.fieldLink (tn_cn q.1.1) q.1.2 C (T q.2.2).2.1 (T q.2.2).2.2.1 ∈ tn_TS ∨ ∃ host, Cond.fieldLinkNest (tn_cn q.1.1) q.1.2 C (T q.2.2).2.1 (T q.2.2).2.2.1 host ∈ tn_NS)
theorem tn_f0 : tn_okF ((0, 15), (0, 2)) := ⟨tn_R0, tn_T0, 6, tn_ty0, rfl, by decide, rfl, tn_iw0, tn_to0, tn_nm0, Or.inl (tn_in 83 (by decide +kernel) (by decide +kernel))⟩
theorem tn_f1 : tn_okF ((0, 18), (0, 3)) := ⟨tn_R0, tn_T0, 6, tn_ty0, rfl, by decide, rfl, tn_iw0, tn_to0, tn_nm0, Or.inl (tn_in 84 (by decide +kernel) (by decide +kernel))⟩
theorem tn_f2 : tn_okF ((0, 21), (0, 4)) := ⟨tn_R0, tn_T0, 6, tn_ty0, rfl, by decide, rfl, tn_iw0, tn_to0, tn_nm0, Or.inl (tn_in 85 (by decide +kernel) (by decide +kernel))⟩
theorem tn_f3 : tn_okF ((0, 24), (0, 5)) := ⟨tn_R0, tn_T0, 6, tn_ty0, rfl, by decide, rfl, tn_iw0, tn_to0, tn_nm0, Or.inl (tn_in 86 (by decide +kernel) (by decide +kernel))⟩
theorem tn_f4 : tn_okF ((0, 28), (0, 0)) := ⟨tn_R0, tn_T0, 6, tn_ty0, rfl, by decide, rfl, tn_iw0, tn_to0, tn_nm0, Or.inl (tn_in 80 (by decide +kernel) (by decide +kernel))⟩
theorem tn_f5 : tn_okF ((0, 32), (1, 1)) := ⟨tn_R1, tn_T1, 5, tn_ty1, rfl, by decide, rfl, tn_iw1, tn_to1, tn_nm1, Or.inr ⟨"TermNet", by decide +kernel⟩⟩
theorem tn_f6 : tn_okF ((0, 48), (1, 4)) := ⟨tn_R1, tn_T1, 5, tn_ty1, rfl, by decide, rfl, tn_iw1, tn_to1, tn_nm1, Or.inr ⟨"TermNet", by decide +kernel⟩⟩
theorem tn_f7 : tn_okF ((0, 9), (0, 1)) := ⟨tn_R0, tn_T0, 6, tn_ty0, rfl, by decide, rfl, tn_iw0, tn_to0, tn_nm0, Or.inl (tn_in 82 (by decide +kernel) (by decide +kernel))⟩
theorem tn_f8 : tn_okF ((1, 15), (1, 1)) := ⟨tn_R1, tn_T1, 5, tn_ty1, rfl, by decide, rfl, tn_iw1, tn_to1, tn_nm1, Or.inl (tn_in 52 (by decide +kernel) (by decide +kernel))⟩
theorem tn_f9 : tn_okF ((1, 18), (1, 2)) := ⟨tn_R1, tn_T1, 5, tn_ty1, rfl, by decide, rfl, tn_iw1, tn_to1, tn_nm1, Or.inl (tn_in 56 (by decide +kernel) (by decide +kernel))⟩
theorem tn_f10 : tn_okF ((1, 21), (1, 3)) := ⟨tn_R1, tn_T1, 5, tn_ty1, rfl, by decide, rfl, tn_iw1, tn_to1, tn_nm1, Or.inl (tn_in 57 (by decide +kernel) (by decide +kernel))⟩
theorem tn_f11 : tn_okF ((1, 25), (1, 4)) := ⟨tn_R1, tn_T1, 5, tn_ty1, rfl, by decide, rfl, tn_iw1, tn_to1, tn_nm1, Or.inl (tn_in 59 (by decide +kernel) (by decide +kernel))⟩
theorem tn_f12 : tn_okF ((1, 9), (1, 0)) := ⟨tn_R1, tn_T1, 5, tn_ty1, rfl, by decide, rfl, tn_iw1, tn_to1, tn_nm1, Or.inl (tn_in 51 (by decide +kernel) (by decide +kernel))⟩
theorem tn_f13 : tn_okF ((2, 11), (2, 1)) := ⟨tn_R2, tn_T2, 4, tn_ty2, rfl, by decide, rfl, tn_iw2, tn_to2, tn_nm2, Or.inl (tn_in 141 (by decide +kernel) (by decide +kernel))⟩
theorem tn_f14 : tn_okF ((2, 15), (2, 2)) := ⟨tn_R2, tn_T2, 4, tn_ty2, rfl, by decide, rfl, tn_iw2, tn_to2, tn_nm2, Or.inl (tn_in 142 (by decide +kernel) (by decide +kernel))⟩
theorem tn_f15 : tn_okF ((2, 18), (2, 3)) := ⟨tn_R2, tn_T2, 4, tn_ty2, rfl, by decide, rfl, tn_iw2, tn_to2, tn_nm2, Or.inl (tn_in 143 (by decide +kernel) (by decide +kernel))⟩
theorem tn_f16 : tn_okF ((2, 21), (2, 0)) := ⟨tn_R2, tn_T2, 4, tn_ty2, rfl, by decide, rfl, tn_iw2, tn_to2, tn_nm2, Or.inl (tn_in 140 (by decide +kernel) (by decide +kernel))⟩
theorem tn_f17 : tn_okF ((2, 31), (3, 7)) := ⟨tn_R3, tn_T3, 8, tn_ty3, rfl, by decide, rfl, tn_iw3, tn_to3, tn_nm3, Or.inr ⟨"TermNet", by decide +kernel⟩⟩
theorem tn_f18 : tn_okF ((2, 37), (3, 4)) := ⟨tn_R3, tn_T3, 8, tn_ty3, rfl, by decide, rfl, tn_iw3, tn_to3, tn_nm3, Or.inr ⟨"TermNet", by decide +kernel⟩⟩
theorem tn_f19 : tn_okF ((2, 63), (0, 0)) := ⟨tn_R0, tn_T0, 6, tn_ty0, rfl, by decide, rfl, tn_iw0, tn_to0, tn_nm0, Or.inr ⟨"TermNet", by decide +kernel⟩⟩
theorem tn_f20 : tn_okF ((2, 67), (1, 1)) := ⟨tn_R1, tn_T1, 5, tn_ty1, rfl, by decide, rfl, tn_iw1, tn_to1, tn_nm1, Or.inr ⟨"TermNet", by decide +kernel⟩⟩
theorem tn_f21 : tn_okF ((3, 15), (3, 2)) := ⟨tn_R3, tn_T3, 8, tn_ty3, rfl, by decide, rfl, tn_iw3, tn_to3, tn_nm3, Or.inl (tn_in 109 (by decide +kernel) (by decide +kernel))⟩
theorem tn_f22 : tn_okF ((3, 18), (3, 3)) := ⟨tn_R3, tn_T3, 8, tn_ty3, rfl, by decide, rfl, tn_iw3, tn_to3, tn_nm3, Or.inl (tn_in 110 (by decide +kernel) (by decide +kernel))⟩
theorem tn_f23 : tn_okF ((3, 21), (3, 4)) := ⟨tn_R3, tn_T3, 8, tn_ty3, rfl, by decide, rfl, tn_iw3, tn_to3, tn_nm3, Or.inl (tn_in 111 (by decide +kernel) (by decide +kernel))⟩
theorem tn_f24 : tn_okF ((3, 24), (3, 5)) := ⟨tn_R3, tn_T3, 8, tn_ty3, rfl, by decide, rfl, tn_iw3, tn_to3, tn_nm3, Or.inl (tn_in 113 (by decide +kernel) (by decide +kernel))⟩
theorem tn_f25 : tn_okF ((3, 27), (3, 6)) := ⟨tn_R3, tn_T3, 8, tn_ty3, rfl, by decide, rfl, tn_iw3, tn_to3, tn_nm3, Or.inl (tn_in 114 (by decide +kernel) (by decide +kernel))⟩
theorem tn_f26 : tn_okF ((3, 31), (3, 7)) := ⟨tn_R3, tn_T3, 8, tn_ty3, rfl, by decide, rfl, tn_iw3, tn_to3, tn_nm3, Or.inl (tn_in 115 (by decide +kernel) (by decide +kernel))⟩
theorem tn_f27 : tn_okF ((3, 34), (3, 0)) := ⟨tn_R3, tn_T3, 8, tn_ty3, rfl, by decide, rfl, tn_iw3, tn_to3, tn_nm3, Or.inl (tn_in 107 (by decide +kernel) (by decide +kernel))⟩
theorem tn_f28 : tn_okF ((3, 9), (3, 1)) := ⟨tn_R3, tn_T3, 8, tn_ty3, rfl, by decide, rfl, tn_iw3, tn_to3, tn_nm3, Or.inl (tn_in 108 (by decide +kernel) (by decide +kernel))⟩
theorem tn_f29 : tn_okF ((4, 10), (4, 0)) := ⟨tn_R4, tn_T4, 9, tn_ty4, rfl, by decide, rfl, tn_iw4, tn_to4, tn_nm4, Or.inl (tn_in 153 (by decide +kernel) (by decide +kernel))⟩
theorem tn_f30 : tn_okF ((4, 104), (0, 5)) := ⟨tn_R0, tn_T0, 6, tn_ty0, rfl, by decide, rfl, tn_iw0, tn_to0, tn_nm0, Or.inr ⟨"TermNet", by decide +kernel⟩⟩
theorem tn_f31 : tn_okF ((4, 115), (1, 4)) := ⟨tn_R1, tn_T1, 5, tn_ty1, rfl, by decide, rfl, tn_iw1, tn_to1, tn_nm1, Or.inr ⟨"TermNet", by decide +kernel⟩⟩
theorem tn_f32 : tn_okF ((4, 134), (1, 1)) := ⟨tn_R1, tn_T1, 5, tn_ty1, rfl, by decide, rfl, tn_iw1, tn_to1, tn_nm1, Or.inr ⟨"TermNet", by decide +kernel⟩⟩
theorem tn_f33 : tn_okF ((4, 21), (4, 1)) := ⟨tn_R4, tn_T4, 9, tn_ty4, rfl, by decide, rfl, tn_iw4, tn_to4, tn_nm4, Or.inl (tn_in 154 (by decide +kernel) (by decide +kernel))⟩
theorem tn_f34 : tn_okF ((4, 30), (4, 2)) := ⟨tn_R4, tn_T4, 9, tn_ty4, rfl, by decide, rfl, tn_iw4, tn_to4, tn_nm4, Or.inl (tn_in 155 (by decide +kernel) (by decide +kernel))⟩
theorem tn_f35 : tn_okF ((4, 37), (4, 3)) := ⟨tn_R4, tn_T4, 9, tn_ty4, rfl, by decide, rfl, tn_iw4, tn_to4, tn_nm4, Or.inl (tn_in 156 (by decide +kernel) (by decide +kernel))⟩
theorem tn_f36 : tn_okF ((4, 41), (4, 4)) := ⟨tn_R4, tn_T4, 9, tn_ty4, rfl, by decide, rfl, tn_iw4, tn_to4, tn_nm4, Or.inl (tn_in 157 (by decide +kernel) (by decide +kernel))⟩
theorem tn_f37 : tn_okF ((4, 45), (4, 5)) := ⟨tn_R4, tn_T4, 9, tn_ty4, rfl, by decide, rfl, tn_iw4, tn_to4, tn_nm4, Or.inl (tn_in 158 (by decide +kernel) (by decide +kernel))⟩
theorem tn_f38 : tn_okF ((4, 48), (4, 6)) := ⟨tn_R4, tn_T4, 9, tn_ty4, rfl, by decide, rfl, tn_iw4, tn_to4, tn_nm4, Or.inl (tn_in 159 (by decide +kernel) (by decide +kernel))⟩
theorem tn_f39 : tn_okF ((4, 51), (4, 7)) := ⟨tn_R4, tn_T4, 9, tn_ty4, rfl, by decide, rfl, tn_iw4, tn_to4, tn_nm4, Or.inl (tn_in 160 (by decide +kernel) (by decide +kernel))⟩
theorem tn_f40 : tn_okF ((4, 55), (4, 8)) := ⟨tn_R4, tn_T4, 9, tn_ty4, rfl, by decide, rfl, tn_iw4, tn_to4, tn_nm4, Or.inl (tn_in 161 (by decide +kernel) (by decide +kernel))⟩
theorem tn_f41 : tn_okF ((4, 65), (1, 3)) := ⟨tn_R1, tn_T1, 5, tn_ty1, rfl, by decide, rfl, tn_iw1, tn_to1, tn_nm1, Or.inr ⟨"TermNet", by decide +kernel⟩⟩
theorem tn_f42 : tn_okF ((5, 13), (5, 1)) := ⟨tn_R5, tn_T5, 18, tn_ty5, rfl, by decide, rfl, tn_iw5, tn_to5, tn_nm5, Or.inl (tn_in 590 (by decide +kernel) (by decide +kernel))⟩
theorem tn_f43 : tn_okF ((5, 16), (5, 2)) := ⟨tn_R5, tn_T5, 18, tn_ty5, rfl, by decide, rfl, tn_iw5, tn_to5, tn_nm5, Or.inl (tn_in 591 (by decide +kernel) (by decide +kernel))⟩
theorem tn_f44 : tn_okF ((5, 19), (5, 8)) := ⟨tn_R5, tn_T5, 18, tn_ty5, rfl, by decide, rfl, tn_iw5, tn_to5, tn_nm5, Or.inl (tn_in 597 (by decide +kernel) (by decide +kernel))⟩
theorem tn_f45 : tn_okF ((5, 22), (5, 9)) := ⟨tn_R5, tn_T5, 18, tn_ty5, rfl, by decide, rfl, tn_iw5, tn_to5, tn_nm5, Or.inl (tn_in 598 (by decide +kernel) (by decide +kernel))⟩
theorem tn_f46 : tn_okF ((5, 25), (5, 10)) := ⟨tn_R5, tn_T5, 18, tn_ty5, rfl, by decide, rfl, tn_iw5, tn_to5, tn_nm5, Or.inl (tn_in 599 (by decide +kernel) (by decide +kernel))⟩
theorem tn_f47 : tn_okF ((5, 28), (5, 11)) := ⟨tn_R5, tn_T5, 18, tn_ty5, rfl, by decide, rfl, tn_iw5, tn_to5, tn_nm5, Or.inl (tn_in 600 (by decide +kernel) (by decide +kernel))⟩
theorem tn_f48 : tn_okF ((5, 31), (5, 12)) := ⟨tn_R5, tn_T5, 18, tn_ty5, rfl, by decide, rfl, tn_iw5, tn_to5, tn_nm5, Or.inl (tn_in 601 (by decide +kernel) (by decide +kernel))⟩
theorem tn_f49 : tn_okF ((5, 34), (5, 13)) := ⟨tn_R5, tn_T5, 18, tn_ty5, rfl, by decide, rfl, tn_iw5, tn_to5, tn_nm5, Or.inl (tn_in 602 (by decide +kernel) (by decide +kernel))⟩
theorem tn_f50 : tn_okF ((5, 37), (5, 14)) := ⟨tn_R5, tn_T5, 18, tn_ty5, rfl, by decide, rfl, tn_iw5, tn_to5, tn_nm5, Or.inl (tn_in 603 (by decide +kernel) (by decide +kernel))⟩
theorem tn_f51 : tn_okF ((5, 40), (5, 15)) := ⟨tn_R5, tn_T5, 18, tn_ty5, rfl, by decide, rfl, tn_iw5, tn_to5, tn_nm5, Or.inl (tn_in 604 (by decide +kernel) (by decide +kernel))⟩
theorem tn_f52 : tn_okF ((5, 43), (5, 16)) := ⟨tn_R5, tn_T5, 18, tn_ty5, rfl, by decide, rfl, tn_iw5, tn_to5, tn_nm5, Or.inl (tn_in 605 (by decide +kernel) (by decide +kernel))⟩
theorem tn_f53 : tn_okF ((5, 47), (5, 17)) := ⟨tn_R5, tn_T5, 18, tn_ty5, rfl, by decide, rfl, tn_iw5, tn_to5, tn_nm5, Or.inl (tn_in 606 (by decide +kernel) (by decide +kernel))⟩
theorem tn_f54 : tn_okF ((5, 50), (5, 7)) := ⟨tn_R5, tn_T5, 18, tn_ty5, rfl, by decide, rfl, tn_iw5, tn_to5, tn_nm5, Or.inl (tn_in 596 (by decide +kernel) (by decide +kernel))⟩
theorem tn_f55 : tn_okF ((5, 54), (5, 4)) := ⟨tn_R5, tn_T5, 18, tn_ty5, rfl, by decide, rfl, tn_iw5, tn_to5, tn_nm5, Or.inl (tn_in 593 (by decide +kernel) (by decide +kernel))⟩
theorem tn_f56 : tn_okF ((5, 57), (5, 3)) := ⟨tn_R5, tn_T5, 18, tn_ty5, rfl, by decide, rfl, tn_iw5, tn_to5, tn_nm5, Or.inl (tn_in 592 (by decide +kernel) (by decide +kernel))⟩
theorem tn_f57 : tn_okF ((5, 80), (5, 6)) := ⟨tn_R5, tn_T5, 18, tn_ty5, rfl, by decide, rfl, tn_iw5, tn_to5, tn_nm5, Or.inl (tn_in 595 (by decide +kernel) (by decide +kernel))⟩
theorem tn_f58 : tn_okF ((5, 87), (5, 5)) := ⟨tn_R5, tn_T5, 18, tn_ty5, rfl, by decide, rfl, tn_iw5, tn_to5, tn_nm5, Or.inl (tn_in 594 (by decide +kernel) (by decide +kernel))⟩
theorem tn_f59 : tn_okF ((5, 9), (5, 0)) := ⟨tn_R5, tn_T5, 18, tn_ty5, rfl, by decide, rfl, tn_iw5, tn_to5, tn_nm5, Or.inl (tn_in 589 (by decide +kernel) (by decide +kernel))⟩
set_option maxRecDepth 20000 in
theorem tn_oF : ∀ q ∈ tn_fl, tn_okF q := List.forall_mem_cons.mpr ⟨tn_f0, List.forall_mem_cons.mpr ⟨tn_f1, List.forall_mem_cons.mpr ⟨tn_f2, List.forall_mem_cons.mpr ⟨tn_f3, List.forall_mem_cons.mpr ⟨tn_f4, List.forall_mem_cons.mpr ⟨tn_f5, List.forall_mem_cons.mpr ⟨tn_f6, List.forall_mem_cons.mpr ⟨tn_f7, List.forall_mem_cons.mpr ⟨tn_f8, List.forall_mem_cons.mpr ⟨tn_f9, List.forall_mem_cons.mpr ⟨tn_f10, List.forall_mem_cons.mpr ⟨tn_f11, List.forall_mem_cons.mpr ⟨tn_f12, List.forall_mem_cons.mpr ⟨tn_f13, List.forall_mem_cons.mpr ⟨tn_f14, List.forall_mem_cons.mpr ⟨tn_f15, List.forall_mem_cons.mpr ⟨tn_f16, List.forall_mem_cons.mpr ⟨tn_f17, List.forall_mem_cons.mpr ⟨tn_f18, List.forall_mem_cons.mpr ⟨tn_f19, List.forall_mem_cons.mpr ⟨tn_f20, List.forall_mem_cons.mpr ⟨tn_f21, List.forall_mem_cons.mpr ⟨tn_f22, List.forall_mem_cons.mpr ⟨tn_f23, List.forall_mem_cons.mpr ⟨tn_f24, List.forall_mem_cons.mpr ⟨tn_f25, List.forall_mem_cons.mpr ⟨tn_f26, List.forall_mem_cons.mpr ⟨tn_f27, List.forall_mem_cons.mpr ⟨tn_f28, List.forall_mem_cons.mpr ⟨tn_f29, List.forall_mem_cons.mpr ⟨tn_f30, List.forall_mem_cons.mpr ⟨tn_f31, List.forall_mem_cons.mpr ⟨tn_f32, List.forall_mem_cons.mpr ⟨tn_f33, List.forall_mem_cons.mpr ⟨tn_f34, List.forall_mem_cons.mpr ⟨tn_f35, List.forall_mem_cons.mpr ⟨tn_f36, List.forall_mem_cons.mpr ⟨tn_f37, List.forall_mem_cons.mpr ⟨tn_f38, List.forall_mem_cons.mpr ⟨tn_f39, List.forall_mem_cons.mpr ⟨tn_f40, List.forall_mem_cons.mpr ⟨tn_f41, List.forall_mem_cons.mpr ⟨tn_f42, List.forall_mem_cons.mpr ⟨tn_f43, List.forall_mem_cons.mpr ⟨tn_f44, List.forall_mem_cons.mpr ⟨tn_f45, List.forall_mem_cons.mpr ⟨tn_f46, List.forall_mem_cons.mpr ⟨tn_f47, List.forall_mem_cons.mpr ⟨tn_f48, List.forall_mem_cons.mpr ⟨tn_f49, List.forall_mem_cons.mpr ⟨tn_f50, List.forall_mem_cons.mpr ⟨tn_f51, List.forall_mem_cons.mpr ⟨tn_f52, List.forall_mem_cons.mpr ⟨tn_f53, List.forall_mem_cons.mpr ⟨tn_f54, List.forall_mem_cons.mpr ⟨tn_f55, List.forall_mem_cons.mpr ⟨tn_f56, List.forall_mem_cons.mpr ⟨tn_f57, List.forall_mem_cons.mpr ⟨tn_f58, List.forall_mem_cons.mpr ⟨tn_f59, fun _ h => absurd h List.not_mem_nil⟩⟩⟩⟩⟩⟩⟩⟩⟩⟩⟩⟩⟩⟩⟩⟩⟩⟩⟩⟩⟩⟩⟩⟩⟩⟩⟩⟩⟩⟩⟩⟩⟩⟩⟩⟩⟩⟩⟩⟩⟩⟩⟩⟩⟩⟩⟩⟩⟩⟩⟩⟩⟩⟩⟩⟩⟩⟩⟩⟩
def tn_okC (q : (Nat × Nat) × (Nat × Nat × Nat)) : Prop := ∃ M : am_M, am_m tn_G q.1.1 = some M ∧
  (q.2.1 = 0 → ∃ M' : am_M, am_m tn_G q.2.2.1 = some M' ∧ Cond.methodLink M.1.cls q.1.2 M'.1 ∈ tn_TS ∧ Cond.instanceMethod M'.1 ∈ tn_TS ∧ Cond.selects M'.1.cls M'.1 M'.1 ∈ tn_TS ∧ (parseMethodDescriptor M'.1.desc).map (fun d => d.parameters.length) = some q.2.2.2 ∧ M'.2.2.2.2.2.frames + 1 ≤ M.2.2.2.2.2.frames ∧ 8 + (M'.2.2.1 + 11) + M'.2.2.2.2.2.locals ≤ M.2.2.2.2.2.locals ∧ ∃ (T : u_T) (N : Nat), tn_cl[M'.2.2.2.2.1]? = some (M'.1.cls, T, N)) ∧
  (q.2.1 = 2 → ∃ M' : am_M, am_m tn_G q.2.2.1 = some M' ∧ Cond.methodLink M.1.cls q.1.2 M'.1 ∈ tn_TS ∧ Cond.static M'.1 ∈ tn_TS ∧ (parseMethodDescriptor M'.1.desc).map (fun d => d.parameters.length) = some q.2.2.2 ∧ M'.2.2.2.2.2.frames + 1 ≤ M.2.2.2.2.2.frames ∧ 8 + (M'.2.2.1 + 11) + M'.2.2.2.2.2.locals ≤ M.2.2.2.2.2.locals) ∧
  (q.2.1 = 3 → Cond.methodLink M.1.cls q.1.2 Lib.Math.max.name ∈ tn_TS ∧ Cond.static Lib.Math.max.name ∈ tn_TS ∧ Cond.initialized "java/lang/Math" ∈ tn_TS ∧ Cond.code Lib.Math.max.name Lib.Math.max.code 2 (some .int) ∈ tn_TS ∧ 1 ≤ M.2.2.2.2.2.frames ∧ 23 ≤ M.2.2.2.2.2.locals) ∧
  (q.2.1 = 4 → Cond.methodLink M.1.cls q.1.2 Lib.Math.min.name ∈ tn_TS ∧ Cond.static Lib.Math.min.name ∈ tn_TS ∧ Cond.initialized "java/lang/Math" ∈ tn_TS ∧ Cond.code Lib.Math.min.name Lib.Math.min.code 2 (some .int) ∈ tn_TS ∧ 1 ≤ M.2.2.2.2.2.frames ∧ 23 ≤ M.2.2.2.2.2.locals) ∧
  (q.2.1 = 5 → Cond.methodLink M.1.cls q.1.2 Lib.MathLoose.min_long.x ∈ tn_TS ∧ Cond.static Lib.MathLoose.min_long.x ∈ tn_TS ∧ Cond.initialized "java/lang/Math" ∈ tn_TS ∧ Cond.code Lib.MathLoose.min_long.x Lib.MathLoose.min_long.code 4 (some .long) ∈ tn_TS ∧ 1 ≤ M.2.2.2.2.2.frames ∧ 23 ≤ M.2.2.2.2.2.locals)
theorem tn_c0 : tn_okC ((2, 70), (0, 4, 2)) := ⟨tn_m2, rfl, (fun _ => ⟨tn_m4, rfl, tn_in 342 (by decide +kernel) (by decide +kernel), tn_in 343 (by decide +kernel) (by decide +kernel), tn_in 344 (by decide +kernel) (by decide +kernel), by decide +kernel, by decide, by decide, tn_T0, _, rfl⟩), (fun h => absurd h (by decide)), (fun h => absurd h (by decide)), (fun h => absurd h (by decide)), (fun h => absurd h (by decide))⟩
theorem tn_c1 : tn_okC ((2, 77), (0, 3, 2)) := ⟨tn_m2, rfl, (fun _ => ⟨tn_m3, rfl, tn_in 330 (by decide +kernel) (by decide +kernel), tn_in 331 (by decide +kernel) (by decide +kernel), tn_in 332 (by decide +kernel) (by decide +kernel), by decide +kernel, by decide, by decide, tn_T0, _, rfl⟩), (fun h => absurd h (by decide)), (fun h => absurd h (by decide)), (fun h => absurd h (by decide)), (fun h => absurd h (by decide))⟩
theorem tn_c2 : tn_okC ((3, 41), (0, 21, 1)) := ⟨tn_m3, rfl, (fun _ => ⟨tn_m21, rfl, tn_in 334 (by decide +kernel) (by decide +kernel), tn_in 335 (by decide +kernel) (by decide +kernel), tn_in 336 (by decide +kernel) (by decide +kernel), by decide +kernel, by decide, by decide, tn_T1, _, rfl⟩), (fun h => absurd h (by decide)), (fun h => absurd h (by decide)), (fun h => absurd h (by decide)), (fun h => absurd h (by decide))⟩
theorem tn_c3 : tn_okC ((3, 44), (0, 22, 2)) := ⟨tn_m3, rfl, (fun _ => ⟨tn_m22, rfl, tn_in 338 (by decide +kernel) (by decide +kernel), tn_in 339 (by decide +kernel) (by decide +kernel), tn_in 340 (by decide +kernel) (by decide +kernel), by decide +kernel, by decide, by decide, tn_T1, _, rfl⟩), (fun h => absurd h (by decide)), (fun h => absurd h (by decide)), (fun h => absurd h (by decide)), (fun h => absurd h (by decide))⟩
theorem tn_c4 : tn_okC ((4, 51), (4, 0, 0)) := ⟨tn_m4, rfl, (fun h => absurd h (by decide)), (fun h => absurd h (by decide)), (fun h => absurd h (by decide)), (fun _ => ⟨tn_in 346 (by decide +kernel) (by decide +kernel), tn_in 347 (by decide +kernel) (by decide +kernel), tn_in 34 (by decide +kernel) (by decide +kernel), tn_in 348 (by decide +kernel) (by decide +kernel), by decide, by decide⟩), (fun h => absurd h (by decide))⟩
theorem tn_c5 : tn_okC ((4, 56), (3, 0, 0)) := ⟨tn_m4, rfl, (fun h => absurd h (by decide)), (fun h => absurd h (by decide)), (fun _ => ⟨tn_in 349 (by decide +kernel) (by decide +kernel), tn_in 350 (by decide +kernel) (by decide +kernel), tn_in 34 (by decide +kernel) (by decide +kernel), tn_in 351 (by decide +kernel) (by decide +kernel), by decide, by decide⟩), (fun h => absurd h (by decide)), (fun h => absurd h (by decide))⟩
theorem tn_c6 : tn_okC ((4, 59), (0, 5, 2)) := ⟨tn_m4, rfl, (fun _ => ⟨tn_m5, rfl, tn_in 352 (by decide +kernel) (by decide +kernel), tn_in 354 (by decide +kernel) (by decide +kernel), tn_in 2 (by decide +kernel) (by decide +kernel), by decide +kernel, by decide, by decide, tn_T0, _, rfl⟩), (fun h => absurd h (by decide)), (fun h => absurd h (by decide)), (fun h => absurd h (by decide)), (fun h => absurd h (by decide))⟩
theorem tn_c7 : tn_okC ((4, 63), (0, 6, 2)) := ⟨tn_m4, rfl, (fun _ => ⟨tn_m6, rfl, tn_in 356 (by decide +kernel) (by decide +kernel), tn_in 358 (by decide +kernel) (by decide +kernel), tn_in 3 (by decide +kernel) (by decide +kernel), by decide +kernel, by decide, by decide, tn_T0, _, rfl⟩), (fun h => absurd h (by decide)), (fun h => absurd h (by decide)), (fun h => absurd h (by decide)), (fun h => absurd h (by decide))⟩
theorem tn_c8 : tn_okC ((7, 66), (0, 8, 1)) := ⟨tn_m7, rfl, (fun _ => ⟨tn_m8, rfl, tn_in 378 (by decide +kernel) (by decide +kernel), tn_in 380 (by decide +kernel) (by decide +kernel), tn_in 5 (by decide +kernel) (by decide +kernel), by decide +kernel, by decide, by decide, tn_T0, _, rfl⟩), (fun h => absurd h (by decide)), (fun h => absurd h (by decide)), (fun h => absurd h (by decide)), (fun h => absurd h (by decide))⟩
theorem tn_c9 : tn_okC ((8, 37), (0, 9, 1)) := ⟨tn_m8, rfl, (fun _ => ⟨tn_m9, rfl, tn_in 382 (by decide +kernel) (by decide +kernel), tn_in 383 (by decide +kernel) (by decide +kernel), tn_in 384 (by decide +kernel) (by decide +kernel), by decide +kernel, by decide, by decide, tn_T0, _, rfl⟩), (fun h => absurd h (by decide)), (fun h => absurd h (by decide)), (fun h => absurd h (by decide)), (fun h => absurd h (by decide))⟩
theorem tn_c10 : tn_okC ((8, 41), (0, 21, 1)) := ⟨tn_m8, rfl, (fun _ => ⟨tn_m21, rfl, tn_in 334 (by decide +kernel) (by decide +kernel), tn_in 335 (by decide +kernel) (by decide +kernel), tn_in 336 (by decide +kernel) (by decide +kernel), by decide +kernel, by decide, by decide, tn_T1, _, rfl⟩), (fun h => absurd h (by decide)), (fun h => absurd h (by decide)), (fun h => absurd h (by decide)), (fun h => absurd h (by decide))⟩
theorem tn_c11 : tn_okC ((8, 44), (0, 22, 2)) := ⟨tn_m8, rfl, (fun _ => ⟨tn_m22, rfl, tn_in 338 (by decide +kernel) (by decide +kernel), tn_in 339 (by decide +kernel) (by decide +kernel), tn_in 340 (by decide +kernel) (by decide +kernel), by decide +kernel, by decide, by decide, tn_T1, _, rfl⟩), (fun h => absurd h (by decide)), (fun h => absurd h (by decide)), (fun h => absurd h (by decide)), (fun h => absurd h (by decide))⟩
theorem tn_c12 : tn_okC ((8, 70), (0, 4, 2)) := ⟨tn_m8, rfl, (fun _ => ⟨tn_m4, rfl, tn_in 342 (by decide +kernel) (by decide +kernel), tn_in 343 (by decide +kernel) (by decide +kernel), tn_in 344 (by decide +kernel) (by decide +kernel), by decide +kernel, by decide, by decide, tn_T0, _, rfl⟩), (fun h => absurd h (by decide)), (fun h => absurd h (by decide)), (fun h => absurd h (by decide)), (fun h => absurd h (by decide))⟩
theorem tn_c13 : tn_okC ((11, 37), (0, 9, 1)) := ⟨tn_m11, rfl, (fun _ => ⟨tn_m9, rfl, tn_in 382 (by decide +kernel) (by decide +kernel), tn_in 383 (by decide +kernel) (by decide +kernel), tn_in 384 (by decide +kernel) (by decide +kernel), by decide +kernel, by decide, by decide, tn_T0, _, rfl⟩), (fun h => absurd h (by decide)), (fun h => absurd h (by decide)), (fun h => absurd h (by decide)), (fun h => absurd h (by decide))⟩
theorem tn_c14 : tn_okC ((11, 41), (0, 21, 1)) := ⟨tn_m11, rfl, (fun _ => ⟨tn_m21, rfl, tn_in 334 (by decide +kernel) (by decide +kernel), tn_in 335 (by decide +kernel) (by decide +kernel), tn_in 336 (by decide +kernel) (by decide +kernel), by decide +kernel, by decide, by decide, tn_T1, _, rfl⟩), (fun h => absurd h (by decide)), (fun h => absurd h (by decide)), (fun h => absurd h (by decide)), (fun h => absurd h (by decide))⟩
theorem tn_c15 : tn_okC ((12, 37), (0, 9, 1)) := ⟨tn_m12, rfl, (fun _ => ⟨tn_m9, rfl, tn_in 382 (by decide +kernel) (by decide +kernel), tn_in 383 (by decide +kernel) (by decide +kernel), tn_in 384 (by decide +kernel) (by decide +kernel), by decide +kernel, by decide, by decide, tn_T0, _, rfl⟩), (fun h => absurd h (by decide)), (fun h => absurd h (by decide)), (fun h => absurd h (by decide)), (fun h => absurd h (by decide))⟩
theorem tn_c16 : tn_okC ((12, 44), (0, 22, 2)) := ⟨tn_m12, rfl, (fun _ => ⟨tn_m22, rfl, tn_in 338 (by decide +kernel) (by decide +kernel), tn_in 339 (by decide +kernel) (by decide +kernel), tn_in 340 (by decide +kernel) (by decide +kernel), by decide +kernel, by decide, by decide, tn_T1, _, rfl⟩), (fun h => absurd h (by decide)), (fun h => absurd h (by decide)), (fun h => absurd h (by decide)), (fun h => absurd h (by decide))⟩
theorem tn_c17 : tn_okC ((13, 73), (0, 14, 1)) := ⟨tn_m13, rfl, (fun _ => ⟨tn_m14, rfl, tn_in 425 (by decide +kernel) (by decide +kernel), tn_in 427 (by decide +kernel) (by decide +kernel), tn_in 10 (by decide +kernel) (by decide +kernel), by decide +kernel, by decide, by decide, tn_T0, _, rfl⟩), (fun h => absurd h (by decide)), (fun h => absurd h (by decide)), (fun h => absurd h (by decide)), (fun h => absurd h (by decide))⟩
theorem tn_c18 : tn_okC ((14, 59), (0, 5, 2)) := ⟨tn_m14, rfl, (fun _ => ⟨tn_m5, rfl, tn_in 352 (by decide +kernel) (by decide +kernel), tn_in 354 (by decide +kernel) (by decide +kernel), tn_in 2 (by decide +kernel) (by decide +kernel), by decide +kernel, by decide, by decide, tn_T0, _, rfl⟩), (fun h => absurd h (by decide)), (fun h => absurd h (by decide)), (fun h => absurd h (by decide)), (fun h => absurd h (by decide))⟩
theorem tn_c19 : tn_okC ((14, 63), (0, 6, 2)) := ⟨tn_m14, rfl, (fun _ => ⟨tn_m6, rfl, tn_in 356 (by decide +kernel) (by decide +kernel), tn_in 358 (by decide +kernel) (by decide +kernel), tn_in 3 (by decide +kernel) (by decide +kernel), by decide +kernel, by decide, by decide, tn_T0, _, rfl⟩), (fun h => absurd h (by decide)), (fun h => absurd h (by decide)), (fun h => absurd h (by decide)), (fun h => absurd h (by decide))⟩
theorem tn_c20 : tn_okC ((15, 37), (0, 9, 1)) := ⟨tn_m15, rfl, (fun _ => ⟨tn_m9, rfl, tn_in 382 (by decide +kernel) (by decide +kernel), tn_in 383 (by decide +kernel) (by decide +kernel), tn_in 384 (by decide +kernel) (by decide +kernel), by decide +kernel, by decide, by decide, tn_T0, _, rfl⟩), (fun h => absurd h (by decide)), (fun h => absurd h (by decide)), (fun h => absurd h (by decide)), (fun h => absurd h (by decide))⟩
theorem tn_c21 : tn_okC ((18, 28), (0, 19, 1)) := ⟨tn_m18, rfl, (fun _ => ⟨tn_m19, rfl, tn_in 317 (by decide +kernel) (by decide +kernel), tn_in 318 (by decide +kernel) (by decide +kernel), tn_in 319 (by decide +kernel) (by decide +kernel), by decide +kernel, by decide, by decide, tn_T1, _, rfl⟩), (fun h => absurd h (by decide)), (fun h => absurd h (by decide)), (fun h => absurd h (by decide)), (fun h => absurd h (by decide))⟩
theorem tn_c22 : tn_okC ((23, 25), (2, 78, 2)) := ⟨tn_m23, rfl, (fun h => absurd h (by decide)), (fun _ => ⟨tn_m78, rfl, tn_in 433 (by decide +kernel) (by decide +kernel), tn_in 395 (by decide +kernel) (by decide +kernel), by decide +kernel, by decide, by decide⟩), (fun h => absurd h (by decide)), (fun h => absurd h (by decide)), (fun h => absurd h (by decide))⟩
theorem tn_c23 : tn_okC ((23, 40), (0, 24, 1)) := ⟨tn_m23, rfl, (fun _ => ⟨tn_m24, rfl, tn_in 434 (by decide +kernel) (by decide +kernel), tn_in 436 (by decide +kernel) (by decide +kernel), tn_in 11 (by decide +kernel) (by decide +kernel), by decide +kernel, by decide, by decide, tn_T2, _, rfl⟩), (fun h => absurd h (by decide)), (fun h => absurd h (by decide)), (fun h => absurd h (by decide)), (fun h => absurd h (by decide))⟩
theorem tn_c24 : tn_okC ((23, 44), (0, 15, 1)) := ⟨tn_m23, rfl, (fun _ => ⟨tn_m15, rfl, tn_in 438 (by decide +kernel) (by decide +kernel), tn_in 439 (by decide +kernel) (by decide +kernel), tn_in 440 (by decide +kernel) (by decide +kernel), by decide +kernel, by decide, by decide, tn_T0, _, rfl⟩), (fun h => absurd h (by decide)), (fun h => absurd h (by decide)), (fun h => absurd h (by decide)), (fun h => absurd h (by decide))⟩
theorem tn_c25 : tn_okC ((23, 50), (0, 9, 1)) := ⟨tn_m23, rfl, (fun _ => ⟨tn_m9, rfl, tn_in 442 (by decide +kernel) (by decide +kernel), tn_in 383 (by decide +kernel) (by decide +kernel), tn_in 384 (by decide +kernel) (by decide +kernel), by decide +kernel, by decide, by decide, tn_T0, _, rfl⟩), (fun h => absurd h (by decide)), (fun h => absurd h (by decide)), (fun h => absurd h (by decide)), (fun h => absurd h (by decide))⟩
theorem tn_c26 : tn_okC ((23, 53), (2, 77, 2)) := ⟨tn_m23, rfl, (fun h => absurd h (by decide)), (fun _ => ⟨tn_m77, rfl, tn_in 446 (by decide +kernel) (by decide +kernel), tn_in 447 (by decide +kernel) (by decide +kernel), by decide +kernel, by decide, by decide⟩), (fun h => absurd h (by decide)), (fun h => absurd h (by decide)), (fun h => absurd h (by decide))⟩
theorem tn_c27 : tn_okC ((23, 59), (0, 25, 2)) := ⟨tn_m23, rfl, (fun _ => ⟨tn_m25, rfl, tn_in 449 (by decide +kernel) (by decide +kernel), tn_in 451 (by decide +kernel) (by decide +kernel), tn_in 12 (by decide +kernel) (by decide +kernel), by decide +kernel, by decide, by decide, tn_T2, _, rfl⟩), (fun h => absurd h (by decide)), (fun h => absurd h (by decide)), (fun h => absurd h (by decide)), (fun h => absurd h (by decide))⟩
theorem tn_c28 : tn_okC ((24, 44), (0, 15, 1)) := ⟨tn_m24, rfl, (fun _ => ⟨tn_m15, rfl, tn_in 438 (by decide +kernel) (by decide +kernel), tn_in 439 (by decide +kernel) (by decide +kernel), tn_in 440 (by decide +kernel) (by decide +kernel), by decide +kernel, by decide, by decide, tn_T0, _, rfl⟩), (fun h => absurd h (by decide)), (fun h => absurd h (by decide)), (fun h => absurd h (by decide)), (fun h => absurd h (by decide))⟩
theorem tn_c29 : tn_okC ((24, 50), (0, 9, 1)) := ⟨tn_m24, rfl, (fun _ => ⟨tn_m9, rfl, tn_in 442 (by decide +kernel) (by decide +kernel), tn_in 383 (by decide +kernel) (by decide +kernel), tn_in 384 (by decide +kernel) (by decide +kernel), by decide +kernel, by decide, by decide, tn_T0, _, rfl⟩), (fun h => absurd h (by decide)), (fun h => absurd h (by decide)), (fun h => absurd h (by decide)), (fun h => absurd h (by decide))⟩
theorem tn_c30 : tn_okC ((24, 72), (0, 11, 1)) := ⟨tn_m24, rfl, (fun _ => ⟨tn_m11, rfl, tn_in 443 (by decide +kernel) (by decide +kernel), tn_in 414 (by decide +kernel) (by decide +kernel), tn_in 415 (by decide +kernel) (by decide +kernel), by decide +kernel, by decide, by decide, tn_T0, _, rfl⟩), (fun h => absurd h (by decide)), (fun h => absurd h (by decide)), (fun h => absurd h (by decide)), (fun h => absurd h (by decide))⟩
theorem tn_c31 : tn_okC ((24, 76), (0, 12, 2)) := ⟨tn_m24, rfl, (fun _ => ⟨tn_m12, rfl, tn_in 445 (by decide +kernel) (by decide +kernel), tn_in 418 (by decide +kernel) (by decide +kernel), tn_in 419 (by decide +kernel) (by decide +kernel), by decide +kernel, by decide, by decide, tn_T0, _, rfl⟩), (fun h => absurd h (by decide)), (fun h => absurd h (by decide)), (fun h => absurd h (by decide)), (fun h => absurd h (by decide))⟩
theorem tn_c32 : tn_okC ((25, 79), (0, 3, 2)) := ⟨tn_m25, rfl, (fun _ => ⟨tn_m3, rfl, tn_in 453 (by decide +kernel) (by decide +kernel), tn_in 331 (by decide +kernel) (by decide +kernel), tn_in 332 (by decide +kernel) (by decide +kernel), by decide +kernel, by decide, by decide, tn_T0, _, rfl⟩), (fun h => absurd h (by decide)), (fun h => absurd h (by decide)), (fun h => absurd h (by decide)), (fun h => absurd h (by decide))⟩
theorem tn_c33 : tn_okC ((25, 83), (0, 4, 2)) := ⟨tn_m25, rfl, (fun _ => ⟨tn_m4, rfl, tn_in 454 (by decide +kernel) (by decide +kernel), tn_in 343 (by decide +kernel) (by decide +kernel), tn_in 344 (by decide +kernel) (by decide +kernel), by decide +kernel, by decide, by decide, tn_T0, _, rfl⟩), (fun h => absurd h (by decide)), (fun h => absurd h (by decide)), (fun h => absurd h (by decide)), (fun h => absurd h (by decide))⟩
theorem tn_c34 : tn_okC ((26, 38), (0, 27, 0)) := ⟨tn_m26, rfl, (fun _ => ⟨tn_m27, rfl, tn_in 390 (by decide +kernel) (by decide +kernel), tn_in 392 (by decide +kernel) (by decide +kernel), tn_in 6 (by decide +kernel) (by decide +kernel), by decide +kernel, by decide, by decide, tn_T3, _, rfl⟩), (fun h => absurd h (by decide)), (fun h => absurd h (by decide)), (fun h => absurd h (by decide)), (fun h => absurd h (by decide))⟩
theorem tn_c35 : tn_okC ((26, 41), (0, 10, 1)) := ⟨tn_m26, rfl, (fun _ => ⟨tn_m10, rfl, tn_in 397 (by decide +kernel) (by decide +kernel), tn_in 398 (by decide +kernel) (by decide +kernel), tn_in 399 (by decide +kernel) (by decide +kernel), by decide +kernel, by decide, by decide, tn_T0, _, rfl⟩), (fun h => absurd h (by decide)), (fun h => absurd h (by decide)), (fun h => absurd h (by decide)), (fun h => absurd h (by decide))⟩
theorem tn_c36 : tn_okC ((26, 47), (0, 28, 1)) := ⟨tn_m26, rfl, (fun _ => ⟨tn_m28, rfl, tn_in 401 (by decide +kernel) (by decide +kernel), tn_in 403 (by decide +kernel) (by decide +kernel), tn_in 7 (by decide +kernel) (by decide +kernel), by decide +kernel, by decide, by decide, tn_T3, _, rfl⟩), (fun h => absurd h (by decide)), (fun h => absurd h (by decide)), (fun h => absurd h (by decide)), (fun h => absurd h (by decide))⟩
theorem tn_c37 : tn_okC ((27, 82), (2, 78, 2)) := ⟨tn_m27, rfl, (fun h => absurd h (by decide)), (fun _ => ⟨tn_m78, rfl, tn_in 394 (by decide +kernel) (by decide +kernel), tn_in 395 (by decide +kernel) (by decide +kernel), by decide +kernel, by decide, by decide⟩), (fun h => absurd h (by decide)), (fun h => absurd h (by decide)), (fun h => absurd h (by decide))⟩
theorem tn_c38 : tn_okC ((28, 88), (0, 29, 1)) := ⟨tn_m28, rfl, (fun _ => ⟨tn_m29, rfl, tn_in 405 (by decide +kernel) (by decide +kernel), tn_in 407 (by decide +kernel) (by decide +kernel), tn_in 8 (by decide +kernel) (by decide +kernel), by decide +kernel, by decide, by decide, tn_T3, _, rfl⟩), (fun h => absurd h (by decide)), (fun h => absurd h (by decide)), (fun h => absurd h (by decide)), (fun h => absurd h (by decide))⟩
theorem tn_c39 : tn_okC ((28, 91), (0, 30, 1)) := ⟨tn_m28, rfl, (fun _ => ⟨tn_m30, rfl, tn_in 409 (by decide +kernel) (by decide +kernel), tn_in 411 (by decide +kernel) (by decide +kernel), tn_in 9 (by decide +kernel) (by decide +kernel), by decide +kernel, by decide, by decide, tn_T3, _, rfl⟩), (fun h => absurd h (by decide)), (fun h => absurd h (by decide)), (fun h => absurd h (by decide)), (fun h => absurd h (by decide))⟩
theorem tn_c40 : tn_okC ((30, 58), (0, 11, 1)) := ⟨tn_m30, rfl, (fun _ => ⟨tn_m11, rfl, tn_in 413 (by decide +kernel) (by decide +kernel), tn_in 414 (by decide +kernel) (by decide +kernel), tn_in 415 (by decide +kernel) (by decide +kernel), by decide +kernel, by decide, by decide, tn_T0, _, rfl⟩), (fun h => absurd h (by decide)), (fun h => absurd h (by decide)), (fun h => absurd h (by decide)), (fun h => absurd h (by decide))⟩
theorem tn_c41 : tn_okC ((30, 61), (0, 12, 2)) := ⟨tn_m30, rfl, (fun _ => ⟨tn_m12, rfl, tn_in 417 (by decide +kernel) (by decide +kernel), tn_in 418 (by decide +kernel) (by decide +kernel), tn_in 419 (by decide +kernel) (by decide +kernel), by decide +kernel, by decide, by decide, tn_T0, _, rfl⟩), (fun h => absurd h (by decide)), (fun h => absurd h (by decide)), (fun h => absurd h (by decide)), (fun h => absurd h (by decide))⟩
theorem tn_c42 : tn_okC ((30, 88), (0, 29, 1)) := ⟨tn_m30, rfl, (fun _ => ⟨tn_m29, rfl, tn_in 405 (by decide +kernel) (by decide +kernel), tn_in 407 (by decide +kernel) (by decide +kernel), tn_in 8 (by decide +kernel) (by decide +kernel), by decide +kernel, by decide, by decide, tn_T3, _, rfl⟩), (fun h => absurd h (by decide)), (fun h => absurd h (by decide)), (fun h => absurd h (by decide)), (fun h => absurd h (by decide))⟩
theorem tn_c43 : tn_okC ((31, 41), (0, 10, 1)) := ⟨tn_m31, rfl, (fun _ => ⟨tn_m10, rfl, tn_in 397 (by decide +kernel) (by decide +kernel), tn_in 398 (by decide +kernel) (by decide +kernel), tn_in 399 (by decide +kernel) (by decide +kernel), by decide +kernel, by decide, by decide, tn_T0, _, rfl⟩), (fun h => absurd h (by decide)), (fun h => absurd h (by decide)), (fun h => absurd h (by decide)), (fun h => absurd h (by decide))⟩
theorem tn_c44 : tn_okC ((31, 51), (0, 32, 1)) := ⟨tn_m31, rfl, (fun _ => ⟨tn_m32, rfl, tn_in 516 (by decide +kernel) (by decide +kernel), tn_in 518 (by decide +kernel) (by decide +kernel), tn_in 13 (by decide +kernel) (by decide +kernel), by decide +kernel, by decide, by decide, tn_T3, _, rfl⟩), (fun h => absurd h (by decide)), (fun h => absurd h (by decide)), (fun h => absurd h (by decide)), (fun h => absurd h (by decide))⟩
theorem tn_c45 : tn_okC ((31, 55), (0, 33, 1)) := ⟨tn_m31, rfl, (fun _ => ⟨tn_m33, rfl, tn_in 520 (by decide +kernel) (by decide +kernel), tn_in 522 (by decide +kernel) (by decide +kernel), tn_in 14 (by decide +kernel) (by decide +kernel), by decide +kernel, by decide, by decide, tn_T3, _, rfl⟩), (fun h => absurd h (by decide)), (fun h => absurd h (by decide)), (fun h => absurd h (by decide)), (fun h => absurd h (by decide))⟩
theorem tn_c46 : tn_okC ((32, 38), (0, 27, 0)) := ⟨tn_m32, rfl, (fun _ => ⟨tn_m27, rfl, tn_in 390 (by decide +kernel) (by decide +kernel), tn_in 392 (by decide +kernel) (by decide +kernel), tn_in 6 (by decide +kernel) (by decide +kernel), by decide +kernel, by decide, by decide, tn_T3, _, rfl⟩), (fun h => absurd h (by decide)), (fun h => absurd h (by decide)), (fun h => absurd h (by decide)), (fun h => absurd h (by decide))⟩
theorem tn_c47 : tn_okC ((32, 41), (0, 10, 1)) := ⟨tn_m32, rfl, (fun _ => ⟨tn_m10, rfl, tn_in 397 (by decide +kernel) (by decide +kernel), tn_in 398 (by decide +kernel) (by decide +kernel), tn_in 399 (by decide +kernel) (by decide +kernel), by decide +kernel, by decide, by decide, tn_T0, _, rfl⟩), (fun h => absurd h (by decide)), (fun h => absurd h (by decide)), (fun h => absurd h (by decide)), (fun h => absurd h (by decide))⟩
theorem tn_c48 : tn_okC ((32, 47), (0, 28, 1)) := ⟨tn_m32, rfl, (fun _ => ⟨tn_m28, rfl, tn_in 401 (by decide +kernel) (by decide +kernel), tn_in 403 (by decide +kernel) (by decide +kernel), tn_in 7 (by decide +kernel) (by decide +kernel), by decide +kernel, by decide, by decide, tn_T3, _, rfl⟩), (fun h => absurd h (by decide)), (fun h => absurd h (by decide)), (fun h => absurd h (by decide)), (fun h => absurd h (by decide))⟩
theorem tn_c49 : tn_okC ((33, 58), (0, 11, 1)) := ⟨tn_m33, rfl, (fun _ => ⟨tn_m11, rfl, tn_in 413 (by decide +kernel) (by decide +kernel), tn_in 414 (by decide +kernel) (by decide +kernel), tn_in 415 (by decide +kernel) (by decide +kernel), by decide +kernel, by decide, by decide, tn_T0, _, rfl⟩), (fun h => absurd h (by decide)), (fun h => absurd h (by decide)), (fun h => absurd h (by decide)), (fun h => absurd h (by decide))⟩
theorem tn_c50 : tn_okC ((33, 61), (0, 12, 2)) := ⟨tn_m33, rfl, (fun _ => ⟨tn_m12, rfl, tn_in 417 (by decide +kernel) (by decide +kernel), tn_in 418 (by decide +kernel) (by decide +kernel), tn_in 419 (by decide +kernel) (by decide +kernel), by decide +kernel, by decide, by decide, tn_T0, _, rfl⟩), (fun h => absurd h (by decide)), (fun h => absurd h (by decide)), (fun h => absurd h (by decide)), (fun h => absurd h (by decide))⟩
theorem tn_c51 : tn_okC ((33, 67), (5, 0, 0)) := ⟨tn_m33, rfl, (fun h => absurd h (by decide)), (fun h => absurd h (by decide)), (fun h => absurd h (by decide)), (fun h => absurd h (by decide)), (fun _ => ⟨tn_in 525 (by decide +kernel) (by decide +kernel), tn_in 526 (by decide +kernel) (by decide +kernel), tn_in 34 (by decide +kernel) (by decide +kernel), tn_in 527 (by decide +kernel) (by decide +kernel), by decide, by decide⟩)⟩
theorem tn_c52 : tn_okC ((34, 41), (0, 10, 1)) := ⟨tn_m34, rfl, (fun _ => ⟨tn_m10, rfl, tn_in 397 (by decide +kernel) (by decide +kernel), tn_in 398 (by decide +kernel) (by decide +kernel), tn_in 399 (by decide +kernel) (by decide +kernel), by decide +kernel, by decide, by decide, tn_T0, _, rfl⟩), (fun h => absurd h (by decide)), (fun h => absurd h (by decide)), (fun h => absurd h (by decide)), (fun h => absurd h (by decide))⟩
theorem tn_c53 : tn_okC ((34, 51), (0, 32, 1)) := ⟨tn_m34, rfl, (fun _ => ⟨tn_m32, rfl, tn_in 516 (by decide +kernel) (by decide +kernel), tn_in 518 (by decide +kernel) (by decide +kernel), tn_in 13 (by decide +kernel) (by decide +kernel), by decide +kernel, by decide, by decide, tn_T3, _, rfl⟩), (fun h => absurd h (by decide)), (fun h => absurd h (by decide)), (fun h => absurd h (by decide)), (fun h => absurd h (by decide))⟩
theorem tn_c54 : tn_okC ((34, 73), (0, 35, 1)) := ⟨tn_m34, rfl, (fun _ => ⟨tn_m35, rfl, tn_in 539 (by decide +kernel) (by decide +kernel), tn_in 541 (by decide +kernel) (by decide +kernel), tn_in 15 (by decide +kernel) (by decide +kernel), by decide +kernel, by decide, by decide, tn_T3, _, rfl⟩), (fun h => absurd h (by decide)), (fun h => absurd h (by decide)), (fun h => absurd h (by decide)), (fun h => absurd h (by decide))⟩
theorem tn_c55 : tn_okC ((35, 58), (0, 11, 1)) := ⟨tn_m35, rfl, (fun _ => ⟨tn_m11, rfl, tn_in 413 (by decide +kernel) (by decide +kernel), tn_in 414 (by decide +kernel) (by decide +kernel), tn_in 415 (by decide +kernel) (by decide +kernel), by decide +kernel, by decide, by decide, tn_T0, _, rfl⟩), (fun h => absurd h (by decide)), (fun h => absurd h (by decide)), (fun h => absurd h (by decide)), (fun h => absurd h (by decide))⟩
theorem tn_c56 : tn_okC ((35, 61), (0, 12, 2)) := ⟨tn_m35, rfl, (fun _ => ⟨tn_m12, rfl, tn_in 417 (by decide +kernel) (by decide +kernel), tn_in 418 (by decide +kernel) (by decide +kernel), tn_in 419 (by decide +kernel) (by decide +kernel), by decide +kernel, by decide, by decide, tn_T0, _, rfl⟩), (fun h => absurd h (by decide)), (fun h => absurd h (by decide)), (fun h => absurd h (by decide)), (fun h => absurd h (by decide))⟩
theorem tn_c57 : tn_okC ((35, 76), (3, 0, 0)) := ⟨tn_m35, rfl, (fun h => absurd h (by decide)), (fun h => absurd h (by decide)), (fun _ => ⟨tn_in 543 (by decide +kernel) (by decide +kernel), tn_in 350 (by decide +kernel) (by decide +kernel), tn_in 34 (by decide +kernel) (by decide +kernel), tn_in 351 (by decide +kernel) (by decide +kernel), by decide, by decide⟩), (fun h => absurd h (by decide)), (fun h => absurd h (by decide))⟩
theorem tn_c58 : tn_okC ((36, 41), (0, 10, 1)) := ⟨tn_m36, rfl, (fun _ => ⟨tn_m10, rfl, tn_in 397 (by decide +kernel) (by decide +kernel), tn_in 398 (by decide +kernel) (by decide +kernel), tn_in 399 (by decide +kernel) (by decide +kernel), by decide +kernel, by decide, by decide, tn_T0, _, rfl⟩), (fun h => absurd h (by decide)), (fun h => absurd h (by decide)), (fun h => absurd h (by decide)), (fun h => absurd h (by decide))⟩
theorem tn_c59 : tn_okC ((36, 51), (0, 32, 1)) := ⟨tn_m36, rfl, (fun _ => ⟨tn_m32, rfl, tn_in 516 (by decide +kernel) (by decide +kernel), tn_in 518 (by decide +kernel) (by decide +kernel), tn_in 13 (by decide +kernel) (by decide +kernel), by decide +kernel, by decide, by decide, tn_T3, _, rfl⟩), (fun h => absurd h (by decide)), (fun h => absurd h (by decide)), (fun h => absurd h (by decide)), (fun h => absurd h (by decide))⟩
theorem tn_c60 : tn_okC ((37, 51), (0, 32, 1)) := ⟨tn_m37, rfl, (fun _ => ⟨tn_m32, rfl, tn_in 516 (by decide +kernel) (by decide +kernel), tn_in 518 (by decide +kernel) (by decide +kernel), tn_in 13 (by decide +kernel) (by decide +kernel), by decide +kernel, by decide, by decide, tn_T3, _, rfl⟩), (fun h => absurd h (by decide)), (fun h => absurd h (by decide)), (fun h => absurd h (by decide)), (fun h => absurd h (by decide))⟩
theorem tn_c61 : tn_okC ((37, 79), (0, 15, 1)) := ⟨tn_m37, rfl, (fun _ => ⟨tn_m15, rfl, tn_in 566 (by decide +kernel) (by decide +kernel), tn_in 439 (by decide +kernel) (by decide +kernel), tn_in 440 (by decide +kernel) (by decide +kernel), by decide +kernel, by decide, by decide, tn_T0, _, rfl⟩), (fun h => absurd h (by decide)), (fun h => absurd h (by decide)), (fun h => absurd h (by decide)), (fun h => absurd h (by decide))⟩
theorem tn_c62 : tn_okC ((38, 169), (0, 0, 0)) := ⟨tn_m38, rfl, (fun _ => ⟨tn_m0, rfl, tn_in 185 (by decide +kernel) (by decide +kernel), tn_in 186 (by decide +kernel) (by decide +kernel), tn_in 187 (by decide +kernel) (by decide +kernel), by decide +kernel, by decide, by decide, tn_T0, _, rfl⟩), (fun h => absurd h (by decide)), (fun h => absurd h (by decide)), (fun h => absurd h (by decide)), (fun h => absurd h (by decide))⟩
theorem tn_c63 : tn_okC ((39, 73), (0, 16, 1)) := ⟨tn_m39, rfl, (fun _ => ⟨tn_m16, rfl, tn_in 282 (by decide +kernel) (by decide +kernel), tn_in 283 (by decide +kernel) (by decide +kernel), tn_in 284 (by decide +kernel) (by decide +kernel), by decide +kernel, by decide, by decide, tn_T1, _, rfl⟩), (fun h => absurd h (by decide)), (fun h => absurd h (by decide)), (fun h => absurd h (by decide)), (fun h => absurd h (by decide))⟩
theorem tn_c64 : tn_okC ((40, 77), (0, 41, 0)) := ⟨tn_m40, rfl, (fun _ => ⟨tn_m41, rfl, tn_in 293 (by decide +kernel) (by decide +kernel), tn_in 295 (by decide +kernel) (by decide +kernel), tn_in 1 (by decide +kernel) (by decide +kernel), by decide +kernel, by decide, by decide, tn_T4, _, rfl⟩), (fun h => absurd h (by decide)), (fun h => absurd h (by decide)), (fun h => absurd h (by decide)), (fun h => absurd h (by decide))⟩
theorem tn_c65 : tn_okC ((40, 80), (0, 17, 0)) := ⟨tn_m40, rfl, (fun _ => ⟨tn_m17, rfl, tn_in 298 (by decide +kernel) (by decide +kernel), tn_in 299 (by decide +kernel) (by decide +kernel), tn_in 300 (by decide +kernel) (by decide +kernel), by decide +kernel, by decide, by decide, tn_T1, _, rfl⟩), (fun h => absurd h (by decide)), (fun h => absurd h (by decide)), (fun h => absurd h (by decide)), (fun h => absurd h (by decide))⟩
theorem tn_c66 : tn_okC ((40, 84), (0, 1, 1)) := ⟨tn_m40, rfl, (fun _ => ⟨tn_m1, rfl, tn_in 302 (by decide +kernel) (by decide +kernel), tn_in 303 (by decide +kernel) (by decide +kernel), tn_in 304 (by decide +kernel) (by decide +kernel), by decide +kernel, by decide, by decide, tn_T0, _, rfl⟩), (fun h => absurd h (by decide)), (fun h => absurd h (by decide)), (fun h => absurd h (by decide)), (fun h => absurd h (by decide))⟩
theorem tn_c67 : tn_okC ((42, 77), (0, 41, 0)) := ⟨tn_m42, rfl, (fun _ => ⟨tn_m41, rfl, tn_in 293 (by decide +kernel) (by decide +kernel), tn_in 295 (by decide +kernel) (by decide +kernel), tn_in 1 (by decide +kernel) (by decide +kernel), by decide +kernel, by decide, by decide, tn_T4, _, rfl⟩), (fun h => absurd h (by decide)), (fun h => absurd h (by decide)), (fun h => absurd h (by decide)), (fun h => absurd h (by decide))⟩
theorem tn_c68 : tn_okC ((42, 84), (0, 1, 1)) := ⟨tn_m42, rfl, (fun _ => ⟨tn_m1, rfl, tn_in 302 (by decide +kernel) (by decide +kernel), tn_in 303 (by decide +kernel) (by decide +kernel), tn_in 304 (by decide +kernel) (by decide +kernel), by decide +kernel, by decide, by decide, tn_T0, _, rfl⟩), (fun h => absurd h (by decide)), (fun h => absurd h (by decide)), (fun h => absurd h (by decide)), (fun h => absurd h (by decide))⟩
theorem tn_c69 : tn_okC ((42, 88), (0, 18, 4)) := ⟨tn_m42, rfl, (fun _ => ⟨tn_m18, rfl, tn_in 313 (by decide +kernel) (by decide +kernel), tn_in 314 (by decide +kernel) (by decide +kernel), tn_in 315 (by decide +kernel) (by decide +kernel), by decide +kernel, by decide, by decide, tn_T1, _, rfl⟩), (fun h => absurd h (by decide)), (fun h => absurd h (by decide)), (fun h => absurd h (by decide)), (fun h => absurd h (by decide))⟩
theorem tn_c70 : tn_okC ((42, 94), (0, 20, 4)) := ⟨tn_m42, rfl, (fun _ => ⟨tn_m20, rfl, tn_in 322 (by decide +kernel) (by decide +kernel), tn_in 323 (by decide +kernel) (by decide +kernel), tn_in 324 (by decide +kernel) (by decide +kernel), by decide +kernel, by decide, by decide, tn_T1, _, rfl⟩), (fun h => absurd h (by decide)), (fun h => absurd h (by decide)), (fun h => absurd h (by decide)), (fun h => absurd h (by decide))⟩
theorem tn_c71 : tn_okC ((42, 98), (0, 2, 1)) := ⟨tn_m42, rfl, (fun _ => ⟨tn_m2, rfl, tn_in 326 (by decide +kernel) (by decide +kernel), tn_in 327 (by decide +kernel) (by decide +kernel), tn_in 328 (by decide +kernel) (by decide +kernel), by decide +kernel, by decide, by decide, tn_T0, _, rfl⟩), (fun h => absurd h (by decide)), (fun h => absurd h (by decide)), (fun h => absurd h (by decide)), (fun h => absurd h (by decide))⟩
theorem tn_c72 : tn_okC ((43, 101), (0, 44, 1)) := ⟨tn_m43, rfl, (fun _ => ⟨tn_m44, rfl, tn_in 367 (by decide +kernel) (by decide +kernel), tn_in 369 (by decide +kernel) (by decide +kernel), tn_in 4 (by decide +kernel) (by decide +kernel), by decide +kernel, by decide, by decide, tn_T4, _, rfl⟩), (fun h => absurd h (by decide)), (fun h => absurd h (by decide)), (fun h => absurd h (by decide)), (fun h => absurd h (by decide))⟩
theorem tn_c73 : tn_okC ((43, 107), (0, 4, 2)) := ⟨tn_m43, rfl, (fun _ => ⟨tn_m4, rfl, tn_in 373 (by decide +kernel) (by decide +kernel), tn_in 343 (by decide +kernel) (by decide +kernel), tn_in 344 (by decide +kernel) (by decide +kernel), by decide +kernel, by decide, by decide, tn_T0, _, rfl⟩), (fun h => absurd h (by decide)), (fun h => absurd h (by decide)), (fun h => absurd h (by decide)), (fun h => absurd h (by decide))⟩
theorem tn_c74 : tn_okC ((43, 111), (0, 7, 1)) := ⟨tn_m43, rfl, (fun _ => ⟨tn_m7, rfl, tn_in 374 (by decide +kernel) (by decide +kernel), tn_in 375 (by decide +kernel) (by decide +kernel), tn_in 376 (by decide +kernel) (by decide +kernel), by decide +kernel, by decide, by decide, tn_T0, _, rfl⟩), (fun h => absurd h (by decide)), (fun h => absurd h (by decide)), (fun h => absurd h (by decide)), (fun h => absurd h (by decide))⟩
theorem tn_c75 : tn_okC ((43, 118), (0, 26, 1)) := ⟨tn_m43, rfl, (fun _ => ⟨tn_m26, rfl, tn_in 386 (by decide +kernel) (by decide +kernel), tn_in 387 (by decide +kernel) (by decide +kernel), tn_in 388 (by decide +kernel) (by decide +kernel), by decide +kernel, by decide, by decide, tn_T3, _, rfl⟩), (fun h => absurd h (by decide)), (fun h => absurd h (by decide)), (fun h => absurd h (by decide)), (fun h => absurd h (by decide))⟩
theorem tn_c76 : tn_okC ((43, 121), (0, 13, 1)) := ⟨tn_m43, rfl, (fun _ => ⟨tn_m13, rfl, tn_in 421 (by decide +kernel) (by decide +kernel), tn_in 422 (by decide +kernel) (by decide +kernel), tn_in 423 (by decide +kernel) (by decide +kernel), by decide +kernel, by decide, by decide, tn_T0, _, rfl⟩), (fun h => absurd h (by decide)), (fun h => absurd h (by decide)), (fun h => absurd h (by decide)), (fun h => absurd h (by decide))⟩
theorem tn_c77 : tn_okC ((43, 124), (0, 23, 1)) := ⟨tn_m43, rfl, (fun _ => ⟨tn_m23, rfl, tn_in 429 (by decide +kernel) (by decide +kernel), tn_in 430 (by decide +kernel) (by decide +kernel), tn_in 431 (by decide +kernel) (by decide +kernel), by decide +kernel, by decide, by decide, tn_T2, _, rfl⟩), (fun h => absurd h (by decide)), (fun h => absurd h (by decide)), (fun h => absurd h (by decide)), (fun h => absurd h (by decide))⟩
theorem tn_c78 : tn_okC ((44, 172), (0, 19, 1)) := ⟨tn_m44, rfl, (fun _ => ⟨tn_m19, rfl, tn_in 371 (by decide +kernel) (by decide +kernel), tn_in 318 (by decide +kernel) (by decide +kernel), tn_in 319 (by decide +kernel) (by decide +kernel), by decide +kernel, by decide, by decide, tn_T1, _, rfl⟩), (fun h => absurd h (by decide)), (fun h => absurd h (by decide)), (fun h => absurd h (by decide)), (fun h => absurd h (by decide))⟩
theorem tn_c79 : tn_okC ((45, 101), (0, 44, 1)) := ⟨tn_m45, rfl, (fun _ => ⟨tn_m44, rfl, tn_in 367 (by decide +kernel) (by decide +kernel), tn_in 369 (by decide +kernel) (by decide +kernel), tn_in 4 (by decide +kernel) (by decide +kernel), by decide +kernel, by decide, by decide, tn_T4, _, rfl⟩), (fun h => absurd h (by decide)), (fun h => absurd h (by decide)), (fun h => absurd h (by decide)), (fun h => absurd h (by decide))⟩
theorem tn_c80 : tn_okC ((45, 128), (0, 10, 1)) := ⟨tn_m45, rfl, (fun _ => ⟨tn_m10, rfl, tn_in 462 (by decide +kernel) (by decide +kernel), tn_in 398 (by decide +kernel) (by decide +kernel), tn_in 399 (by decide +kernel) (by decide +kernel), by decide +kernel, by decide, by decide, tn_T0, _, rfl⟩), (fun h => absurd h (by decide)), (fun h => absurd h (by decide)), (fun h => absurd h (by decide)), (fun h => absurd h (by decide))⟩
theorem tn_c81 : tn_okC ((46, 101), (0, 44, 1)) := ⟨tn_m46, rfl, (fun _ => ⟨tn_m44, rfl, tn_in 367 (by decide +kernel) (by decide +kernel), tn_in 369 (by decide +kernel) (by decide +kernel), tn_in 4 (by decide +kernel) (by decide +kernel), by decide +kernel, by decide, by decide, tn_T4, _, rfl⟩), (fun h => absurd h (by decide)), (fun h => absurd h (by decide)), (fun h => absurd h (by decide)), (fun h => absurd h (by decide))⟩
theorem tn_c82 : tn_okC ((46, 131), (0, 15, 1)) := ⟨tn_m46, rfl, (fun _ => ⟨tn_m15, rfl, tn_in 470 (by decide +kernel) (by decide +kernel), tn_in 439 (by decide +kernel) (by decide +kernel), tn_in 440 (by decide +kernel) (by decide +kernel), by decide +kernel, by decide, by decide, tn_T0, _, rfl⟩), (fun h => absurd h (by decide)), (fun h => absurd h (by decide)), (fun h => absurd h (by decide)), (fun h => absurd h (by decide))⟩
theorem tn_c83 : tn_okC ((46, 137), (0, 9, 1)) := ⟨tn_m46, rfl, (fun _ => ⟨tn_m9, rfl, tn_in 471 (by decide +kernel) (by decide +kernel), tn_in 383 (by decide +kernel) (by decide +kernel), tn_in 384 (by decide +kernel) (by decide +kernel), by decide +kernel, by decide, by decide, tn_T0, _, rfl⟩), (fun h => absurd h (by decide)), (fun h => absurd h (by decide)), (fun h => absurd h (by decide)), (fun h => absurd h (by decide))⟩
theorem tn_c84 : tn_okC ((47, 101), (0, 44, 1)) := ⟨tn_m47, rfl, (fun _ => ⟨tn_m44, rfl, tn_in 367 (by decide +kernel) (by decide +kernel), tn_in 369 (by decide +kernel) (by decide +kernel), tn_in 4 (by decide +kernel) (by decide +kernel), by decide +kernel, by decide, by decide, tn_T4, _, rfl⟩), (fun h => absurd h (by decide)), (fun h => absurd h (by decide)), (fun h => absurd h (by decide)), (fun h => absurd h (by decide))⟩
theorem tn_c85 : tn_okC ((47, 140), (0, 11, 1)) := ⟨tn_m47, rfl, (fun _ => ⟨tn_m11, rfl, tn_in 480 (by decide +kernel) (by decide +kernel), tn_in 414 (by decide +kernel) (by decide +kernel), tn_in 415 (by decide +kernel) (by decide +kernel), by decide +kernel, by decide, by decide, tn_T0, _, rfl⟩), (fun h => absurd h (by decide)), (fun h => absurd h (by decide)), (fun h => absurd h (by decide)), (fun h => absurd h (by decide))⟩
theorem tn_c86 : tn_okC ((47, 148), (0, 12, 2)) := ⟨tn_m47, rfl, (fun _ => ⟨tn_m12, rfl, tn_in 497 (by decide +kernel) (by decide +kernel), tn_in 418 (by decide +kernel) (by decide +kernel), tn_in 419 (by decide +kernel) (by decide +kernel), by decide +kernel, by decide, by decide, tn_T0, _, rfl⟩), (fun h => absurd h (by decide)), (fun h => absurd h (by decide)), (fun h => absurd h (by decide)), (fun h => absurd h (by decide))⟩
theorem tn_c87 : tn_okC ((48, 101), (0, 44, 1)) := ⟨tn_m48, rfl, (fun _ => ⟨tn_m44, rfl, tn_in 367 (by decide +kernel) (by decide +kernel), tn_in 369 (by decide +kernel) (by decide +kernel), tn_in 4 (by decide +kernel) (by decide +kernel), by decide +kernel, by decide, by decide, tn_T4, _, rfl⟩), (fun h => absurd h (by decide)), (fun h => absurd h (by decide)), (fun h => absurd h (by decide)), (fun h => absurd h (by decide))⟩
theorem tn_c88 : tn_okC ((48, 128), (0, 10, 1)) := ⟨tn_m48, rfl, (fun _ => ⟨tn_m10, rfl, tn_in 462 (by decide +kernel) (by decide +kernel), tn_in 398 (by decide +kernel) (by decide +kernel), tn_in 399 (by decide +kernel) (by decide +kernel), by decide +kernel, by decide, by decide, tn_T0, _, rfl⟩), (fun h => absurd h (by decide)), (fun h => absurd h (by decide)), (fun h => absurd h (by decide)), (fun h => absurd h (by decide))⟩
theorem tn_c89 : tn_okC ((49, 101), (0, 44, 1)) := ⟨tn_m49, rfl, (fun _ => ⟨tn_m44, rfl, tn_in 367 (by decide +kernel) (by decide +kernel), tn_in 369 (by decide +kernel) (by decide +kernel), tn_in 4 (by decide +kernel) (by decide +kernel), by decide +kernel, by decide, by decide, tn_T4, _, rfl⟩), (fun h => absurd h (by decide)), (fun h => absurd h (by decide)), (fun h => absurd h (by decide)), (fun h => absurd h (by decide))⟩
theorem tn_c90 : tn_okC ((49, 152), (0, 31, 1)) := ⟨tn_m49, rfl, (fun _ => ⟨tn_m31, rfl, tn_in 512 (by decide +kernel) (by decide +kernel), tn_in 513 (by decide +kernel) (by decide +kernel), tn_in 514 (by decide +kernel) (by decide +kernel), by decide +kernel, by decide, by decide, tn_T3, _, rfl⟩), (fun h => absurd h (by decide)), (fun h => absurd h (by decide)), (fun h => absurd h (by decide)), (fun h => absurd h (by decide))⟩
theorem tn_c91 : tn_okC ((50, 101), (0, 44, 1)) := ⟨tn_m50, rfl, (fun _ => ⟨tn_m44, rfl, tn_in 367 (by decide +kernel) (by decide +kernel), tn_in 369 (by decide +kernel) (by decide +kernel), tn_in 4 (by decide +kernel) (by decide +kernel), by decide +kernel, by decide, by decide, tn_T4, _, rfl⟩), (fun h => absurd h (by decide)), (fun h => absurd h (by decide)), (fun h => absurd h (by decide)), (fun h => absurd h (by decide))⟩
theorem tn_c92 : tn_okC ((50, 155), (0, 34, 1)) := ⟨tn_m50, rfl, (fun _ => ⟨tn_m34, rfl, tn_in 535 (by decide +kernel) (by decide +kernel), tn_in 536 (by decide +kernel) (by decide +kernel), tn_in 537 (by decide +kernel) (by decide +kernel), by decide +kernel, by decide, by decide, tn_T3, _, rfl⟩), (fun h => absurd h (by decide)), (fun h => absurd h (by decide)), (fun h => absurd h (by decide)), (fun h => absurd h (by decide))⟩
theorem tn_c93 : tn_okC ((51, 101), (0, 44, 1)) := ⟨tn_m51, rfl, (fun _ => ⟨tn_m44, rfl, tn_in 367 (by decide +kernel) (by decide +kernel), tn_in 369 (by decide +kernel) (by decide +kernel), tn_in 4 (by decide +kernel) (by decide +kernel), by decide +kernel, by decide, by decide, tn_T4, _, rfl⟩), (fun h => absurd h (by decide)), (fun h => absurd h (by decide)), (fun h => absurd h (by decide)), (fun h => absurd h (by decide))⟩
theorem tn_c94 : tn_okC ((51, 131), (0, 15, 1)) := ⟨tn_m51, rfl, (fun _ => ⟨tn_m15, rfl, tn_in 470 (by decide +kernel) (by decide +kernel), tn_in 439 (by decide +kernel) (by decide +kernel), tn_in 440 (by decide +kernel) (by decide +kernel), by decide +kernel, by decide, by decide, tn_T0, _, rfl⟩), (fun h => absurd h (by decide)), (fun h => absurd h (by decide)), (fun h => absurd h (by decide)), (fun h => absurd h (by decide))⟩
theorem tn_c95 : tn_okC ((51, 158), (0, 36, 2)) := ⟨tn_m51, rfl, (fun _ => ⟨tn_m36, rfl, tn_in 551 (by decide +kernel) (by decide +kernel), tn_in 552 (by decide +kernel) (by decide +kernel), tn_in 553 (by decide +kernel) (by decide +kernel), by decide +kernel, by decide, by decide, tn_T3, _, rfl⟩), (fun h => absurd h (by decide)), (fun h => absurd h (by decide)), (fun h => absurd h (by decide)), (fun h => absurd h (by decide))⟩
theorem tn_c96 : tn_okC ((52, 101), (0, 44, 1)) := ⟨tn_m52, rfl, (fun _ => ⟨tn_m44, rfl, tn_in 367 (by decide +kernel) (by decide +kernel), tn_in 369 (by decide +kernel) (by decide +kernel), tn_in 4 (by decide +kernel) (by decide +kernel), by decide +kernel, by decide, by decide, tn_T4, _, rfl⟩), (fun h => absurd h (by decide)), (fun h => absurd h (by decide)), (fun h => absurd h (by decide)), (fun h => absurd h (by decide))⟩
theorem tn_c97 : tn_okC ((52, 162), (0, 37, 1)) := ⟨tn_m52, rfl, (fun _ => ⟨tn_m37, rfl, tn_in 562 (by decide +kernel) (by decide +kernel), tn_in 563 (by decide +kernel) (by decide +kernel), tn_in 564 (by decide +kernel) (by decide +kernel), by decide +kernel, by decide, by decide, tn_T3, _, rfl⟩), (fun h => absurd h (by decide)), (fun h => absurd h (by decide)), (fun h => absurd h (by decide)), (fun h => absurd h (by decide))⟩
theorem tn_c98 : tn_okC ((54, 121), (0, 13, 1)) := ⟨tn_m54, rfl, (fun _ => ⟨tn_m13, rfl, tn_in 421 (by decide +kernel) (by decide +kernel), tn_in 422 (by decide +kernel) (by decide +kernel), tn_in 423 (by decide +kernel) (by decide +kernel), by decide +kernel, by decide, by decide, tn_T0, _, rfl⟩), (fun h => absurd h (by decide)), (fun h => absurd h (by decide)), (fun h => absurd h (by decide)), (fun h => absurd h (by decide))⟩
theorem tn_c99 : tn_okC ((57, 64), (0, 58, 4)) := ⟨tn_m57, rfl, (fun _ => ⟨tn_m58, rfl, tn_in 657 (by decide +kernel) (by decide +kernel), tn_in 659 (by decide +kernel) (by decide +kernel), tn_in 16 (by decide +kernel) (by decide +kernel), by decide +kernel, by decide, by decide, tn_T5, _, rfl⟩), (fun h => absurd h (by decide)), (fun h => absurd h (by decide)), (fun h => absurd h (by decide)), (fun h => absurd h (by decide))⟩
theorem tn_c100 : tn_okC ((58, 60), (0, 59, 1)) := ⟨tn_m58, rfl, (fun _ => ⟨tn_m59, rfl, tn_in 661 (by decide +kernel) (by decide +kernel), tn_in 663 (by decide +kernel) (by decide +kernel), tn_in 17 (by decide +kernel) (by decide +kernel), by decide +kernel, by decide, by decide, tn_T5, _, rfl⟩), (fun h => absurd h (by decide)), (fun h => absurd h (by decide)), (fun h => absurd h (by decide)), (fun h => absurd h (by decide))⟩
theorem tn_c101 : tn_okC ((59, 72), (0, 60, 3)) := ⟨tn_m59, rfl, (fun _ => ⟨tn_m60, rfl, tn_in 665 (by decide +kernel) (by decide +kernel), tn_in 667 (by decide +kernel) (by decide +kernel), tn_in 18 (by decide +kernel) (by decide +kernel), by decide +kernel, by decide, by decide, tn_T5, _, rfl⟩), (fun h => absurd h (by decide)), (fun h => absurd h (by decide)), (fun h => absurd h (by decide)), (fun h => absurd h (by decide))⟩
theorem tn_c102 : tn_okC ((61, 64), (0, 58, 4)) := ⟨tn_m61, rfl, (fun _ => ⟨tn_m58, rfl, tn_in 657 (by decide +kernel) (by decide +kernel), tn_in 659 (by decide +kernel) (by decide +kernel), tn_in 16 (by decide +kernel) (by decide +kernel), by decide +kernel, by decide, by decide, tn_T5, _, rfl⟩), (fun h => absurd h (by decide)), (fun h => absurd h (by decide)), (fun h => absurd h (by decide)), (fun h => absurd h (by decide))⟩
theorem tn_c103 : tn_okC ((61, 68), (0, 62, 1)) := ⟨tn_m61, rfl, (fun _ => ⟨tn_m62, rfl, tn_in 673 (by decide +kernel) (by decide +kernel), tn_in 675 (by decide +kernel) (by decide +kernel), tn_in 19 (by decide +kernel) (by decide +kernel), by decide +kernel, by decide, by decide, tn_T5, _, rfl⟩), (fun h => absurd h (by decide)), (fun h => absurd h (by decide)), (fun h => absurd h (by decide)), (fun h => absurd h (by decide))⟩
theorem tn_c104 : tn_okC ((63, 60), (0, 59, 1)) := ⟨tn_m63, rfl, (fun _ => ⟨tn_m59, rfl, tn_in 661 (by decide +kernel) (by decide +kernel), tn_in 663 (by decide +kernel) (by decide +kernel), tn_in 17 (by decide +kernel) (by decide +kernel), by decide +kernel, by decide, by decide, tn_T5, _, rfl⟩), (fun h => absurd h (by decide)), (fun h => absurd h (by decide)), (fun h => absurd h (by decide)), (fun h => absurd h (by decide))⟩
theorem tn_c105 : tn_okC ((63, 68), (0, 62, 1)) := ⟨tn_m63, rfl, (fun _ => ⟨tn_m62, rfl, tn_in 673 (by decide +kernel) (by decide +kernel), tn_in 675 (by decide +kernel) (by decide +kernel), tn_in 19 (by decide +kernel) (by decide +kernel), by decide +kernel, by decide, by decide, tn_T5, _, rfl⟩), (fun h => absurd h (by decide)), (fun h => absurd h (by decide)), (fun h => absurd h (by decide)), (fun h => absurd h (by decide))⟩
theorem tn_c106 : tn_okC ((63, 72), (0, 60, 3)) := ⟨tn_m63, rfl, (fun _ => ⟨tn_m60, rfl, tn_in 665 (by decide +kernel) (by decide +kernel), tn_in 667 (by decide +kernel) (by decide +kernel), tn_in 18 (by decide +kernel) (by decide +kernel), by decide +kernel, by decide, by decide, tn_T5, _, rfl⟩), (fun h => absurd h (by decide)), (fun h => absurd h (by decide)), (fun h => absurd h (by decide)), (fun h => absurd h (by decide))⟩
theorem tn_c107 : tn_okC ((63, 77), (0, 64, 1)) := ⟨tn_m63, rfl, (fun _ => ⟨tn_m64, rfl, tn_in 681 (by decide +kernel) (by decide +kernel), tn_in 683 (by decide +kernel) (by decide +kernel), tn_in 20 (by decide +kernel) (by decide +kernel), by decide +kernel, by decide, by decide, tn_T5, _, rfl⟩), (fun h => absurd h (by decide)), (fun h => absurd h (by decide)), (fun h => absurd h (by decide)), (fun h => absurd h (by decide))⟩
theorem tn_c108 : tn_okC ((65, 68), (0, 62, 1)) := ⟨tn_m65, rfl, (fun _ => ⟨tn_m62, rfl, tn_in 673 (by decide +kernel) (by decide +kernel), tn_in 675 (by decide +kernel) (by decide +kernel), tn_in 19 (by decide +kernel) (by decide +kernel), by decide +kernel, by decide, by decide, tn_T5, _, rfl⟩), (fun h => absurd h (by decide)), (fun h => absurd h (by decide)), (fun h => absurd h (by decide)), (fun h => absurd h (by decide))⟩
theorem tn_c109 : tn_okC ((66, 68), (0, 62, 1)) := ⟨tn_m66, rfl, (fun _ => ⟨tn_m62, rfl, tn_in 673 (by decide +kernel) (by decide +kernel), tn_in 675 (by decide +kernel) (by decide +kernel), tn_in 19 (by decide +kernel) (by decide +kernel), by decide +kernel, by decide, by decide, tn_T5, _, rfl⟩), (fun h => absurd h (by decide)), (fun h => absurd h (by decide)), (fun h => absurd h (by decide)), (fun h => absurd h (by decide))⟩
theorem tn_c110 : tn_okC ((66, 77), (0, 64, 1)) := ⟨tn_m66, rfl, (fun _ => ⟨tn_m64, rfl, tn_in 681 (by decide +kernel) (by decide +kernel), tn_in 683 (by decide +kernel) (by decide +kernel), tn_in 20 (by decide +kernel) (by decide +kernel), by decide +kernel, by decide, by decide, tn_T5, _, rfl⟩), (fun h => absurd h (by decide)), (fun h => absurd h (by decide)), (fun h => absurd h (by decide)), (fun h => absurd h (by decide))⟩
theorem tn_c111 : tn_okC ((67, 68), (0, 62, 1)) := ⟨tn_m67, rfl, (fun _ => ⟨tn_m62, rfl, tn_in 673 (by decide +kernel) (by decide +kernel), tn_in 675 (by decide +kernel) (by decide +kernel), tn_in 19 (by decide +kernel) (by decide +kernel), by decide +kernel, by decide, by decide, tn_T5, _, rfl⟩), (fun h => absurd h (by decide)), (fun h => absurd h (by decide)), (fun h => absurd h (by decide)), (fun h => absurd h (by decide))⟩
theorem tn_c112 : tn_okC ((67, 77), (0, 64, 1)) := ⟨tn_m67, rfl, (fun _ => ⟨tn_m64, rfl, tn_in 681 (by decide +kernel) (by decide +kernel), tn_in 683 (by decide +kernel) (by decide +kernel), tn_in 20 (by decide +kernel) (by decide +kernel), by decide +kernel, by decide, by decide, tn_T5, _, rfl⟩), (fun h => absurd h (by decide)), (fun h => absurd h (by decide)), (fun h => absurd h (by decide)), (fun h => absurd h (by decide))⟩
theorem tn_c113 : tn_okC ((68, 68), (0, 62, 1)) := ⟨tn_m68, rfl, (fun _ => ⟨tn_m62, rfl, tn_in 673 (by decide +kernel) (by decide +kernel), tn_in 675 (by decide +kernel) (by decide +kernel), tn_in 19 (by decide +kernel) (by decide +kernel), by decide +kernel, by decide, by decide, tn_T5, _, rfl⟩), (fun h => absurd h (by decide)), (fun h => absurd h (by decide)), (fun h => absurd h (by decide)), (fun h => absurd h (by decide))⟩
theorem tn_c114 : tn_okC ((69, 68), (0, 62, 1)) := ⟨tn_m69, rfl, (fun _ => ⟨tn_m62, rfl, tn_in 673 (by decide +kernel) (by decide +kernel), tn_in 675 (by decide +kernel) (by decide +kernel), tn_in 19 (by decide +kernel) (by decide +kernel), by decide +kernel, by decide, by decide, tn_T5, _, rfl⟩), (fun h => absurd h (by decide)), (fun h => absurd h (by decide)), (fun h => absurd h (by decide)), (fun h => absurd h (by decide))⟩
theorem tn_c115 : tn_okC ((69, 77), (0, 64, 1)) := ⟨tn_m69, rfl, (fun _ => ⟨tn_m64, rfl, tn_in 681 (by decide +kernel) (by decide +kernel), tn_in 683 (by decide +kernel) (by decide +kernel), tn_in 20 (by decide +kernel) (by decide +kernel), by decide +kernel, by decide, by decide, tn_T5, _, rfl⟩), (fun h => absurd h (by decide)), (fun h => absurd h (by decide)), (fun h => absurd h (by decide)), (fun h => absurd h (by decide))⟩
theorem tn_c116 : tn_okC ((70, 68), (0, 62, 1)) := ⟨tn_m70, rfl, (fun _ => ⟨tn_m62, rfl, tn_in 673 (by decide +kernel) (by decide +kernel), tn_in 675 (by decide +kernel) (by decide +kernel), tn_in 19 (by decide +kernel) (by decide +kernel), by decide +kernel, by decide, by decide, tn_T5, _, rfl⟩), (fun h => absurd h (by decide)), (fun h => absurd h (by decide)), (fun h => absurd h (by decide)), (fun h => absurd h (by decide))⟩
theorem tn_c117 : tn_okC ((70, 77), (0, 64, 1)) := ⟨tn_m70, rfl, (fun _ => ⟨tn_m64, rfl, tn_in 681 (by decide +kernel) (by decide +kernel), tn_in 683 (by decide +kernel) (by decide +kernel), tn_in 20 (by decide +kernel) (by decide +kernel), by decide +kernel, by decide, by decide, tn_T5, _, rfl⟩), (fun h => absurd h (by decide)), (fun h => absurd h (by decide)), (fun h => absurd h (by decide)), (fun h => absurd h (by decide))⟩
theorem tn_c118 : tn_okC ((71, 68), (0, 62, 1)) := ⟨tn_m71, rfl, (fun _ => ⟨tn_m62, rfl, tn_in 673 (by decide +kernel) (by decide +kernel), tn_in 675 (by decide +kernel) (by decide +kernel), tn_in 19 (by decide +kernel) (by decide +kernel), by decide +kernel, by decide, by decide, tn_T5, _, rfl⟩), (fun h => absurd h (by decide)), (fun h => absurd h (by decide)), (fun h => absurd h (by decide)), (fun h => absurd h (by decide))⟩
theorem tn_c119 : tn_okC ((71, 83), (0, 72, 1)) := ⟨tn_m71, rfl, (fun _ => ⟨tn_m72, rfl, tn_in 714 (by decide +kernel) (by decide +kernel), tn_in 716 (by decide +kernel) (by decide +kernel), tn_in 21 (by decide +kernel) (by decide +kernel), by decide +kernel, by decide, by decide, tn_T5, _, rfl⟩), (fun h => absurd h (by decide)), (fun h => absurd h (by decide)), (fun h => absurd h (by decide)), (fun h => absurd h (by decide))⟩
theorem tn_c120 : tn_okC ((72, 77), (0, 64, 1)) := ⟨tn_m72, rfl, (fun _ => ⟨tn_m64, rfl, tn_in 681 (by decide +kernel) (by decide +kernel), tn_in 683 (by decide +kernel) (by decide +kernel), tn_in 20 (by decide +kernel) (by decide +kernel), by decide +kernel, by decide, by decide, tn_T5, _, rfl⟩), (fun h => absurd h (by decide)), (fun h => absurd h (by decide)), (fun h => absurd h (by decide)), (fun h => absurd h (by decide))⟩
theorem tn_c121 : tn_okC ((73, 68), (0, 62, 1)) := ⟨tn_m73, rfl, (fun _ => ⟨tn_m62, rfl, tn_in 673 (by decide +kernel) (by decide +kernel), tn_in 675 (by decide +kernel) (by decide +kernel), tn_in 19 (by decide +kernel) (by decide +kernel), by decide +kernel, by decide, by decide, tn_T5, _, rfl⟩), (fun h => absurd h (by decide)), (fun h => absurd h (by decide)), (fun h => absurd h (by decide)), (fun h => absurd h (by decide))⟩
theorem tn_c122 : tn_okC ((73, 83), (0, 72, 1)) := ⟨tn_m73, rfl, (fun _ => ⟨tn_m72, rfl, tn_in 714 (by decide +kernel) (by decide +kernel), tn_in 716 (by decide +kernel) (by decide +kernel), tn_in 21 (by decide +kernel) (by decide +kernel), by decide +kernel, by decide, by decide, tn_T5, _, rfl⟩), (fun h => absurd h (by decide)), (fun h => absurd h (by decide)), (fun h => absurd h (by decide)), (fun h => absurd h (by decide))⟩
theorem tn_c123 : tn_okC ((76, 77), (0, 64, 1)) := ⟨tn_m76, rfl, (fun _ => ⟨tn_m64, rfl, tn_in 681 (by decide +kernel) (by decide +kernel), tn_in 683 (by decide +kernel) (by decide +kernel), tn_in 20 (by decide +kernel) (by decide +kernel), by decide +kernel, by decide, by decide, tn_T5, _, rfl⟩), (fun h => absurd h (by decide)), (fun h => absurd h (by decide)), (fun h => absurd h (by decide)), (fun h => absurd h (by decide))⟩
set_option maxRecDepth 20000 in
theorem tn_oC : ∀ q ∈ tn_ca, tn_okC q := List.forall_mem_cons.mpr ⟨tn_c0, List.forall_mem_cons.mpr ⟨tn_c1, List.forall_mem_cons.mpr ⟨tn_c2, List.forall_mem_cons.mpr ⟨tn_c3, List.forall_mem_cons.mpr ⟨tn_c4, List.forall_mem_cons.mpr ⟨tn_c5, List.forall_mem_cons.mpr ⟨tn_c6, List.forall_mem_cons.mpr ⟨tn_c7, List.forall_mem_cons.mpr ⟨tn_c8, List.forall_mem_cons.mpr ⟨tn_c9, List.forall_mem_cons.mpr ⟨tn_c10, List.forall_mem_cons.mpr ⟨tn_c11, List.forall_mem_cons.mpr ⟨tn_c12, List.forall_mem_cons.mpr ⟨tn_c13, List.forall_mem_cons.mpr ⟨tn_c14, List.forall_mem_cons.mpr ⟨tn_c15, List.forall_mem_cons.mpr ⟨tn_c16, List.forall_mem_cons.mpr ⟨tn_c17, List.forall_mem_cons.mpr ⟨tn_c18, List.forall_mem_cons.mpr ⟨tn_c19, List.forall_mem_cons.mpr ⟨tn_c20, List.forall_mem_cons.mpr ⟨tn_c21, List.forall_mem_cons.mpr ⟨tn_c22, List.forall_mem_cons.mpr ⟨tn_c23, List.forall_mem_cons.mpr ⟨tn_c24, List.forall_mem_cons.mpr ⟨tn_c25, List.forall_mem_cons.mpr ⟨tn_c26, List.forall_mem_cons.mpr ⟨tn_c27, List.forall_mem_cons.mpr ⟨tn_c28, List.forall_mem_cons.mpr ⟨tn_c29, List.forall_mem_cons.mpr ⟨tn_c30, List.forall_mem_cons.mpr ⟨tn_c31, List.forall_mem_cons.mpr ⟨tn_c32, List.forall_mem_cons.mpr ⟨tn_c33, List.forall_mem_cons.mpr ⟨tn_c34, List.forall_mem_cons.mpr ⟨tn_c35, List.forall_mem_cons.mpr ⟨tn_c36, List.forall_mem_cons.mpr ⟨tn_c37, List.forall_mem_cons.mpr ⟨tn_c38, List.forall_mem_cons.mpr ⟨tn_c39, List.forall_mem_cons.mpr ⟨tn_c40, List.forall_mem_cons.mpr ⟨tn_c41, List.forall_mem_cons.mpr ⟨tn_c42, List.forall_mem_cons.mpr ⟨tn_c43, List.forall_mem_cons.mpr ⟨tn_c44, List.forall_mem_cons.mpr ⟨tn_c45, List.forall_mem_cons.mpr ⟨tn_c46, List.forall_mem_cons.mpr ⟨tn_c47, List.forall_mem_cons.mpr ⟨tn_c48, List.forall_mem_cons.mpr ⟨tn_c49, List.forall_mem_cons.mpr ⟨tn_c50, List.forall_mem_cons.mpr ⟨tn_c51, List.forall_mem_cons.mpr ⟨tn_c52, List.forall_mem_cons.mpr ⟨tn_c53, List.forall_mem_cons.mpr ⟨tn_c54, List.forall_mem_cons.mpr ⟨tn_c55, List.forall_mem_cons.mpr ⟨tn_c56, List.forall_mem_cons.mpr ⟨tn_c57, List.forall_mem_cons.mpr ⟨tn_c58, List.forall_mem_cons.mpr ⟨tn_c59, List.forall_mem_cons.mpr ⟨tn_c60, List.forall_mem_cons.mpr ⟨tn_c61, List.forall_mem_cons.mpr ⟨tn_c62, List.forall_mem_cons.mpr ⟨tn_c63, List.forall_mem_cons.mpr ⟨tn_c64, List.forall_mem_cons.mpr ⟨tn_c65, List.forall_mem_cons.mpr ⟨tn_c66, List.forall_mem_cons.mpr ⟨tn_c67, List.forall_mem_cons.mpr ⟨tn_c68, List.forall_mem_cons.mpr ⟨tn_c69, List.forall_mem_cons.mpr ⟨tn_c70, List.forall_mem_cons.mpr ⟨tn_c71, List.forall_mem_cons.mpr ⟨tn_c72, List.forall_mem_cons.mpr ⟨tn_c73, List.forall_mem_cons.mpr ⟨tn_c74, List.forall_mem_cons.mpr ⟨tn_c75, List.forall_mem_cons.mpr ⟨tn_c76, List.forall_mem_cons.mpr ⟨tn_c77, List.forall_mem_cons.mpr ⟨tn_c78, List.forall_mem_cons.mpr ⟨tn_c79, List.forall_mem_cons.mpr ⟨tn_c80, List.forall_mem_cons.mpr ⟨tn_c81, List.forall_mem_cons.mpr ⟨tn_c82, List.forall_mem_cons.mpr ⟨tn_c83, List.forall_mem_cons.mpr ⟨tn_c84, List.forall_mem_cons.mpr ⟨tn_c85, List.forall_mem_cons.mpr ⟨tn_c86, List.forall_mem_cons.mpr ⟨tn_c87, List.forall_mem_cons.mpr ⟨tn_c88, List.forall_mem_cons.mpr ⟨tn_c89, List.forall_mem_cons.mpr ⟨tn_c90, List.forall_mem_cons.mpr ⟨tn_c91, List.forall_mem_cons.mpr ⟨tn_c92, List.forall_mem_cons.mpr ⟨tn_c93, List.forall_mem_cons.mpr ⟨tn_c94, List.forall_mem_cons.mpr ⟨tn_c95, List.forall_mem_cons.mpr ⟨tn_c96, List.forall_mem_cons.mpr ⟨tn_c97, List.forall_mem_cons.mpr ⟨tn_c98, List.forall_mem_cons.mpr ⟨tn_c99, List.forall_mem_cons.mpr ⟨tn_c100, List.forall_mem_cons.mpr ⟨tn_c101, List.forall_mem_cons.mpr ⟨tn_c102, List.forall_mem_cons.mpr ⟨tn_c103, List.forall_mem_cons.mpr ⟨tn_c104, List.forall_mem_cons.mpr ⟨tn_c105, List.forall_mem_cons.mpr ⟨tn_c106, List.forall_mem_cons.mpr ⟨tn_c107, List.forall_mem_cons.mpr ⟨tn_c108, List.forall_mem_cons.mpr ⟨tn_c109, List.forall_mem_cons.mpr ⟨tn_c110, List.forall_mem_cons.mpr ⟨tn_c111, List.forall_mem_cons.mpr ⟨tn_c112, List.forall_mem_cons.mpr ⟨tn_c113, List.forall_mem_cons.mpr ⟨tn_c114, List.forall_mem_cons.mpr ⟨tn_c115, List.forall_mem_cons.mpr ⟨tn_c116, List.forall_mem_cons.mpr ⟨tn_c117, List.forall_mem_cons.mpr ⟨tn_c118, List.forall_mem_cons.mpr ⟨tn_c119, List.forall_mem_cons.mpr ⟨tn_c120, List.forall_mem_cons.mpr ⟨tn_c121, List.forall_mem_cons.mpr ⟨tn_c122, List.forall_mem_cons.mpr ⟨tn_c123, fun _ h => absurd h List.not_mem_nil⟩⟩⟩⟩⟩⟩⟩⟩⟩⟩⟩⟩⟩⟩⟩⟩⟩⟩⟩⟩⟩⟩⟩⟩⟩⟩⟩⟩⟩⟩⟩⟩⟩⟩⟩⟩⟩⟩⟩⟩⟩⟩⟩⟩⟩⟩⟩⟩⟩⟩⟩⟩⟩⟩⟩⟩⟩⟩⟩⟩⟩⟩⟩⟩⟩⟩⟩⟩⟩⟩⟩⟩⟩⟩⟩⟩⟩⟩⟩⟩⟩⟩⟩⟩⟩⟩⟩⟩⟩⟩⟩⟩⟩⟩⟩⟩⟩⟩⟩⟩⟩⟩⟩⟩⟩⟩⟩⟩⟩⟩⟩⟩⟩⟩⟩⟩⟩⟩⟩⟩⟩⟩⟩⟩
theorem tn_oI : ∀ q ∈ tn_ki, Cond.constant (tn_cn q.1.1) q.1.2 q.2 ∈ tn_TS := List.forall_mem_cons.mpr ⟨(tn_in 444 (by decide +kernel) (by decide +kernel)), List.forall_mem_cons.mpr ⟨(tn_in 685 (by decide +kernel) (by decide +kernel)), fun _ h => absurd h List.not_mem_nil⟩⟩
theorem tn_oL : ∀ q ∈ tn_kl, Cond.constantLong (tn_cn q.1.1) q.1.2 q.2 ∈ tn_TS := List.forall_mem_cons.mpr ⟨(tn_in 524 (by decide +kernel) (by decide +kernel)), fun _ h => absurd h List.not_mem_nil⟩
theorem tn_ok : am_Ok tn_G tn_TS tn_NS tn_cl := by
  refine ⟨fun w hw => (List.mem_filter.mp hw).2, fun μ M hM => (tn_mM hM).1, ?_, ?_, ?_, ?_, ?_, ?_, ?_, ?_⟩
  · intro μ M ix ci k hM h
    have h1 := tn_oF _ (tn_lk h)
    rw [am_oc_of hM] at h1
    unfold tn_okF at h1
    rw [(tn_mM hM).2]
    exact h1
  all_goals first
    | (intro μ M ix μ' n hM h
       obtain ⟨M9, hM9, h0, h2, h3, h4, h5⟩ := tn_oC _ (tn_lk h)
       obtain rfl : M = M9 := Option.some.inj (hM.symm.trans hM9)
       first | exact h0 rfl | exact h2 rfl | exact h3 rfl | exact h4 rfl | exact h5 rfl)
    | (intro μ M ix v hM h
       have h1 := tn_lk h
       rw [am_oc_of hM] at h1
       rw [(tn_mM hM).2]
       first | exact tn_oI _ h1 | exact tn_oL _ h1)
/-- shapes by a check -/
def tn_shI (sh : List am_D) : Bool := (List.range sh.length).all fun o => (List.range sh.length).all fun o' => match sh[o]?, sh[o']? with
  | some (.inl (_, fs)), some (.inl (_, fs')) => (List.range fs.length).all fun k => (List.range fs'.length).all fun k' => match fs[k]?, fs'[k']? with
    | some (.inr i), some (.inr i') => !(i == i') || (o' == o && k' == k)
    | _, _ => true
  | _, _ => true
def tn_shF (cl : List vw_C) (sh : List am_D) : Bool := (List.range sh.length).all fun o => match sh[o]? with
  | some (.inl (ci, fs)) => match cl[ci]? with
    | some (_, T, N) => decide (fs.length = N) && (List.range fs.length).all fun k => match fs[k]? with
      | some (.inr _) => decide (parseFieldDescriptor (T k).2.2.1 = some .int) && decide ((T k).2.2.2 = false)
      | _ => true
    | none => true
  | _ => true
theorem tn_sh_of {cl : List vw_C} {sh : List am_D} (h1 : tn_shI sh = true) (h2 : tn_shF cl sh = true) : am_Sh cl sh := by
  refine ⟨fun o ci fs k i ho hk o' ci' fs' k' ho' hk' => ?_, fun o ci fs ho C T N hc => ?_⟩
  · have a1 := List.all_eq_true.mp (List.all_eq_true.mp h1 o (List.mem_range.mpr (List.getElem?_eq_some_iff.mp ho).1)) o' (List.mem_range.mpr (List.getElem?_eq_some_iff.mp ho').1)
    simp only [ho, ho'] at a1
    have a2 := List.all_eq_true.mp (List.all_eq_true.mp a1 k (List.mem_range.mpr (List.getElem?_eq_some_iff.mp hk).1)) k' (List.mem_range.mpr (List.getElem?_eq_some_iff.mp hk').1)
    simp only [hk, hk'] at a2
    simpa using a2
  · have a1 := List.all_eq_true.mp h2 o (List.mem_range.mpr (List.getElem?_eq_some_iff.mp ho).1)
    simp only [ho, hc, Bool.and_eq_true, decide_eq_true_eq] at a1
    refine ⟨a1.1, fun k i hk => ?_⟩
    have a2 := List.all_eq_true.mp a1.2 k (List.mem_range.mpr (List.getElem?_eq_some_iff.mp hk).1)
    simpa only [hk, Bool.and_eq_true, decide_eq_true_eq] using a2
/-- the class's world: 0 TermNet, 1 Told, 2 Groups, 3 Walk, 4 Twins; 5 pointTerms, 6 pointMerges, 7 pointEquations, 8 partsOfSign, 9 signOf, 10 parts, 11 leader, 12 ring, 13 shape, 14 trail, 15 state, 16 partsTried, 17 path, 18 order, 19 value, 20 first, 21 next, 22 print; numbers: 0 points, 1 equations, 2 signs, 3 terms, 4 merges, 5 pathLength, 6 ordered -/
def tn_X : List am_D := [.inl (4, [.inl 1, .inl 2, .inl 3, .inl 4, .inl 5, .inl 6, .inl 7, .inr 0, .inr 1]), .inl (1, [.inl 8, .inl 9, .inl 10, .inr 2, .inr 3]), .inl (0, [.inl 1, .inl 11, .inl 12, .inl 13, .inl 14, .inr 4]), .inl (3, [.inl 2, .inl 15, .inl 16, .inl 17, .inl 18, .inl 19, .inr 5, .inr 6]), .inl (2, [.inl 2, .inl 20, .inl 21, .inl 22]), .inr (0, 20), .inr (0, 20), .inr (0, 20), .inr (0, 40), .inr (0, 400), .inr (0, 1200), .inr (0, 400), .inr (0, 400), .inr (0, 400), .inr (0, 400), .inr (0, 400), .inr (0, 400), .inr (0, 400), .inr (0, 400), .inr (0, 400), .inr (0, 401), .inr (0, 400), .inr (0, 400)]
/-- the reference's world: 0 TermNetModel; 1 arity, 2 sign, 3 parts, 4 least, 5 tried, 6 hadTerms, 7 hadEquations, 8 had, 9 known, 10 sizes, 11 depths, 12 ready, 13 in; numbers: 0 signs, 1 terms, 2 points, 3 equations, 4 thrown -/
def tn_Y : List am_D := [.inl (5, [.inl 1, .inl 2, .inl 3, .inr 0, .inr 1, .inr 2, .inr 3, .inr 4, .inl 4, .inl 5, .inl 6, .inl 7, .inl 8, .inl 9, .inl 10, .inl 11, .inl 12, .inl 13]), .inr (0, 40), .inr (0, 400), .inr (0, 1200), .inr (0, 400), .inr (0, 400), .inr (0, 20), .inr (0, 20), .inr (0, 8000), .inr (0, 400), .inr (0, 400), .inr (0, 400), .inr (1, 400), .inr (1, 400)]
theorem tn_X_ok : am_Sh tn_cl tn_X := tn_sh_of (by decide +kernel) (by decide +kernel)
theorem tn_Y_ok : am_Sh tn_cl tn_Y := tn_sh_of (by decide +kernel) (by decide +kernel)
theorem tn_X0 : tn_X[0]? = some (.inl (4, [.inl 1, .inl 2, .inl 3, .inl 4, .inl 5, .inl 6, .inl 7, .inr 0, .inr 1])) := rfl
theorem tn_X1 : tn_X[1]? = some (.inl (1, [.inl 8, .inl 9, .inl 10, .inr 2, .inr 3])) := rfl
theorem tn_X2 : tn_X[2]? = some (.inl (0, [.inl 1, .inl 11, .inl 12, .inl 13, .inl 14, .inr 4])) := rfl
theorem tn_X3 : tn_X[3]? = some (.inl (3, [.inl 2, .inl 15, .inl 16, .inl 17, .inl 18, .inl 19, .inr 5, .inr 6])) := rfl
theorem tn_X4 : tn_X[4]? = some (.inl (2, [.inl 2, .inl 20, .inl 21, .inl 22])) := rfl
theorem tn_X5 : tn_X[5]? = some (.inr (0, 20)) := rfl
theorem tn_X6 : tn_X[6]? = some (.inr (0, 20)) := rfl
theorem tn_X7 : tn_X[7]? = some (.inr (0, 20)) := rfl
theorem tn_X8 : tn_X[8]? = some (.inr (0, 40)) := rfl
theorem tn_X9 : tn_X[9]? = some (.inr (0, 400)) := rfl
theorem tn_X10 : tn_X[10]? = some (.inr (0, 1200)) := rfl
theorem tn_X11 : tn_X[11]? = some (.inr (0, 400)) := rfl
theorem tn_X12 : tn_X[12]? = some (.inr (0, 400)) := rfl
theorem tn_X13 : tn_X[13]? = some (.inr (0, 400)) := rfl
theorem tn_X14 : tn_X[14]? = some (.inr (0, 400)) := rfl
theorem tn_X15 : tn_X[15]? = some (.inr (0, 400)) := rfl
theorem tn_X16 : tn_X[16]? = some (.inr (0, 400)) := rfl
theorem tn_X17 : tn_X[17]? = some (.inr (0, 400)) := rfl
theorem tn_X18 : tn_X[18]? = some (.inr (0, 400)) := rfl
theorem tn_X19 : tn_X[19]? = some (.inr (0, 400)) := rfl
theorem tn_X20 : tn_X[20]? = some (.inr (0, 401)) := rfl
theorem tn_X21 : tn_X[21]? = some (.inr (0, 400)) := rfl
theorem tn_X22 : tn_X[22]? = some (.inr (0, 400)) := rfl
theorem tn_Y0 : tn_Y[0]? = some (.inl (5, [.inl 1, .inl 2, .inl 3, .inr 0, .inr 1, .inr 2, .inr 3, .inr 4, .inl 4, .inl 5, .inl 6, .inl 7, .inl 8, .inl 9, .inl 10, .inl 11, .inl 12, .inl 13])) := rfl
theorem tn_Y1 : tn_Y[1]? = some (.inr (0, 40)) := rfl
theorem tn_Y2 : tn_Y[2]? = some (.inr (0, 400)) := rfl
theorem tn_Y3 : tn_Y[3]? = some (.inr (0, 1200)) := rfl
theorem tn_Y4 : tn_Y[4]? = some (.inr (0, 400)) := rfl
theorem tn_Y5 : tn_Y[5]? = some (.inr (0, 400)) := rfl
theorem tn_Y6 : tn_Y[6]? = some (.inr (0, 20)) := rfl
theorem tn_Y7 : tn_Y[7]? = some (.inr (0, 20)) := rfl
theorem tn_Y8 : tn_Y[8]? = some (.inr (0, 8000)) := rfl
theorem tn_Y9 : tn_Y[9]? = some (.inr (0, 400)) := rfl
theorem tn_Y10 : tn_Y[10]? = some (.inr (0, 400)) := rfl
theorem tn_Y11 : tn_Y[11]? = some (.inr (0, 400)) := rfl
theorem tn_Y12 : tn_Y[12]? = some (.inr (1, 400)) := rfl
theorem tn_Y13 : tn_Y[13]? = some (.inr (1, 400)) := rfl
end
