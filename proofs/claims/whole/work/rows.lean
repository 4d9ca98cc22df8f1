section
-- ===== PART A: goes FIRST, ahead of the names: the tables' words, and 'selects' of the private methods out of them =====
/-- a private method of a class that the tables say can be made, by its rows of tables_1 -/
def lw_okq (q : MethodName × Nat) : Prop := (q.1.cls ≠ "java/lang/invoke/MethodHandle" ∧ q.1.cls ≠ "java/lang/invoke/VarHandle") ∧ Cond.instantiable q.1.cls q.2 ∈ tables_1 ∧ Cond.privateMethod q.1 ∈ tables_1 ∧ Cond.instanceMethod q.1 ∈ tables_1
theorem lw_p0 : lw_okq (⟨"java/lang/Throwable", "fillInStackTrace", "(I)Ljava/lang/Throwable;"⟩, 6) := ⟨⟨by decide +kernel, by decide +kernel⟩, List.mem_of_getElem? (i := 215) (by decide +kernel), List.mem_of_getElem? (i := 213) (by decide +kernel), List.mem_of_getElem? (i := 214) (by decide +kernel)⟩
theorem lw_p1 : lw_okq (⟨"TermNet", "refuseWhenFull", "()V"⟩, 9) := ⟨⟨by decide +kernel, by decide +kernel⟩, List.mem_of_getElem? (i := 16) (by decide +kernel), List.mem_of_getElem? (i := 272) (by decide +kernel), List.mem_of_getElem? (i := 273) (by decide +kernel)⟩
theorem lw_p2 : lw_okq (⟨"TermNet$Groups", "leadRing", "(II)V"⟩, 6) := ⟨⟨by decide +kernel, by decide +kernel⟩, List.mem_of_getElem? (i := 53) (by decide +kernel), List.mem_of_getElem? (i := 331) (by decide +kernel), List.mem_of_getElem? (i := 332) (by decide +kernel)⟩
theorem lw_p3 : lw_okq (⟨"TermNet$Groups", "swapLinks", "(II)V"⟩, 6) := ⟨⟨by decide +kernel, by decide +kernel⟩, List.mem_of_getElem? (i := 53) (by decide +kernel), List.mem_of_getElem? (i := 335) (by decide +kernel), List.mem_of_getElem? (i := 336) (by decide +kernel)⟩
theorem lw_p4 : lw_okq (⟨"TermNet", "refuseUnlessTerm", "(I)V"⟩, 9) := ⟨⟨by decide +kernel, by decide +kernel⟩, List.mem_of_getElem? (i := 16) (by decide +kernel), List.mem_of_getElem? (i := 346) (by decide +kernel), List.mem_of_getElem? (i := 347) (by decide +kernel)⟩
theorem lw_p5 : lw_okq (⟨"TermNet$Groups", "joinParts", "(I)Z"⟩, 6) := ⟨⟨by decide +kernel, by decide +kernel⟩, List.mem_of_getElem? (i := 53) (by decide +kernel), List.mem_of_getElem? (i := 357) (by decide +kernel), List.mem_of_getElem? (i := 358) (by decide +kernel)⟩
theorem lw_p6 : lw_okq (⟨"TermNet$Walk", "begin", "()V"⟩, 8) := ⟨⟨by decide +kernel, by decide +kernel⟩, List.mem_of_getElem? (i := 80) (by decide +kernel), List.mem_of_getElem? (i := 369) (by decide +kernel), List.mem_of_getElem? (i := 370) (by decide +kernel)⟩
theorem lw_p7 : lw_okq (⟨"TermNet$Walk", "reach", "(I)Z"⟩, 8) := ⟨⟨by decide +kernel, by decide +kernel⟩, List.mem_of_getElem? (i := 80) (by decide +kernel), List.mem_of_getElem? (i := 380) (by decide +kernel), List.mem_of_getElem? (i := 381) (by decide +kernel)⟩
theorem lw_p8 : lw_okq (⟨"TermNet$Walk", "enter", "(I)Z"⟩, 8) := ⟨⟨by decide +kernel, by decide +kernel⟩, List.mem_of_getElem? (i := 80) (by decide +kernel), List.mem_of_getElem? (i := 384) (by decide +kernel), List.mem_of_getElem? (i := 385) (by decide +kernel)⟩
theorem lw_p9 : lw_okq (⟨"TermNet$Walk", "goOn", "(I)Z"⟩, 8) := ⟨⟨by decide +kernel, by decide +kernel⟩, List.mem_of_getElem? (i := 80) (by decide +kernel), List.mem_of_getElem? (i := 388) (by decide +kernel), List.mem_of_getElem? (i := 389) (by decide +kernel)⟩
theorem lw_p10 : lw_okq (⟨"TermNet$Groups", "undo", "(I)V"⟩, 6) := ⟨⟨by decide +kernel, by decide +kernel⟩, List.mem_of_getElem? (i := 53) (by decide +kernel), List.mem_of_getElem? (i := 404) (by decide +kernel), List.mem_of_getElem? (i := 405) (by decide +kernel)⟩
theorem lw_p11 : lw_okq (⟨"TermNet$Twins", "printOf", "(I)I"⟩, 4) := ⟨⟨by decide +kernel, by decide +kernel⟩, List.mem_of_getElem? (i := 113) (by decide +kernel), List.mem_of_getElem? (i := 413) (by decide +kernel), List.mem_of_getElem? (i := 414) (by decide +kernel)⟩
theorem lw_p12 : lw_okq (⟨"TermNet$Twins", "joinOrKeep", "(II)V"⟩, 4) := ⟨⟨by decide +kernel, by decide +kernel⟩, List.mem_of_getElem? (i := 113) (by decide +kernel), List.mem_of_getElem? (i := 428) (by decide +kernel), List.mem_of_getElem? (i := 429) (by decide +kernel)⟩
theorem lw_p13 : lw_okq (⟨"TermNet$Walk", "overTree", "(I)V"⟩, 8) := ⟨⟨by decide +kernel, by decide +kernel⟩, List.mem_of_getElem? (i := 80) (by decide +kernel), List.mem_of_getElem? (i := 495) (by decide +kernel), List.mem_of_getElem? (i := 496) (by decide +kernel)⟩
theorem lw_p14 : lw_okq (⟨"TermNet$Walk", "sizeOver", "(I)I"⟩, 8) := ⟨⟨by decide +kernel, by decide +kernel⟩, List.mem_of_getElem? (i := 80) (by decide +kernel), List.mem_of_getElem? (i := 499) (by decide +kernel), List.mem_of_getElem? (i := 500) (by decide +kernel)⟩
theorem lw_p15 : lw_okq (⟨"TermNet$Walk", "depthOver", "(I)I"⟩, 8) := ⟨⟨by decide +kernel, by decide +kernel⟩, List.mem_of_getElem? (i := 80) (by decide +kernel), List.mem_of_getElem? (i := 518) (by decide +kernel), List.mem_of_getElem? (i := 519) (by decide +kernel)⟩
def lw_privs_1 : List (MethodName × Nat) := [(⟨"java/lang/Throwable", "fillInStackTrace", "(I)Ljava/lang/Throwable;"⟩, 6), (⟨"TermNet", "refuseWhenFull", "()V"⟩, 9), (⟨"TermNet$Groups", "leadRing", "(II)V"⟩, 6), (⟨"TermNet$Groups", "swapLinks", "(II)V"⟩, 6), (⟨"TermNet", "refuseUnlessTerm", "(I)V"⟩, 9), (⟨"TermNet$Groups", "joinParts", "(I)Z"⟩, 6), (⟨"TermNet$Walk", "begin", "()V"⟩, 8), (⟨"TermNet$Walk", "reach", "(I)Z"⟩, 8), (⟨"TermNet$Walk", "enter", "(I)Z"⟩, 8), (⟨"TermNet$Walk", "goOn", "(I)Z"⟩, 8), (⟨"TermNet$Groups", "undo", "(I)V"⟩, 6), (⟨"TermNet$Twins", "printOf", "(I)I"⟩, 4), (⟨"TermNet$Twins", "joinOrKeep", "(II)V"⟩, 4), (⟨"TermNet$Walk", "overTree", "(I)V"⟩, 8), (⟨"TermNet$Walk", "sizeOver", "(I)I"⟩, 8), (⟨"TermNet$Walk", "depthOver", "(I)I"⟩, 8)]
theorem lw_r1 : ∀ q ∈ lw_privs_1, lw_okq q := List.forall_mem_cons.mpr ⟨lw_p0, List.forall_mem_cons.mpr ⟨lw_p1, List.forall_mem_cons.mpr ⟨lw_p2, List.forall_mem_cons.mpr ⟨lw_p3, List.forall_mem_cons.mpr ⟨lw_p4, List.forall_mem_cons.mpr ⟨lw_p5, List.forall_mem_cons.mpr ⟨lw_p6, List.forall_mem_cons.mpr ⟨lw_p7, List.forall_mem_cons.mpr ⟨lw_p8, List.forall_mem_cons.mpr ⟨lw_p9, List.forall_mem_cons.mpr ⟨lw_p10, List.forall_mem_cons.mpr ⟨lw_p11, List.forall_mem_cons.mpr ⟨lw_p12, List.forall_mem_cons.mpr ⟨lw_p13, List.forall_mem_cons.mpr ⟨lw_p14, List.forall_mem_cons.mpr ⟨lw_p15, fun _ h => absurd h List.not_mem_nil⟩⟩⟩⟩⟩⟩⟩⟩⟩⟩⟩⟩⟩⟩⟩⟩
theorem lw_p16 : lw_okq (⟨"TermNetModel", "add", "(IIII)I"⟩, 18) := ⟨⟨by decide +kernel, by decide +kernel⟩, List.mem_of_getElem? (i := 562) (by decide +kernel), List.mem_of_getElem? (i := 636) (by decide +kernel), List.mem_of_getElem? (i := 637) (by decide +kernel)⟩
theorem lw_p17 : lw_okq (⟨"TermNetModel", "close", "([I)Z"⟩, 18) := ⟨⟨by decide +kernel, by decide +kernel⟩, List.mem_of_getElem? (i := 562) (by decide +kernel), List.mem_of_getElem? (i := 640) (by decide +kernel), List.mem_of_getElem? (i := 641) (by decide +kernel)⟩
theorem lw_p18 : lw_okq (⟨"TermNetModel", "join", "([III)V"⟩, 18) := ⟨⟨by decide +kernel, by decide +kernel⟩, List.mem_of_getElem? (i := 562) (by decide +kernel), List.mem_of_getElem? (i := 644) (by decide +kernel), List.mem_of_getElem? (i := 645) (by decide +kernel)⟩
theorem lw_p19 : lw_okq (⟨"TermNetModel", "isTerm", "(I)Z"⟩, 18) := ⟨⟨by decide +kernel, by decide +kernel⟩, List.mem_of_getElem? (i := 562) (by decide +kernel), List.mem_of_getElem? (i := 652) (by decide +kernel), List.mem_of_getElem? (i := 653) (by decide +kernel)⟩
theorem lw_p20 : lw_okq (⟨"TermNetModel", "look", "([I)Z"⟩, 18) := ⟨⟨by decide +kernel, by decide +kernel⟩, List.mem_of_getElem? (i := 562) (by decide +kernel), List.mem_of_getElem? (i := 660) (by decide +kernel), List.mem_of_getElem? (i := 661) (by decide +kernel)⟩
theorem lw_p21 : lw_okq (⟨"TermNetModel", "go", "(I)V"⟩, 18) := ⟨⟨by decide +kernel, by decide +kernel⟩, List.mem_of_getElem? (i := 562) (by decide +kernel), List.mem_of_getElem? (i := 693) (by decide +kernel), List.mem_of_getElem? (i := 694) (by decide +kernel)⟩
def lw_privs_2 : List (MethodName × Nat) := [(⟨"TermNetModel", "add", "(IIII)I"⟩, 18), (⟨"TermNetModel", "close", "([I)Z"⟩, 18), (⟨"TermNetModel", "join", "([III)V"⟩, 18), (⟨"TermNetModel", "isTerm", "(I)Z"⟩, 18), (⟨"TermNetModel", "look", "([I)Z"⟩, 18), (⟨"TermNetModel", "go", "(I)V"⟩, 18)]
theorem lw_r2 : ∀ q ∈ lw_privs_2, lw_okq q := List.forall_mem_cons.mpr ⟨lw_p16, List.forall_mem_cons.mpr ⟨lw_p17, List.forall_mem_cons.mpr ⟨lw_p18, List.forall_mem_cons.mpr ⟨lw_p19, List.forall_mem_cons.mpr ⟨lw_p20, List.forall_mem_cons.mpr ⟨lw_p21, fun _ h => absurd h List.not_mem_nil⟩⟩⟩⟩⟩⟩
def lw_privs : List (MethodName × Nat) := lw_privs_1 ++ (lw_privs_2)
def lw_tbl : List Cond := k2_sels lw_privs ++ tables_1
theorem lw_privs_ok : ∀ q ∈ lw_privs, lw_okq q := by
  show ∀ q ∈ lw_privs_1 ++ (lw_privs_2), lw_okq q
  exact List.forall_mem_append.mpr ⟨lw_r1, lw_r2⟩
/-! ===== BEGIN words of one list among another's, by their places ===== -/
theorem goodIn_r {big : List Cond} (ws : List Cond) (ps : List Nat) (hp : ws = ps.filterMap (fun i => big[i]?)) (h : ws.all goodWord = true) : GoodIn big ws := by
  intro w hw
  have h1 := List.all_eq_true.mp h w hw
  rw [hp] at hw
  obtain ⟨i, -, hi⟩ := List.mem_filterMap.mp hw
  have hm : w ∈ big := by first | exact List.mem_of_getElem? hi | exact List.getElem?_mem hi
  exact ⟨hm, good_of_word h1⟩
theorem goodIn_app {big a b : List Cond} (ha : GoodIn big a) (hb : GoodIn big b) : GoodIn big (a ++ b) := fun w h => (List.mem_append.mp h).elim (ha w) (hb w)
theorem goodIn_ca {big a b : List Cond} {c : Cond} (ha : GoodIn big (c :: a)) (hb : GoodIn big b) : GoodIn big (c :: (a ++ b)) := fun w h => (List.mem_cons.mp h).elim (fun e => ha w (List.mem_cons.mpr (Or.inl e))) (fun h => (List.mem_append.mp h).elim (fun h => ha w (List.mem_cons.mpr (Or.inr h))) (hb w))
theorem goodIn_sub {big ws : List Cond} (hm : ∀ w ∈ ws, w ∈ big) (h : ws.all goodWord = true) : GoodIn big ws := fun w hw => ⟨hm w hw, good_of_word (List.all_eq_true.mp h w hw)⟩
/-! ===== END ===== -/

/-! ===== BEGIN exceptions that leave a method, and their catching by the caller (launches without stack traces) ===== -/
section VXA
/-! The laws vx_back, vx_callV, vx_callS, vx_callSW, vx_throw0, vx_throwS follow proofs of the library, with one case more: JvmDerived/Free/Laws.lean (Back.of_free), Shelf42/LK1.lean (callV, callS), Shelf/KitTraced.lean (throwNew0V, throwNewS). -/
/-- where a method has thrown q: the class by its name, the cell, what was written, the world -/
def vx_T (XC : String → State → State → Prop) (st : State) (q : Addr) (t : State) (mc ms : Nat) (free : Addr → Prop) : Prop :=
  ∃ (E : String) (ce : Cell) (L : List Loc), XC E st t ∧ t.heap[q]? = some ce ∧ ce.vm = .none ∧ st.vm.findClass E = some ce.cls ∧ st.WarmedH t.vm ∧ st.sameButNew ({ t with vm := st.vm } : State) L mc ms ∧ ∀ z ∈ L, free z.base
def vx_Q (Qc : Array Value → State → Outcome → State → Prop) (XC : String → State → State → Prop) (mc ms : Nat) (free : Addr → Prop) : Array Value → State → Outcome → State → Prop := fun a st o t =>
  (Qc a st o t ∧ ∃ L, FrameEnd st o t L mc ms ∧ ∀ q ∈ L, free q.base) ∨ ∃ q, o = .threw q ∧ vx_T XC st q t mc ms free
/-- a callee that returns or throws -/
def vx_Met (l : Launch) (y : MethodName) (ws : List Cond) (rm : Room) (Pc : Array Value → State → Prop) (Qc : Array Value → State → Outcome → State → Prop) (XC : String → State → State → Prop) (mc ms : Nat) (free : Addr → Prop) : Prop :=
  MetFree l y (headSpec ws rm) Pc (fun _ _ _ _ _ => True) (vx_Q Qc XC mc ms free)
def vx_Post (XC : String → State → State → Prop) (mc ms : Nat) (free : Addr → Prop) : Pt → Array Value → Addr → Pt → Prop := fun A a q B =>
  ∃ (g : JFrame) (mk : MethodId) (t : State) (L : List Loc) (E : String) (ce : Cell), B.U.heap = t.heap ∧ B.U.vm = t.vm ∧ XC E (A.U.calling g mk a) t ∧ t.heap[q]? = some ce ∧ ce.vm = .none ∧ A.U.vm.findClass E = some ce.cls ∧ B.locs = A.locs ++ L ∧ (∀ z ∈ L, free z.base) ∧ B.cells = A.cells + mc ∧ B.slots = A.slots + ms
def vx_Back (l : Launch) (R : Room) (p : Program) (e : Env) (below : List Frame) (s : State) (sargs : Array Value) (y : MethodName) (len W9 : Nat)
    (Pre : Pt → Array Value → Prop) (Post : Pt → Array Value → Option Value → Pt → Prop) (PostX : Pt → Array Value → Addr → Pt → Prop) : Prop :=
  ∀ (m : MethodId) (meth : Method) (c : Code) (A : Pt) (g : JFrame) (ig : Instr) (mk : MethodId) (a : Array Value),
    Stand p l e R s m sargs below meth c A.U A.locs A.cells A.slots → g.method = m → g.locals.size = c.maxLocals → decode c.code g.pc = .ok (ig, len) →
    2 * g.monitorRoom + (g.stack.map fun v => v.category).sum ≤ W9 → A.U.methodNamed? y = some mk → Pre A a →
    (∃ (v : Option Value) (B : Pt), Stand p l e R s m sargs below meth c B.U B.locs B.cells B.slots ∧ Post A a v B ∧
      Steps p.tables e below (doInvoke e (A.U.setTop g) [] mk a).1 (B.U.setTop { g with pc := g.pc + len, stack := v.toList ++ g.stack })) ∨
    (∃ (q : Addr) (B : Pt), Stand p l e R s m sargs below meth c B.U B.locs B.cells B.slots ∧ PostX A a q B ∧
      Steps p.tables e below (doInvoke e (A.U.setTop g) [] mk a).1 ((B.U.setTop g).pushFrame (.throwing q)))
section Payer
variable {l : Launch} {R : Room} {p : Program} {e : Env} {below : List Frame} {s : State} {sargs : Array Value} {y : MethodName} {len W9 : Nat}
theorem vx_back {ws : List Cond} {rm : Room} {Pc : Array Value → State → Prop} {Qc : Array Value → State → Outcome → State → Prop} {XC : String → State → State → Prop} {mc ms : Nat} {free : Addr → Prop} {bytes : ByteArray} {maxL : Nat} {ret : Option FieldType}
    (hM : vx_Met l y ws rm Pc Qc XC mc ms free) (hblind : FrameBlind Pc) (hrc : rm.cells = mc) (hrs : rm.slots = ms)
    (hframes : rm.frames + 1 ≤ R.frames) (hlocals : W9 + (maxL + 11) + rm.locals ≤ R.locals)
    (hws : ∀ w ∈ ws, ∀ a' U, s.WarmedH U.vm → w.before a' U = true) (hcode : Cond.code y bytes maxL ret ∈ ws) (hinit : ∀ a' U, s.WarmedH U.vm → (Cond.initialized y.cls).before a' U = true) :
    vx_Back l R p e below s sargs y len W9 (PreOf R mc ms Pc) (PostOf Qc mc ms free) (vx_Post XC mc ms free) := by
  intro m meth c A g ig mk a X hg hsize hdg hW hn hp
  have h1 : (headSpec ws rm).pre.before a A.U = true := atoms_intro fun w hw => hws w hw _ _ X.warmed
  have h2 : (Cond.code y bytes maxL ret).before a A.U = true := hws _ hcode _ _ X.warmed
  have h3 : (Cond.initialized y.cls).before a A.U = true := hinit _ _ X.warmed
  have h4 : A.cells + (headSpec ws rm).room.cells ≤ R.cells := by rw [show (headSpec ws rm).room.cells = mc from hrc]; exact hp.1
  have h5 : A.slots + (headSpec ws rm).room.slots ≤ R.slots := by rw [show (headSpec ws rm).room.slots = ms from hrs]; exact hp.2.1
  have hPc : Pc a (A.U.calling g mk a) := hblind _ _ _ _ hp.2.2
  obtain ⟨U, Ls, c0, s0⟩ := A
  dsimp only [Pt.U, Pt.locs, Pt.cells, Pt.slots] at h1 h2 h3 h4 h5 X hn hPc ⊢
  obtain ⟨methY, cY, hmY, hcY, -, hlY, -, -, -, -⟩ := Cond.code_spec hn h2
  obtain ⟨kY, hkY, -⟩ := className_of_methodNamed hn
  have hinitY : kY.init = .initialized := Cond.initialized_spec (findClass_of_methodNamed hn) hkY h3
  have h : At U g.method c below := by rw [hg]; exact X.here
  have hlocals9 : W9 + (maxL + 11) + (headSpec ws rm).room.locals ≤ R.locals := hlocals
  have happ : (headSpec ws rm).appliesLoose y e.platform (U.calling g mk a) = true :=
    Spec.appliesLoose_calling (g := g) h hdg hn hkY hinitY
      (X.room_calling (g := g) (R' := (headSpec ws rm).room) hsize hmY hcY hframes (by rw [hlY]; omega) h4 h5) h1
  obtain ⟨mid, hmid⟩ := h.above
  have hfr : (U.setTop g).frames = (.java g :: mid) ++ below := by rw [State.frames_setTop' g h.top, hmid]; rfl
  obtain ⟨o, s₂, hsteps, -, hend, hq⟩ := Steps.callFree hM p X.admits X.cas X.clock (acts := []) hfr happ hPc trivial
  have hq' : vx_Q Qc XC mc ms free a (U.calling g mk a) o s₂ := hq
  rw [State.frames_setTop' g h.top] at hend
  obtain ⟨g₀, hg0⟩ := Option.isSome_iff_exists.mp h.top
  obtain ⟨r, hr⟩ := State.topJava?_eq_some.mp hg0
  have hr' : (({ U with heap := s₂.heap, slotsUsed := s₂.slotsUsed } : State).setVm s₂.vm).frames = .java g₀ :: r := hr
  rcases hq' with ⟨hqc, L, hfe, hL⟩ | ⟨q, rfl, E, ce, L, hx, hce, hcv, hcl, hW₂, hsm, hL⟩
  · obtain ⟨⟨v, rfl⟩, hW₂, e2, q2, q3, q4, q5, q6⟩ := id hfe
    have e3 : s₂ = ({ (U.calling g mk a).setFrames s₂.frames with heap := s₂.heap, slotsUsed := s₂.slotsUsed } : State).setVm s₂.vm := by
      have : s₂ = ({ s₂ with vm := (U.calling g mk a).vm } : State).setVm s₂.vm := rfl
      rw [e2] at this
      exact this
    obtain ⟨c₂, i₂, len₂, hc₂, hd₂, hf₂⟩ := hend
    have hW' : U.WarmedH s₂.vm := hW₂
    have hcc : c₂ = c := by
      have h1 : s₂.code? g.method = U.code? g.method := by
        rw [State.code?_eq, State.code?_eq, hW'.alike.method?]
      exact Option.some.inj (hc₂.symm.trans (h1.trans h.code))
    subst hcc
    have hlen : len₂ = len := by rw [hdg] at hd₂; cases hd₂; rfl
    subst hlen
    have hs₂ : s₂ = (({ U with heap := s₂.heap, slotsUsed := s₂.slotsUsed } : State).setVm s₂.vm).setTop { g with pc := g.pc + len₂, stack := v.toList ++ g.stack } := by
      refine e3.trans ?_
      rw [hf₂, State.calling_eq h.top, State.setFrames_setFrames, State.setTop_of_frames _ hr', hr]
      rfl
    have hsame : U.sameButNew ({ U with heap := s₂.heap, slotsUsed := s₂.slotsUsed } : State) L mc ms := by
      refine ⟨?_, q2, q3, q4, q5, q6⟩
      obtain ⟨t, ht, -⟩ := State.frames_cons hr
      show ({ U with heap := s₂.heap, slotsUsed := s₂.slotsUsed } : State) = { U.setFrames U.frames with heap := s₂.heap, slotsUsed := s₂.slotsUsed }
      rw [State.setFrames_self ht]
    subst hg
    refine Or.inl ⟨v, ⟨(({ U with heap := s₂.heap, slotsUsed := s₂.slotsUsed } : State).setVm s₂.vm), Ls ++ L, c0 + mc, s0 + ms⟩,
      ⟨X.admits, X.cas, X.clock, X.frames, X.room, X.hears, X.method, X.code, (X.here.setHeapUsed s₂.heap s₂.slotsUsed).setVm hW'.alike, X.tail, State.WarmedH.trans X.warmed hW', X.limits, X.bytes, X.same.trans (hsame.setVm s.vm)⟩,
      ⟨g, mk, s₂, L, rfl, rfl, hqc, rfl, hL, rfl, rfl⟩, ?_⟩
    show Steps p.tables e below _ ((({ U with heap := s₂.heap, slotsUsed := s₂.slotsUsed } : State).setVm s₂.vm).setTop { g with pc := g.pc + len₂, stack := v.toList ++ g.stack })
    rw [← hs₂]
    exact hsteps
  · obtain ⟨e2, q2, q3, q4, q5, q6⟩ := id hsm
    have e3 : s₂ = ({ (U.calling g mk a).setFrames s₂.frames with heap := s₂.heap, slotsUsed := s₂.slotsUsed } : State).setVm s₂.vm := by
      have : s₂ = ({ s₂ with vm := (U.calling g mk a).vm } : State).setVm s₂.vm := rfl
      rw [e2] at this
      exact this
    have hf₂ : s₂.frames = .throwing q :: .java g :: U.frames.tail := hend
    have hW' : U.WarmedH s₂.vm := hW₂
    have hs₂ : s₂ = ((({ U with heap := s₂.heap, slotsUsed := s₂.slotsUsed } : State).setVm s₂.vm).setTop g).pushFrame (.throwing q) := by
      refine e3.trans ?_
      rw [hf₂, State.calling_eq h.top, State.setFrames_setFrames, State.pushFrame, State.frames_setTop _ hr', State.setTop_of_frames _ hr', State.setFrames_setFrames, hr]
      rfl
    have hsame : U.sameButNew ({ U with heap := s₂.heap, slotsUsed := s₂.slotsUsed } : State) L mc ms := by
      refine ⟨?_, q2, q3, q4, q5, q6⟩
      obtain ⟨t, ht, -⟩ := State.frames_cons hr
      show ({ U with heap := s₂.heap, slotsUsed := s₂.slotsUsed } : State) = { U.setFrames U.frames with heap := s₂.heap, slotsUsed := s₂.slotsUsed }
      rw [State.setFrames_self ht]
    subst hg
    refine Or.inr ⟨q, ⟨(({ U with heap := s₂.heap, slotsUsed := s₂.slotsUsed } : State).setVm s₂.vm), Ls ++ L, c0 + mc, s0 + ms⟩,
      ⟨X.admits, X.cas, X.clock, X.frames, X.room, X.hears, X.method, X.code, (X.here.setHeapUsed s₂.heap s₂.slotsUsed).setVm hW'.alike, X.tail, State.WarmedH.trans X.warmed hW', X.limits, X.bytes, X.same.trans (hsame.setVm s.vm)⟩,
      ⟨g, mk, s₂, L, E, ce, rfl, rfl, hx, hce, hcv, hcl, rfl, hL, rfl, rfl⟩, ?_⟩
    show Steps p.tables e below _ (((({ U with heap := s₂.heap, slotsUsed := s₂.slotsUsed } : State).setVm s₂.vm).setTop g).pushFrame (.throwing q))
    rw [← hs₂]
    exact hsteps
end Payer
section Calls
variable {p : Program} {l : Launch} {e : Env} {R : Room} {s : State} {m : MethodId} {args : Array Value} {below : List Frame} {meth : Method} {c : Code} {T : State} {locs : List Loc} {cells slots : Nat}
theorem vx_callV (X : Stand p l e R s m args below meth c T locs cells slots) (hexec : p.tables.exec = Jvm.exec) {own C : String} {index : Nat} {y : MethodName} {bytes : ByteArray} {maxL : Nat} {ret : Option FieldType}
    (hown : s.vm.findClass own = some m.cls) (hlink : (Cond.methodLink own index y).before args s = true) (hinst : (Cond.instanceMethod y).before args s = true) (hsel : (Cond.selects C y y).before args s = true)
    (hcode : (Cond.code y bytes maxL ret).before args s = true) (hy : y.cls ≠ "java/lang/invoke/MethodHandle" ∧ y.cls ≠ "java/lang/invoke/VarHandle")
    {W9 : Nat} {Pre : Pt → Array Value → Prop} {Post : Pt → Array Value → Option Value → Pt → Prop} {PostX : Pt → Array Value → Addr → Pt → Prop} (hK : vx_Back l R p e below s args y 3 W9 Pre Post PostX)
    {b : Addr} {cellB : Cell} (hcell : T.heap[b]? = some cellB) (hobj : cellB.vm.isStatics = false) (hcls : s.vm.findClass C = some cellB.cls)
    {g : JFrame} (hg : g.method = m) (hsize : g.locals.size = c.maxLocals) {argsL rest : List Value} (hlen : ∀ sig, parseMethodDescriptor y.desc = some sig → argsL.length = sig.parameters.length)
    (hstack : g.stack = argsL.reverse ++ .ref b :: rest) (hW : 2 * g.monitorRoom + (rest.map fun v => v.category).sum ≤ W9) (hdg : decode c.code g.pc = .ok (.invokevirtual index, 3))
    (hpre : ∀ vm₁, s.WarmedH vm₁ → Pre ⟨T.setVm vm₁, locs, cells, slots⟩ (Value.ref b :: argsL).toArray) :
    (∃ (v : Option Value) (vm₁ : Vm) (B : Pt), s.WarmedH vm₁ ∧ Stand p l e R s m args below meth c B.U B.locs B.cells B.slots ∧ Post ⟨T.setVm vm₁, locs, cells, slots⟩ (Value.ref b :: argsL).toArray v B ∧
      ∀ target, Steps p.tables e below (B.U.setTop { g with pc := g.pc + 3, stack := v.toList ++ rest }) target → Steps p.tables e below (T.setTop g) target) ∨
    (∃ (q : Addr) (vm₁ : Vm) (B : Pt), s.WarmedH vm₁ ∧ Stand p l e R s m args below meth c B.U B.locs B.cells B.slots ∧ PostX ⟨T.setVm vm₁, locs, cells, slots⟩ (Value.ref b :: argsL).toArray q B ∧
      Steps p.tables e below (T.setTop g) ((B.U.setTop { g with stack := rest }).pushFrame (.throwing q))) := by
  obtain ⟨mk, methM, hnamed, hmethM, hstM, habM⟩ := Cond.instanceMethod_spec hinst
  obtain ⟨methM', cM, hmethM', -, -, -, -, -, -, hsigM⟩ := Cond.code_spec hnamed hcode
  cases hmethM.symm.trans hmethM'
  obtain ⟨c2, r2, m2, q1, q2, q3, q4, kP, hkP, hkPi⟩ := Cond.selects_spec hsel
  cases hcls.symm.trans q1
  cases (State.methodFound?_of_named hnamed hy).symm.trans q2
  cases hnamed.symm.trans q3
  have hselP : selectMethod e.platform s.vm cellB.cls mk = .method mk := by rw [Launch.admits_selectMethod X.admits]; exact q4
  obtain ⟨vm₁, X₁, hstep₁⟩ := X.invokevirtual hexec hown hlink hnamed hmethM hstM hkP hkPi hy (a := b) (cell := cellB) hcell
    (fun z h => by rw [h] at hobj; cases hobj) hselP hmethM habM hkP hkPi (g := g) hg (argsL := argsL) (rest := rest) (hlen _ hsigM) hstack hdg
  rcases hK m meth c ⟨T.setVm vm₁, locs, cells, slots⟩ { g with stack := rest } (.invokevirtual index) mk (Value.ref b :: argsL).toArray X₁ hg hsize hdg hW (X₁.named hnamed) (hpre vm₁ X₁.warmed) with ⟨v, B, X', hpost, hsteps⟩ | ⟨q, B, X', hpost, hsteps⟩
  · exact Or.inl ⟨v, vm₁, B, X₁.warmed, X', hpost, fun target h => hstep₁ _ fun acts => by rw [doInvoke_state]; exact hsteps.trans h⟩
  · exact Or.inr ⟨q, vm₁, B, X₁.warmed, X', hpost, hstep₁ _ fun acts => by rw [doInvoke_state]; exact hsteps⟩
theorem vx_callS (X : Stand p l e R s m args below meth c T locs cells slots) (hexec : p.tables.exec = Jvm.exec) {own : String} {index : Nat} {y : MethodName} {bytes : ByteArray} {maxL : Nat} {ret : Option FieldType}
    (hown : s.vm.findClass own = some m.cls) (hlink : (Cond.methodLink own index y).before args s = true) (hstat : (Cond.static y).before args s = true) (hinit : (Cond.initialized y.cls).before args s = true)
    (hcode : (Cond.code y bytes maxL ret).before args s = true) (hy : y.cls ≠ "java/lang/invoke/MethodHandle" ∧ y.cls ≠ "java/lang/invoke/VarHandle")
    {W9 : Nat} {Pre : Pt → Array Value → Prop} {Post : Pt → Array Value → Option Value → Pt → Prop} {PostX : Pt → Array Value → Addr → Pt → Prop} (hK : vx_Back l R p e below s args y 3 W9 Pre Post PostX)
    {g : JFrame} (hg : g.method = m) (hsize : g.locals.size = c.maxLocals) {argsL rest : List Value} (hlen : ∀ sig, parseMethodDescriptor y.desc = some sig → argsL.length = sig.parameters.length)
    (hstack : g.stack = argsL.reverse ++ rest) (hW : 2 * g.monitorRoom + (rest.map fun v => v.category).sum ≤ W9) (hdg : decode c.code g.pc = .ok (.invokestatic index, 3))
    (hpre : ∀ vm₁, s.WarmedH vm₁ → Pre ⟨T.setVm vm₁, locs, cells, slots⟩ argsL.toArray) :
    (∃ (v : Option Value) (vm₁ : Vm) (B : Pt), s.WarmedH vm₁ ∧ Stand p l e R s m args below meth c B.U B.locs B.cells B.slots ∧ Post ⟨T.setVm vm₁, locs, cells, slots⟩ argsL.toArray v B ∧
      ∀ target, Steps p.tables e below (B.U.setTop { g with pc := g.pc + 3, stack := v.toList ++ rest }) target → Steps p.tables e below (T.setTop g) target) ∨
    (∃ (q : Addr) (vm₁ : Vm) (B : Pt), s.WarmedH vm₁ ∧ Stand p l e R s m args below meth c B.U B.locs B.cells B.slots ∧ PostX ⟨T.setVm vm₁, locs, cells, slots⟩ argsL.toArray q B ∧
      Steps p.tables e below (T.setTop g) ((B.U.setTop { g with stack := rest }).pushFrame (.throwing q))) := by
  obtain ⟨mk, hnamed⟩ := Cond.code_named hcode
  obtain ⟨methM, cM, hmethM, -, -, -, -, -, -, hsigM⟩ := Cond.code_spec hnamed hcode
  have hstatic : methM.isStatic = true := Cond.static_spec hnamed hmethM hstat
  obtain ⟨kP, hkP, -⟩ := className_of_methodNamed hnamed
  have hinitP : kP.init = .initialized := Cond.initialized_spec (findClass_of_methodNamed hnamed) hkP hinit
  obtain ⟨vm₁, X₁, hstep₁⟩ := X.invokestatic hexec hown hlink hnamed hmethM hstatic hkP hinitP hy (g := g) hg (argsL := argsL) (rest := rest) (hlen _ hsigM) hstack hdg
  rcases hK m meth c ⟨T.setVm vm₁, locs, cells, slots⟩ { g with stack := rest } (.invokestatic index) mk argsL.toArray X₁ hg hsize hdg hW (X₁.named hnamed) (hpre vm₁ X₁.warmed) with ⟨v, B, X', hpost, hsteps⟩ | ⟨q, B, X', hpost, hsteps⟩
  · exact Or.inl ⟨v, vm₁, B, X₁.warmed, X', hpost, fun target h => hstep₁ _ fun acts => by rw [doInvoke_state]; exact hsteps.trans h⟩
  · exact Or.inr ⟨q, vm₁, B, X₁.warmed, X', hpost, hstep₁ _ fun acts => by rw [doInvoke_state]; exact hsteps⟩
end Calls
theorem vx_cls {s : State} {T : State} {vm₁ : Vm} {E : String} {k : ClassId} (hW : s.WarmedH vm₁) (h : (T.setVm vm₁).vm.findClass E = some k) : s.vm.findClass E = some k := by
  have h1 : vm₁.findClass E = some k := h
  rw [hW.alike.findClass] at h1
  exact h1
/-- the method's frame g, with q thrown over it -/
def vx_W (p : Program) (l : Launch) (e : Env) (R : Room) (s : State) (m : MethodId) (args : Array Value) (below : List Frame) (meth : Method) (c : Code) (H : Heap) (locs : List Loc) (cells slots : Nat) (Q : State → Prop) (g : JFrame) (q : Addr) : Prop :=
  ∀ T : State, T.heap = H → Stand p l e R s m args below meth c T locs cells slots → ∃ t, Steps p.tables e below ((T.setTop g).pushFrame (.throwing q)) t ∧ Q t
def vx_Run (p : Program) (l : Launch) (e : Env) (R : Room) (s : State) (m : MethodId) (args : Array Value) (below : List Frame) (meth : Method) (c : Code) (H : Heap) (locs : List Loc) (cells slots mc ms : Nat) (g : JFrame) (rest : List Value) (Qa : State → Outcome → State → Prop) (XC : String → State → State → Prop) (free : Addr → Prop) : Prop :=
  ∀ T : State, T.heap = H → Stand p l e R s m args below meth c T locs cells slots →
    (∃ (v : Option Value) (st₀ t T' : State) (L : List Loc), st₀.heap = H ∧ Stand p l e R s m args below meth c T' (locs ++ L) (cells + mc) (slots + ms) ∧ (∀ q ∈ L, free q.base) ∧ T'.heap = t.heap ∧ T'.vm = t.vm ∧ Qa st₀ (.returned v) t ∧
      Goes p e below T g T' { g with pc := g.pc + 3, stack := v.toList ++ rest }) ∨
    (∃ (q : Addr) (st₀ t T' : State) (L : List Loc) (E : String) (ce : Cell), st₀.heap = H ∧ Stand p l e R s m args below meth c T' (locs ++ L) (cells + mc) (slots + ms) ∧ (∀ z ∈ L, free z.base) ∧ T'.heap = t.heap ∧ T'.vm = t.vm ∧ XC E st₀ t ∧ t.heap[q]? = some ce ∧ ce.vm = .none ∧ s.vm.findClass E = some ce.cls ∧
      Steps p.tables e below (T.setTop g) ((T'.setTop { g with stack := rest }).pushFrame (.throwing q)))
def vx_X {S : Type} (px : S → Prop) (B : String → S → State → Prop) (A : Nat → Prop) : String → State → State → Prop := fun E st t => ∃ u : S, px u ∧ B E u t ∧ va_F A st t
section Runs
variable {p : Program} {l : Launch} {e : Env} {R : Room} {s : State} {m : MethodId} {args : Array Value} {below : List Frame} {meth : Method} {c : Code} {H : Heap} {locs : List Loc} {cells slots : Nat}
variable {y : MethodName} {bytes cc : ByteArray} {maxL nL mc ms n index : Nat} {ret : Option FieldType} {ws : List Cond} {rm : Room} {Pc : Array Value → State → Prop} {Qc : Array Value → State → Outcome → State → Prop} {XC : String → State → State → Prop} {free : Addr → Prop} {Ts : List Cond} {own C : String} {b : Addr} {As rest : List Value} {g : JFrame}
theorem vx_callBack (cb : CallB R s args own index y bytes maxL ret ws rm mc ms n) (hM : vx_Met l y ws rm Pc Qc XC mc ms free) (hbl : FrameBlind Pc) : vx_Back l R p e below s args y 3 8 (PreOf R mc ms Pc) (PostOf Qc mc ms free) (vx_Post XC mc ms free) := by
  obtain ⟨hrc, hrs, hfr, hlo, hws, hcw, -, hini, -⟩ := cb
  exact vx_back (bytes := bytes) (maxL := maxL) (ret := ret) hM hbl hrc hrs hfr hlo hws hcw (fun a' U hW => word_at hW (Or.inl (by first | rfl | simp [Cond.onTables, Cond.keeps, Cond.steady])) hini)
theorem vx_runV (S : CallFix p m c cc nL s args Ts own) (hM : vx_Met l y ws rm Pc Qc XC mc ms free) (cw : CallW R s args own C index y bytes maxL ret ws rm mc ms n) (hp : PreV s H C b Pc As)
    (hg : g.method = m) (hn : As.length = n) (hsize : g.locals.size = nL) (hstack : g.stack = As.reverse ++ .ref b :: rest) (hW : 2 * g.monitorRoom + (rest.map fun v => v.category).sum ≤ 8) (hdg : decode cc g.pc = .ok (.invokevirtual index, 3)) (hf : cells + mc ≤ R.cells ∧ slots + ms ≤ R.slots) :
    vx_Run p l e R s m args below meth c H locs cells slots mc ms g rest (Qc (Value.ref b :: As).toArray) XC free := by
  have hK : vx_Back l R p e below s args y 3 8 (PreOf R mc ms Pc) (PostOf Qc mc ms free) (vx_Post XC mc ms free) := vx_callBack cw.1 hM hp.1
  obtain ⟨⟨-, -, -, -, -, -, hcode, -, hy, hlen, hl⟩, hin, hse⟩ := cw
  obtain ⟨hx, hb, hml, ho, -⟩ := S
  obtain ⟨-, ⟨cellB, hcB, hoB, hclB⟩, hPc⟩ := hp
  intro T hT X
  rcases vx_callV X hx (C := C) (bytes := bytes) (maxL := maxL) (ret := ret) ho hl hin hse hcode hy hK (by rw [hT]; exact hcB) hoB hclB hg (hsize.trans hml.symm) (argsL := As) (rest := rest) (fun sig h => hn.trans (hlen sig h)) hstack hW (by rw [hb]; exact hdg)
    (fun vm₁ hW₁ => ⟨hf.1, hf.2, hPc (T.setVm vm₁) hT hW₁⟩) with ⟨v, vm₁, ⟨U', l2, c2, s2⟩, hW₁, X', ⟨g', mk, t, L, e1, e2, hq, h1, hL, h2, h3⟩, st⟩ | ⟨q, vm₁, ⟨U', l2, c2, s2⟩, hW₁, X', ⟨g', mk, t, L, E, ce, e1, e2, hq, hce, hcv, hcl, h1, hL, h2, h3⟩, st⟩
  · dsimp only [Pt.U, Pt.locs, Pt.cells, Pt.slots] at X' e1 e2 h1 h2 h3 st
    subst h1; subst h2; subst h3
    exact Or.inl ⟨v, (T.setVm vm₁).calling g' mk (Value.ref b :: As).toArray, t, U', L, hT, X', hL, e1, e2, hq, st⟩
  · dsimp only [Pt.U, Pt.locs, Pt.cells, Pt.slots] at X' e1 e2 h1 h2 h3 st hcl
    subst h1; subst h2; subst h3
    exact Or.inr ⟨q, (T.setVm vm₁).calling g' mk (Value.ref b :: As).toArray, t, U', L, E, ce, hT, X', hL, e1, e2, hq, hce, hcv, vx_cls hW₁ hcl, st⟩
theorem vx_runS (S : CallFix p m c cc nL s args Ts own) (hM : vx_Met l y ws rm Pc Qc XC mc ms free) (cw : CallB R s args own index y bytes maxL ret ws rm mc ms n ∧ (Cond.static y).before args s = true) (hp : PreS s H Pc As)
    (hg : g.method = m) (hn : As.length = n) (hsize : g.locals.size = nL) (hstack : g.stack = As.reverse ++ rest) (hW : 2 * g.monitorRoom + (rest.map fun v => v.category).sum ≤ 8) (hdg : decode cc g.pc = .ok (.invokestatic index, 3)) (hf : cells + mc ≤ R.cells ∧ slots + ms ≤ R.slots) :
    vx_Run p l e R s m args below meth c H locs cells slots mc ms g rest (Qc As.toArray) XC free := by
  have hK : vx_Back l R p e below s args y 3 8 (PreOf R mc ms Pc) (PostOf Qc mc ms free) (vx_Post XC mc ms free) := vx_callBack cw.1 hM hp.1
  obtain ⟨⟨-, -, -, -, -, -, hcode, hini, hy, hlen, hl⟩, hstt⟩ := cw
  obtain ⟨hx, hb, hml, ho, -⟩ := S
  intro T hT X
  rcases vx_callS X hx (bytes := bytes) (maxL := maxL) (ret := ret) ho hl hstt hini hcode hy hK hg (hsize.trans hml.symm) (argsL := As) (rest := rest) (fun sig h => hn.trans (hlen sig h)) hstack hW (by rw [hb]; exact hdg)
    (fun vm₁ hW₁ => ⟨hf.1, hf.2, hp.2 (T.setVm vm₁) hT hW₁⟩) with ⟨v, vm₁, ⟨U', l2, c2, s2⟩, hW₁, X', ⟨g', mk, t, L, e1, e2, hq, h1, hL, h2, h3⟩, st⟩ | ⟨q, vm₁, ⟨U', l2, c2, s2⟩, hW₁, X', ⟨g', mk, t, L, E, ce, e1, e2, hq, hce, hcv, hcl, h1, hL, h2, h3⟩, st⟩
  · dsimp only [Pt.U, Pt.locs, Pt.cells, Pt.slots] at X' e1 e2 h1 h2 h3 st
    subst h1; subst h2; subst h3
    exact Or.inl ⟨v, (T.setVm vm₁).calling g' mk As.toArray, t, U', L, hT, X', hL, e1, e2, hq, st⟩
  · dsimp only [Pt.U, Pt.locs, Pt.cells, Pt.slots] at X' e1 e2 h1 h2 h3 st hcl
    subst h1; subst h2; subst h3
    exact Or.inr ⟨q, (T.setVm vm₁).calling g' mk As.toArray, t, U', L, E, ce, hT, X', hL, e1, e2, hq, hce, hcv, vx_cls hW₁ hcl, st⟩
end Runs
section Rows
variable {p : Program} {l : Launch} {e : Env} {R : Room} {s : State} {m : MethodId} {args : Array Value} {below : List Frame} {meth : Method} {c : Code} {H : Heap} {locs : List Loc} {cells slots : Nat} {Q : State → Prop}
variable {mc ms : Nat} {free : Addr → Prop} {A0 A1 : Nat → Prop} {H0 : Heap} {a : Array Value} {pc : Nat} {ls : Array Slot} {st0 rest : List Value}
theorem vx_keep {st₀ t T' : State} {L : List Loc} (h0 : st₀.heap = H) (e1 : T'.heap = t.heap) (hS : va_S A0 H0 H locs) (hA : ∀ q, q < H.size → A1 q → A0 q) (hf : ∀ q, free q → A0 q) (hL : ∀ q ∈ L, free q.base) (hF : va_F A1 st₀ t) :
    H.size ≤ T'.heap.size ∧ (∀ q : Nat, q < H.size → ¬ A1 q → T'.heap[q]? = H[q]?) ∧ va_S A0 H0 T'.heap (locs ++ L) := by
  obtain ⟨hz, hk⟩ := hF
  rw [h0] at hz hk
  exact ⟨by rw [e1]; exact hz, fun q h1 h2 => by rw [e1]; exact hk q h1 h2,
    ⟨Nat.le_trans hS.1 (by rw [e1]; exact hz), fun q h1 h2 => by rw [e1, hk q (Nat.lt_of_lt_of_le h1 hS.1) (fun z => h2 (hA q (Nat.lt_of_lt_of_le h1 hS.1) z))]; exact hS.2.1 q h1 h2, fun q hq => by
      rcases List.mem_append.mp hq with h | h
      · exact hS.2.2 q h
      · exact hf _ (hL q h)⟩⟩
theorem vx_calli {S SX : Type} {post : Int32 → S → Prop} {px : SX → Prop} {B : S → State → Prop} {BX : String → SX → State → Prop} {AX : Nat → Prop} (hr : vx_Run p l e R s m args below meth c H locs cells slots mc ms (F0 m pc ls st0) rest (va_Qi post B A1 a) (vx_X px BX AX) free) (hS : va_S A0 H0 H locs) (hA : ∀ q, q < H.size → A1 q → A0 q) (hf : ∀ q, free q → A0 q) (hAX : ∀ q, q < H.size → AX q → A0 q)
    (kx : ∀ (E : String) (ce : Cell) (q9 : Addr) (u : SX) (t : State) (H1 : Heap) (locs1 : List Loc), t.heap = H1 → s.vm.Alike t.vm → px u → BX E u t → H.size ≤ H1.size → (∀ q : Nat, q < H.size → ¬ AX q → H1[q]? = H[q]?) → va_S A0 H0 H1 locs1 → H1[q9]? = some ce → ce.vm = .none → s.vm.findClass E = some ce.cls → vx_W p l e R s m args below meth c H1 locs1 (cells + mc) (slots + ms) Q (F0 m pc ls rest) q9)
    (kk : ∀ (r : Int32) (u : S) (t : State) (H1 : Heap) (locs1 : List Loc), t.heap = H1 → s.vm.Alike t.vm → post r u → B u t → H.size ≤ H1.size → (∀ q : Nat, q < H.size → ¬ A1 q → H1[q]? = H[q]?) → va_S A0 H0 H1 locs1 → W p l e R s m args below meth c H1 locs1 (cells + mc) (slots + ms) Q (F0 m (pc + 3) ls (.int r :: rest))) : W p l e R s m args below meth c H locs cells slots Q (F0 m pc ls st0) := by
  intro T hT X
  rcases hr T hT X with ⟨v, st₀, t, T', L, h0, X', hL, e1, e2, ⟨⟨r, u, hv, hp, hb⟩, hF⟩, st⟩ | ⟨q, st₀, t, T', L, E, ce, h0, X', hL, e1, e2, ⟨u, hp, hb, hF⟩, hce, hcv, hcl, st⟩
  · cases hv
    obtain ⟨k1, k2, k3⟩ := vx_keep h0 e1 hS hA hf hL hF
    obtain ⟨t2, a1, b1⟩ := kk r u t T'.heap (locs ++ L) e1.symm (by rw [← e2]; exact X'.warmed.alike) hp hb k1 k2 k3 T' rfl X'
    exact ⟨t2, st t2 a1, b1⟩
  · obtain ⟨k1, k2, k3⟩ := vx_keep h0 e1 hS hAX hf hL hF
    obtain ⟨t2, a1, b1⟩ := kx E ce q u t T'.heap (locs ++ L) e1.symm (by rw [← e2]; exact X'.warmed.alike) hp hb k1 k2 k3 (by rw [e1]; exact hce) hcv hcl T' rfl X'
    exact ⟨t2, st.trans a1, b1⟩
theorem vx_calll {S SX : Type} {post : Int64 → S → Prop} {px : SX → Prop} {B : S → State → Prop} {BX : String → SX → State → Prop} {AX : Nat → Prop} (hr : vx_Run p l e R s m args below meth c H locs cells slots mc ms (F0 m pc ls st0) rest (va_Ql post B A1 a) (vx_X px BX AX) free) (hS : va_S A0 H0 H locs) (hA : ∀ q, q < H.size → A1 q → A0 q) (hf : ∀ q, free q → A0 q) (hAX : ∀ q, q < H.size → AX q → A0 q)
    (kx : ∀ (E : String) (ce : Cell) (q9 : Addr) (u : SX) (t : State) (H1 : Heap) (locs1 : List Loc), t.heap = H1 → s.vm.Alike t.vm → px u → BX E u t → H.size ≤ H1.size → (∀ q : Nat, q < H.size → ¬ AX q → H1[q]? = H[q]?) → va_S A0 H0 H1 locs1 → H1[q9]? = some ce → ce.vm = .none → s.vm.findClass E = some ce.cls → vx_W p l e R s m args below meth c H1 locs1 (cells + mc) (slots + ms) Q (F0 m pc ls rest) q9)
    (kk : ∀ (r : Int64) (u : S) (t : State) (H1 : Heap) (locs1 : List Loc), t.heap = H1 → s.vm.Alike t.vm → post r u → B u t → H.size ≤ H1.size → (∀ q : Nat, q < H.size → ¬ A1 q → H1[q]? = H[q]?) → va_S A0 H0 H1 locs1 → W p l e R s m args below meth c H1 locs1 (cells + mc) (slots + ms) Q (F0 m (pc + 3) ls (.long r :: rest))) : W p l e R s m args below meth c H locs cells slots Q (F0 m pc ls st0) := by
  intro T hT X
  rcases hr T hT X with ⟨v, st₀, t, T', L, h0, X', hL, e1, e2, ⟨⟨r, u, hv, hp, hb⟩, hF⟩, st⟩ | ⟨q, st₀, t, T', L, E, ce, h0, X', hL, e1, e2, ⟨u, hp, hb, hF⟩, hce, hcv, hcl, st⟩
  · cases hv
    obtain ⟨k1, k2, k3⟩ := vx_keep h0 e1 hS hA hf hL hF
    obtain ⟨t2, a1, b1⟩ := kk r u t T'.heap (locs ++ L) e1.symm (by rw [← e2]; exact X'.warmed.alike) hp hb k1 k2 k3 T' rfl X'
    exact ⟨t2, st t2 a1, b1⟩
  · obtain ⟨k1, k2, k3⟩ := vx_keep h0 e1 hS hAX hf hL hF
    obtain ⟨t2, a1, b1⟩ := kx E ce q u t T'.heap (locs ++ L) e1.symm (by rw [← e2]; exact X'.warmed.alike) hp hb k1 k2 k3 (by rw [e1]; exact hce) hcv hcl T' rfl X'
    exact ⟨t2, st.trans a1, b1⟩
theorem vx_callf {S SX : Type} {post : UInt32 → S → Prop} {px : SX → Prop} {B : S → State → Prop} {BX : String → SX → State → Prop} {AX : Nat → Prop} (hr : vx_Run p l e R s m args below meth c H locs cells slots mc ms (F0 m pc ls st0) rest (va_Qf post B A1 a) (vx_X px BX AX) free) (hS : va_S A0 H0 H locs) (hA : ∀ q, q < H.size → A1 q → A0 q) (hf : ∀ q, free q → A0 q) (hAX : ∀ q, q < H.size → AX q → A0 q)
    (kx : ∀ (E : String) (ce : Cell) (q9 : Addr) (u : SX) (t : State) (H1 : Heap) (locs1 : List Loc), t.heap = H1 → s.vm.Alike t.vm → px u → BX E u t → H.size ≤ H1.size → (∀ q : Nat, q < H.size → ¬ AX q → H1[q]? = H[q]?) → va_S A0 H0 H1 locs1 → H1[q9]? = some ce → ce.vm = .none → s.vm.findClass E = some ce.cls → vx_W p l e R s m args below meth c H1 locs1 (cells + mc) (slots + ms) Q (F0 m pc ls rest) q9)
    (kk : ∀ (r : UInt32) (u : S) (t : State) (H1 : Heap) (locs1 : List Loc), t.heap = H1 → s.vm.Alike t.vm → post r u → B u t → H.size ≤ H1.size → (∀ q : Nat, q < H.size → ¬ A1 q → H1[q]? = H[q]?) → va_S A0 H0 H1 locs1 → W p l e R s m args below meth c H1 locs1 (cells + mc) (slots + ms) Q (F0 m (pc + 3) ls (.float r :: rest))) : W p l e R s m args below meth c H locs cells slots Q (F0 m pc ls st0) := by
  intro T hT X
  rcases hr T hT X with ⟨v, st₀, t, T', L, h0, X', hL, e1, e2, ⟨⟨r, u, hv, hp, hb⟩, hF⟩, st⟩ | ⟨q, st₀, t, T', L, E, ce, h0, X', hL, e1, e2, ⟨u, hp, hb, hF⟩, hce, hcv, hcl, st⟩
  · cases hv
    obtain ⟨k1, k2, k3⟩ := vx_keep h0 e1 hS hA hf hL hF
    obtain ⟨t2, a1, b1⟩ := kk r u t T'.heap (locs ++ L) e1.symm (by rw [← e2]; exact X'.warmed.alike) hp hb k1 k2 k3 T' rfl X'
    exact ⟨t2, st t2 a1, b1⟩
  · obtain ⟨k1, k2, k3⟩ := vx_keep h0 e1 hS hAX hf hL hF
    obtain ⟨t2, a1, b1⟩ := kx E ce q u t T'.heap (locs ++ L) e1.symm (by rw [← e2]; exact X'.warmed.alike) hp hb k1 k2 k3 (by rw [e1]; exact hce) hcv hcl T' rfl X'
    exact ⟨t2, st.trans a1, b1⟩
theorem vx_calld {S SX : Type} {post : UInt64 → S → Prop} {px : SX → Prop} {B : S → State → Prop} {BX : String → SX → State → Prop} {AX : Nat → Prop} (hr : vx_Run p l e R s m args below meth c H locs cells slots mc ms (F0 m pc ls st0) rest (va_Qd post B A1 a) (vx_X px BX AX) free) (hS : va_S A0 H0 H locs) (hA : ∀ q, q < H.size → A1 q → A0 q) (hf : ∀ q, free q → A0 q) (hAX : ∀ q, q < H.size → AX q → A0 q)
    (kx : ∀ (E : String) (ce : Cell) (q9 : Addr) (u : SX) (t : State) (H1 : Heap) (locs1 : List Loc), t.heap = H1 → s.vm.Alike t.vm → px u → BX E u t → H.size ≤ H1.size → (∀ q : Nat, q < H.size → ¬ AX q → H1[q]? = H[q]?) → va_S A0 H0 H1 locs1 → H1[q9]? = some ce → ce.vm = .none → s.vm.findClass E = some ce.cls → vx_W p l e R s m args below meth c H1 locs1 (cells + mc) (slots + ms) Q (F0 m pc ls rest) q9)
    (kk : ∀ (r : UInt64) (u : S) (t : State) (H1 : Heap) (locs1 : List Loc), t.heap = H1 → s.vm.Alike t.vm → post r u → B u t → H.size ≤ H1.size → (∀ q : Nat, q < H.size → ¬ A1 q → H1[q]? = H[q]?) → va_S A0 H0 H1 locs1 → W p l e R s m args below meth c H1 locs1 (cells + mc) (slots + ms) Q (F0 m (pc + 3) ls (.double r :: rest))) : W p l e R s m args below meth c H locs cells slots Q (F0 m pc ls st0) := by
  intro T hT X
  rcases hr T hT X with ⟨v, st₀, t, T', L, h0, X', hL, e1, e2, ⟨⟨r, u, hv, hp, hb⟩, hF⟩, st⟩ | ⟨q, st₀, t, T', L, E, ce, h0, X', hL, e1, e2, ⟨u, hp, hb, hF⟩, hce, hcv, hcl, st⟩
  · cases hv
    obtain ⟨k1, k2, k3⟩ := vx_keep h0 e1 hS hA hf hL hF
    obtain ⟨t2, a1, b1⟩ := kk r u t T'.heap (locs ++ L) e1.symm (by rw [← e2]; exact X'.warmed.alike) hp hb k1 k2 k3 T' rfl X'
    exact ⟨t2, st t2 a1, b1⟩
  · obtain ⟨k1, k2, k3⟩ := vx_keep h0 e1 hS hAX hf hL hF
    obtain ⟨t2, a1, b1⟩ := kx E ce q u t T'.heap (locs ++ L) e1.symm (by rw [← e2]; exact X'.warmed.alike) hp hb k1 k2 k3 (by rw [e1]; exact hce) hcv hcl T' rfl X'
    exact ⟨t2, st.trans a1, b1⟩
theorem vx_callv {S SX : Type} {post : S → Prop} {px : SX → Prop} {B : S → State → Prop} {BX : String → SX → State → Prop} {AX : Nat → Prop} (hr : vx_Run p l e R s m args below meth c H locs cells slots mc ms (F0 m pc ls st0) rest (va_Qv post B A1 a) (vx_X px BX AX) free) (hS : va_S A0 H0 H locs) (hA : ∀ q, q < H.size → A1 q → A0 q) (hf : ∀ q, free q → A0 q) (hAX : ∀ q, q < H.size → AX q → A0 q)
    (kx : ∀ (E : String) (ce : Cell) (q9 : Addr) (u : SX) (t : State) (H1 : Heap) (locs1 : List Loc), t.heap = H1 → s.vm.Alike t.vm → px u → BX E u t → H.size ≤ H1.size → (∀ q : Nat, q < H.size → ¬ AX q → H1[q]? = H[q]?) → va_S A0 H0 H1 locs1 → H1[q9]? = some ce → ce.vm = .none → s.vm.findClass E = some ce.cls → vx_W p l e R s m args below meth c H1 locs1 (cells + mc) (slots + ms) Q (F0 m pc ls rest) q9)
    (kk : ∀ (u : S) (t : State) (H1 : Heap) (locs1 : List Loc), t.heap = H1 → s.vm.Alike t.vm → post u → B u t → H.size ≤ H1.size → (∀ q : Nat, q < H.size → ¬ A1 q → H1[q]? = H[q]?) → va_S A0 H0 H1 locs1 → W p l e R s m args below meth c H1 locs1 (cells + mc) (slots + ms) Q (F0 m (pc + 3) ls (rest))) : W p l e R s m args below meth c H locs cells slots Q (F0 m pc ls st0) := by
  intro T hT X
  rcases hr T hT X with ⟨v, st₀, t, T', L, h0, X', hL, e1, e2, ⟨⟨u, hv, hp, hb⟩, hF⟩, st⟩ | ⟨q, st₀, t, T', L, E, ce, h0, X', hL, e1, e2, ⟨u, hp, hb, hF⟩, hce, hcv, hcl, st⟩
  · cases hv
    obtain ⟨k1, k2, k3⟩ := vx_keep h0 e1 hS hA hf hL hF
    obtain ⟨t2, a1, b1⟩ := kk u t T'.heap (locs ++ L) e1.symm (by rw [← e2]; exact X'.warmed.alike) hp hb k1 k2 k3 T' rfl X'
    exact ⟨t2, st t2 a1, b1⟩
  · obtain ⟨k1, k2, k3⟩ := vx_keep h0 e1 hS hAX hf hL hF
    obtain ⟨t2, a1, b1⟩ := kx E ce q u t T'.heap (locs ++ L) e1.symm (by rw [← e2]; exact X'.warmed.alike) hp hb k1 k2 k3 (by rw [e1]; exact hce) hcv hcl T' rfl X'
    exact ⟨t2, st.trans a1, b1⟩
/-- caught by the row x of this method's table; the rows ahead don't take it -/
theorem vx_catch {own name : String} {E : String} {ce : Cell} {q : Addr} (hown : s.vm.findClass own = some m.cls) (pre : List ExceptionTableEntry) (x : ExceptionTableEntry) (suf : List ExceptionTableEntry) (hsplit : c.exceptionTable.toList = pre ++ x :: suf)
    (hpass : ∀ z ∈ pre, covers z pc = false ∨ (z.catchType ≠ 0 ∧ ∃ nm : String, (Cond.classLink own z.catchType nm).before args s = true ∧ va_Nc E nm s)) (hx : covers x pc = true) (h0 : x.catchType ≠ 0)
    (hlink : (Cond.classLink own x.catchType name).before args s = true) (hcast : (Cond.castable E name).before args s = true) (hcell : H[q]? = some ce) (hv : ce.vm = .none) (hcl : s.vm.findClass E = some ce.cls)
    (kk : W p l e R s m args below meth c H locs cells slots Q (F0 m x.handlerPc ls [.ref q])) : vx_W p l e R s m args below meth c H locs cells slots Q (F0 m pc ls rest) q := by
  intro T hT X
  have hpl : e.platform.magicAccessors = ({} : Platform).magicAccessors := by rw [X.admits.platform]
  obtain ⟨c3, c4, hc3, hc4, hasg⟩ := Cond.castable_spec hcast
  cases Option.some.inj (hc3.symm.trans hcl)
  obtain ⟨c5, hc5, hcl5⟩ := Cond.classLink_spec hown hlink e.platform hpl
  cases Option.some.inj (hc4.symm.trans hc5)
  obtain ⟨vm', X', st⟩ := X.thenCaughtThrough q (g := F0 m pc ls rest) rfl (Steps.refl _) (by rw [hT]; exact hcell) (by rw [hv]; rfl) (by obtain ⟨k9, h9, -⟩ := Vm.findClass_spec hcl; exact ⟨k9, h9⟩) pre x suf hsplit
    (fun z hz => by
      rcases hpass z hz with h | ⟨hz0, nm, hl1, hn1⟩
      · exact Or.inl h
      · obtain ⟨c6, hc6, hcl6⟩ := Cond.classLink_spec hown hl1 e.platform hpl
        obtain ⟨a8, b8, h1, h2, h3⟩ := hn1
        cases Option.some.inj (h1.symm.trans hcl)
        cases Option.some.inj (h2.symm.trans hc6)
        exact Or.inr ⟨hz0, _, hcl6, h3⟩) hx (Or.inr ⟨h0, c4, hcl5, hasg⟩)
  obtain ⟨t, a1, b1⟩ := kk (T.setVm vm') hT X'
  exact ⟨t, st.trans a1, b1⟩
end Rows
section Ends
variable {p : Program} {l : Launch} {e : Env} {R : Room} {s : State} {m : MethodId} {args : Array Value} {below : List Frame} {meth : Method} {c : Code} {H : Heap} {locs : List Loc} {cells slots : Nat} {Q : State → Prop}
variable {mc ms : Nat} {free : Addr → Prop} {A0 A1 : Nat → Prop} {H0 : Heap} {a : Array Value} {ls : Array Slot} {st0 rest : List Value}
variable {Qc : Array Value → State → Outcome → State → Prop} {XC : String → State → State → Prop}
/-- what a body that may throw owes at its end -/
def vx_MQ (below : List Frame) (Qc : Array Value → State → Outcome → State → Prop) (XC : String → State → State → Prop) (a : Array Value) (s : State) (mc ms : Nat) (free : Addr → Prop) : State → Prop := fun t =>
  ∃ o, t.status = .running ∧ Ended t below o ∧ vx_Q Qc XC mc ms free a s o t
theorem vx_ret {g : JFrame} {mc ms : Nat} (k : W p l e R s m args below meth c H locs cells slots (MQ below Qc args s mc ms free) g) : W p l e R s m args below meth c H locs cells slots (vx_MQ below Qc XC args s mc ms free) g := by
  intro T hT X
  obtain ⟨t, a1, o, b1, b2, b3, b4⟩ := k T hT X
  exact ⟨t, a1, o, b1, b2, Or.inl ⟨b3, b4⟩⟩
/-- not caught here: it goes on to the caller -/
theorem vx_widen {g : JFrame} {q : Addr} {k n : Nat} (h1 : cells ≤ k) (h2 : slots ≤ n) (kk : vx_W p l e R s m args below meth c H locs k n Q g q) : vx_W p l e R s m args below meth c H locs cells slots Q g q := fun T hT X => kk T hT (stand_widen X h1 h2)
theorem vx_out {pc : Nat} {E : String} {ce : Cell} {q : Addr} {mc ms : Nat} (hout : ∀ x ∈ c.exceptionTable.toList, covers x pc = false) (hlocks : meth.locks = false) (hcell : H[q]? = some ce) (hv : ce.vm = .none) (hcl : s.vm.findClass E = some ce.cls)
    (hx : ∀ t : State, t.heap = H → s.vm.Alike t.vm → XC E s t) (hf : ∀ z ∈ locs, free z.base) (hc : cells ≤ mc) (hs : slots ≤ ms) :
    vx_W p l e R s m args below meth c H locs cells slots (vx_MQ below Qc XC args s mc ms free) (F0 m pc ls rest) q := by
  intro T hT X
  obtain ⟨st1, hrun, hend, hW, hsm⟩ := X.leaveThrown q (g := F0 m pc ls rest) rfl rfl rfl hout hlocks
  have hcell9 : (T.setFrames (.throwing q :: below)).heap[q]? = some ce := by
    show T.heap[q]? = some ce
    rw [hT]; exact hcell
  exact ⟨_, st1, .threw q, hrun, hend, Or.inr ⟨q, rfl, E, ce, locs, hx _ hT hW.alike, hcell9, hv, hcl, hW, hsm.mono hc hs, hf⟩⟩
theorem vx_frame {U : State} {k n : Nat} (h : s.sameButNew ({ U with vm := s.vm } : State) locs k n) : s.heap.size ≤ U.heap.size ∧ ∀ q : Nat, q < s.heap.size → (∀ z ∈ locs, z.base ≠ q) → U.heap[q]? = s.heap[q]? := by
  obtain ⟨-, h2, -, -, -, h6⟩ := h
  refine ⟨h2, fun q hq hz => ?_⟩
  obtain ⟨c9, e1, e2, e3, e4⟩ := h6 q _ (Array.getElem?_eq_getElem hq)
  have hs : c9.slots = (s.heap[q]).slots := Array.ext_getElem? fun i => e4 i fun hm => hz _ hm rfl
  have h9 : c9 = s.heap[q] := by
    rw [hs] at e2
    exact e2
  have e5 : U.heap[q]? = some c9 := e1
  rw [e5, h9, Array.getElem?_eq_getElem hq]
/-- the words of a throw but the four that speak of the heap -/
def vx_no (w : Cond) : Bool := decide (w ≠ .isRef (.static Bundle.tN "UNASSIGNED_STACK" Bundle.steD)) && decide (w ≠ .isRef (.static Bundle.tN "SUPPRESSED_SENTINEL" Bundle.listD)) && decide (w ≠ .laysStatic Bundle.tN "UNASSIGNED_STACK" Bundle.steD) && decide (w ≠ .laysStatic Bundle.tN "SUPPRESSED_SENTINEL" Bundle.listD)
def vx_at0 (own : String) (ic : Nat) (X : String) (names : List String) : List Cond := (Bundle.ownAtoms0 own ic X names).filter vx_no
def vx_atS (own : String) (ic : Nat) (X : String) (names : List String) : List Cond := (Bundle.ownAtoms own ic X names).filter vx_no
/-- a word that the tables alone decide, or a good one -/
def vx_ot (w : Cond) : Bool := w.onTables || goodWord w
theorem vx_ot_at {args a' : Array Value} {s U : State} {w : Cond} (hW : s.WarmedH U.vm) (hvm : s.vm = U.vm) (hg : vx_ot w = true) (h : w.before args s = true) : w.before a' U = true := by
  simp only [vx_ot, Bool.or_eq_true] at hg
  rcases hg with hg | hg
  · exact va_tabs hg hvm h
  · exact word_at hW (good_of_word hg) h
/-- a list's words: the good ones out of the method's own list, the others by premises of their own -/
theorem vx_hat {args : Array Value} {s : State} {L B : List Cond} (h1 : ∀ w ∈ L.filter goodWord, w.before args s = true) (h2 : ∀ w ∈ L.filter (fun w => !goodWord w), w ∈ B) (h3 : ∀ w ∈ B, w.before args s = true) : ∀ w ∈ L, w.before args s = true := by
  intro w hw
  by_cases g : goodWord w = true
  · exact h1 w (List.mem_filter.mpr ⟨hw, g⟩)
  · refine h3 w (h2 w (List.mem_filter.mpr ⟨hw, ?_⟩))
    show (!goodWord w) = true
    cases hgw : goodWord w
    · rfl
    · exact absurd hgw g
theorem vx_c {args : Array Value} {s : State} {w : Cond} {B : List Cond} (h : w.before args s = true) (t : ∀ w ∈ B, w.before args s = true) : ∀ w' ∈ w :: B, w'.before args s = true := fun w' h' => (List.mem_cons.mp h').elim (fun e => by rw [e]; exact h) (t w')
theorem vx_n {args : Array Value} {s : State} : ∀ w ∈ ([] : List Cond), w.before args s = true := fun _ h => nomatch h
theorem vx_own {args : Array Value} {s : State} {L : List Cond} (h1 : ∀ w ∈ L.filter vx_no, w.before args s = true)
    (hU : (Cond.isRef (.static Bundle.tN "UNASSIGNED_STACK" Bundle.steD)).before args s = true) (hN : (Cond.isRef (.static Bundle.tN "SUPPRESSED_SENTINEL" Bundle.listD)).before args s = true)
    (lU : (Cond.laysStatic Bundle.tN "UNASSIGNED_STACK" Bundle.steD).before args s = true) (lN : (Cond.laysStatic Bundle.tN "SUPPRESSED_SENTINEL" Bundle.listD).before args s = true) : ∀ w ∈ L, w.before args s = true := by
  intro w hw
  by_cases e1 : w = .isRef (.static Bundle.tN "UNASSIGNED_STACK" Bundle.steD)
  · rw [e1]; exact hU
  · by_cases e2 : w = .isRef (.static Bundle.tN "SUPPRESSED_SENTINEL" Bundle.listD)
    · rw [e2]; exact hN
    · by_cases e3 : w = .laysStatic Bundle.tN "UNASSIGNED_STACK" Bundle.steD
      · rw [e3]; exact lU
      · by_cases e4 : w = .laysStatic Bundle.tN "SUPPRESSED_SENTINEL" Bundle.listD
        · rw [e4]; exact lN
        · exact h1 w (List.mem_filter.mpr ⟨hw, by unfold vx_no; rw [decide_eq_true e1, decide_eq_true e2, decide_eq_true e3, decide_eq_true e4]; rfl⟩)
/-- where a static field lies, its class's statics cell in H -/
def vx_L (C n d : String) (A : Nat → Prop) (U : State) (H : Heap) : Prop := ∃ (c : ClassId) (k : Class) (i : Nat) (f : Field) (a : Nat) (cell : Cell), U.vm.findClass C = some c ∧ U.fieldFound? C n d = some (c, k, i, f) ∧ f.isStatic = true ∧ k.statics = some a ∧ H[a]? = some cell ∧ cell.vm.isStatics = true ∧ cell.cls = c ∧ f.slot < cell.slots.size ∧ k.staticTypes[f.slot]? = some f.type ∧ ¬ A a
theorem vx_L.moved {C n d : String} {A : Nat → Prop} {u U : State} {H : Heap} (hvm : u.vm.Alike U.vm) (h : vx_L C n d A u H) : vx_L C n d A U H := by
  obtain ⟨c, k, i, f, a, cell, h1, h2, h3, h4, h5, h6, h7, h8, h9, h10⟩ := h
  obtain ⟨k', hi', he⟩ := State.fieldFound?_setVm hvm h2
  exact ⟨c, k', i, f, a, cell, by rw [hvm.findClass]; exact h1, hi', h3, by rw [he]; exact h4, h5, h6, h7, h8, by rw [he]; exact h9, h10⟩
theorem vx_L.kept {C n d : String} {A : Nat → Prop} {U : State} {H H1 : Heap} (h : vx_L C n d A U H) (hq : ∀ a : Nat, a < H.size → ¬ A a → H1[a]? = H[a]?) : vx_L C n d A U H1 := by
  obtain ⟨c, k, i, f, a, cell, h1, h2, h3, h4, h5, h6, h7, h8, h9, h10⟩ := h
  exact ⟨c, k, i, f, a, cell, h1, h2, h3, h4, by rw [hq a (Array.getElem?_eq_some_iff.mp h5).1 h10]; exact h5, h6, h7, h8, h9, h10⟩
theorem vx_L.narrow {C n d : String} {A B : Nat → Prop} {U : State} {H : Heap} (h : vx_L C n d A U H) (hAB : ∀ q, B q → A q) : vx_L C n d B U H := by
  obtain ⟨c, k, i, f, a, cell, h1, h2, h3, h4, h5, h6, h7, h8, h9, h10⟩ := h
  exact ⟨c, k, i, f, a, cell, h1, h2, h3, h4, h5, h6, h7, h8, h9, fun z => h10 (hAB _ z)⟩
theorem vx_L.word {C n d : String} {A : Nat → Prop} {s : State} {args : Array Value} (h : vx_L C n d A s s.heap) : (Cond.laysStatic C n d).before args s = true := by
  obtain ⟨c, k, i, f, a, cell, h1, h2, h3, h4, h5, h6, h7, h8, h9, -⟩ := h
  show (Cond.laysStatic C n d).holds args s none s [] = true
  exact Cond.laysStatic_of h1 h2 h3 h4 h5 h6 h7 h8 h9
/-- .. and what it holds: null or some reference -/
def vx_Zq (C n d : String) (A : Nat → Prop) (U : State) (H : Heap) : Prop := va_Zq C n d A U H ∧ vx_L C n d A U H
theorem vx_Zq.moved {C n d : String} {A : Nat → Prop} {u U : State} {H : Heap} (hvm : u.vm.Alike U.vm) (h : vx_Zq C n d A u H) : vx_Zq C n d A U H := ⟨va_Zq.moved hvm h.1, vx_L.moved hvm h.2⟩
theorem vx_Zq.kept {C n d : String} {A : Nat → Prop} {U : State} {H H1 : Heap} (h : vx_Zq C n d A U H) (hq : ∀ a : Nat, a < H.size → ¬ A a → H1[a]? = H[a]?) : vx_Zq C n d A U H1 := ⟨va_Zq.kept h.1 hq, vx_L.kept h.2 hq⟩
theorem vx_Zq.narrow {C n d : String} {A B : Nat → Prop} {U : State} {H : Heap} (h : vx_Zq C n d A U H) (hAB : ∀ q, B q → A q) : vx_Zq C n d B U H := ⟨va_Zq.narrow h.1 hAB, vx_L.narrow h.2 hAB⟩
theorem vx_Zqof {args : Array Value} {s : State} {C n d : String} {A : Nat → Prop} (hl : (Cond.laysStatic C n d).before args s = true) (hini : (Cond.initialized C).before args s = true) (h : (Cond.isRef (.static C n d)).before args s = true) (hA : ∀ a : Nat, a < s.heap.size → ¬ A a) : vx_Zq C n d A s s.heap := by
  refine ⟨va_Zqof hl hini h hA, ?_⟩
  obtain ⟨c, k, i, f, a, cell, h1, h2, h3, h4, h5, h6, h7, h8, h9⟩ := Cond.laysStatic_spec hl
  exact ⟨c, k, i, f, a, cell, h1, h2, h3, h4, h5, h6, h7, h8, h9, hA a (Array.getElem?_eq_some_iff.mp h5).1⟩
theorem vx_isRef {C n d : String} {v : Value} {A : Nat → Prop} {s : State} {args : Array Value} (h : va_Z C n d v A s s.heap) (hv : v.isRef = true) : (Cond.isRef (.static C n d)).before args s = true := by
  obtain ⟨cf, kf, fi, f, a, cell, h1, h2, h3, h4, h5, h6, h7, -⟩ := h
  have he : (Term.static C n d).eval args s none [] s = some v := by
    simp [Term.eval, State.fieldNamed?, h1, h2, h4, h5, h6, h7]
  simp only [Cond.before, Cond.holds, Cond.value, he]
  cases v <;> simp_all [Value.isRef]
theorem vx_isRefq {C n d : String} {A : Nat → Prop} {s : State} {args : Array Value} (h : va_Zq C n d A s s.heap) : (Cond.isRef (.static C n d)).before args s = true := by
  rcases h with h | ⟨t, h⟩
  · exact vx_isRef h rfl
  · exact vx_isRef h rfl
/-- the same frame, seen from here: as if the method were called anew in this heap -/
theorem vx_rebase {T : State} (X : Stand p l e R s m args below meth c T locs cells slots) {R' : Room} (hf : R'.frames ≤ R.frames) (hl : R'.locals ≤ R.locals) (hc : cells + R'.cells ≤ R.cells) (hs : slots + R'.slots ≤ R.slots) :
    Stand p l e R' ((T.setVm s.vm).setFrames (.invoking m args :: below)) m args below meth c T [] 0 0 := by
  have htop : (T.setVm s.vm).topJava?.isSome := X.here.top
  have hF : ((T.setVm s.vm).setFrames (.invoking m args :: below)).frames = .invoking m args :: below := State.frames_setFrames _ (State.cur_lt_of_top htop)
  obtain ⟨g₀, hg0⟩ := Option.isSome_iff_exists.mp htop
  obtain ⟨r, hr⟩ := State.topJava?_eq_some.mp hg0
  have hl9 : e.platform.stackLimits (T.setVm s.vm).me = e.platform.stackLimits s.me := X.limits
  have hb9 : (T.setVm s.vm).me.stackBytes = s.me.stackBytes := X.bytes
  refine ⟨X.admits, X.cas, X.clock, hF, ?_, X.hears, X.method, X.code, X.here, X.tail, X.warmed, ?_, ?_, ?_⟩
  · have h := X.room
    have hU : ((T.setVm s.vm).setFrames (.invoking m args :: below)).localsInUse = s.localsInUse := by
      rw [State.localsInUse_invoking hF (meth := meth) (c := c) X.method X.code, State.localsInUse_invoking X.frames X.method X.code]
    simp only [State.hasRoom, Bool.and_eq_true, decide_eq_true_eq] at h ⊢
    obtain ⟨⟨⟨⟨h1, h2, h3, h4, h5, h6⟩, h7⟩, h8⟩, h9⟩ := h
    rw [X.frames, List.length_cons] at h2 h3
    have q1 := X.heapSize
    have q2 := X.used
    simp only [hF, hU, List.length_cons, State.stackLimits_setFrames, State.stackBytes_setFrames, hl9, hb9]
    refine ⟨⟨⟨⟨by omega, by omega, by omega, by omega, by omega, h6⟩, ?_⟩, ?_⟩, X.book⟩
    · show T.heap.size + R'.cells ≤ e.platform.maxCells
      omega
    · show T.slotsUsed + R'.slots ≤ e.platform.maxSlots
      omega
  · rw [State.stackLimits_setFrames]; rfl
  · rw [State.stackBytes_setFrames]; rfl
  · refine ⟨?_, Nat.le_refl _, Nat.le_refl _, ?_, ?_, fun a c9 h9 => ⟨c9, h9, rfl, rfl, fun _ _ => rfl⟩⟩
    · obtain ⟨t, ht, -⟩ := State.frames_cons hr
      show T.setVm s.vm = { ((T.setVm s.vm).setFrames (.invoking m args :: below)).setFrames (T.setVm s.vm).frames with heap := T.heap, slotsUsed := T.slotsUsed }
      rw [State.setFrames_setFrames, State.setFrames_self ht]
      rfl
    · show T.slotsUsed = T.slotsUsed + ((T.heap.toList.drop T.heap.size).map (·.slots.size)).sum
      rw [List.drop_eq_nil_of_le (Nat.le_of_eq Array.length_toList)]
      rfl
    · show ((T.heap.toList.drop T.heap.size).map (·.slots.size)).sum ≤ 0
      rw [List.drop_eq_nil_of_le (Nat.le_of_eq Array.length_toList)]
      exact Nat.le_refl _
/-- 'throw new E()': new; dup; invokespecial; athrow -/
theorem vx_throw0 {cc : ByteArray} {pc : Nat} (hexec : p.tables.exec = Jvm.exec) (hb : c.code = cc) (hl : l.stackTraces = false) {own cls : String} {names : List String} {ik ic mc ms : Nat} {A : Nat → Prop}
    (hown : s.vm.findClass own = some m.cls) (hcls : Bundle.fit cls = true) (hnames : ∀ n ∈ names, Bundle.fit n = true)
    (hk : (Cond.classLink own ik cls).before args s = true) (hini : (Cond.initialized cls).before args s = true) (hat : ∀ w ∈ vx_at0 own ic cls names, w.before args s = true)
    (hgood : ∀ w ∈ Cond.classLink own ik cls :: Cond.initialized cls :: vx_at0 own ic cls names, vx_ot w = true)
    (hU : vx_Zq Bundle.tN "UNASSIGNED_STACK" Bundle.steD A s s.heap) (hN : vx_Zq Bundle.tN "SUPPRESSED_SENTINEL" Bundle.listD A s s.heap) (hS : va_S A s.heap H locs) (hsize : ls.size = c.maxLocals)
    (d0 : decode cc pc = .ok (.new ik, 3)) (d3 : decode cc (pc + 3) = .ok (.dup, 1)) (d4 : decode cc (pc + 4) = .ok (.invokespecial ic, 3)) (d7 : decode cc (pc + 7) = .ok (.athrow, 1))
    (hout : ∀ x ∈ c.exceptionTable.toList, covers x (pc + 7) = false)
    (hRframes : names.length + 3 < R.frames) (hRlocals : (rest.map fun v => v.category).sum + (13 * (names.length + 1) + 42) ≤ R.locals) (hRcells : cells + 1 ≤ R.cells) (hRslots : slots + 6 ≤ R.slots) (hlocks : meth.locks = false)
    (hx : ∀ t : State, s.vm.Alike t.vm → H.size ≤ t.heap.size → (∀ q : Nat, q < H.size → t.heap[q]? = H[q]?) → XC cls s t)
    (hf : ∀ z ∈ locs, free z.base) (hc : cells + 1 ≤ mc) (hs : slots + 6 ≤ ms) :
    W p l e R s m args below meth c H locs cells slots (vx_MQ below Qc XC args s mc ms free) (F0 m pc ls rest) := by
  intro T hT X
  have htr : e.platform.stackTraces = false := (show e.platform.stackTraces = l.stackTraces by rw [X.admits.platform]).trans hl
  have Y := vx_rebase X (R' := { frames := R.frames, locals := R.locals, cells := 1, slots := 6 }) (Nat.le_refl _) (Nat.le_refl _) hRcells hRslots
  obtain ⟨s', hA⟩ : ∃ z, z = (T.setVm s.vm).setFrames (.invoking m args :: below) := ⟨_, rfl⟩
  rw [← hA] at Y
  have hvm : s'.vm = s.vm := by rw [hA]; rfl
  have hhp : s'.heap = H := by rw [hA]; exact hT
  have hW0 : s.WarmedH s'.vm := by rw [hvm]; exact State.WarmedH.refl s
  have hat' : ∀ w ∈ vx_at0 own ic cls names, w.before args s' = true := fun w hw => vx_ot_at hW0 hvm.symm (hgood w (List.mem_cons_of_mem _ (List.mem_cons_of_mem _ hw))) (hat w hw)
  have hk' : (Cond.classLink own ik cls).before args s' = true := vx_ot_at hW0 hvm.symm (hgood _ List.mem_cons_self) hk
  have hini' : (Cond.initialized cls).before args s' = true := vx_ot_at hW0 hvm.symm (hgood _ (List.mem_cons_of_mem _ List.mem_cons_self)) hini
  have hU' : vx_Zq Bundle.tN "UNASSIGNED_STACK" Bundle.steD A s' s'.heap := by rw [hhp]; exact vx_Zq.moved hW0.alike (hU.kept hS.2.1)
  have hN' : vx_Zq Bundle.tN "SUPPRESSED_SENTINEL" Bundle.listD A s' s'.heap := by rw [hhp]; exact vx_Zq.moved hW0.alike (hN.kept hS.2.1)
  have h : ∀ w ∈ Bundle.ownAtoms0 own ic cls names, w.before args s' = true := vx_own hat' (vx_isRefq hU'.1) (vx_isRefq hN'.1) hU'.2.word hN'.2.word
  have hown' : s'.vm.findClass own = some m.cls := by rw [hvm]; exact hown
  have hins : (Cond.instantiable cls 6).before args s' = true := h _ (by simp [Bundle.ownAtoms0])
  obtain ⟨vm₁, cX, kX, hfX, hkX, -, -, X₁, st1⟩ := Y.newCold hexec (own := own) (C := cls) (index := ik) (n := 6) hown' hk' hins hini'
    (g := F0 m pc ls rest) rfl (by rw [hb]; exact d0) (Nat.le_refl _) (Nat.le_refl _)
  generalize hT1 : (T.setVm vm₁).pushCell { cls := cX, slots := kX.instanceTypes.map defaultValue, vm := .none } = T1 at X₁ st1
  have hcat : (Value.ref T.heap.size).category = 1 := rfl
  have hcellA : T1.heap[T.heap.size]? = some (freshCell cX kX) := by rw [← hT1]; exact State.heap_pushCell_size _ _
  have d3' : decode c.code (pc + 3) = .ok (.dup, 1) := by rw [hb]; exact d3
  obtain ⟨U, hsteps, hrun, hend, hW, hsame, ce, hce, hO⟩ := X₁.ctorThrow0 hexec htr (own := own) (cls := cls) (names := names) (ic := ic) hown' hcls hnames h (fun x hx => nomatch hx) hfX hkX hcellA (by rw [hhp, hT]; exact Nat.le_refl _)
    (g := { method := m, pc := pc + 4, locals := ls, stack := .ref T.heap.size :: .ref T.heap.size :: rest, locked := none }) rfl hsize rfl rfl (rest := rest) rfl
    (by rw [hb]; exact d4) (by rw [hb]; exact d7) hout hRframes (by simp only [List.map_cons, List.sum_cons, hcat]; omega) hlocks
  obtain ⟨f1, f2⟩ := vx_frame hsame
  rw [hhp] at f1 f2
  have hWs : s.WarmedH U.vm := State.WarmedH.trans hW0 hW
  have hcl : s.vm.findClass cls = some ce.cls := by
    have h9 := hO.cls
    rw [hvm] at h9
    exact h9
  have hall : s.sameButNew ({ U with vm := s.vm } : State) locs mc ms := by
    subst hA
    obtain ⟨e1, e2⟩ := hsame
    rw [State.setFrames_setFrames] at e1
    have h2 : (T.setVm s.vm).sameButNew ({ U with vm := s.vm } : State) [] (0 + 1) (0 + 6) := ⟨e1, e2⟩
    have h3 := X.same.trans h2
    rw [List.append_nil] at h3
    exact h3.mono hc hs
  refine ⟨U, ?_, .threw T.heap.size, hrun, hend, Or.inr ⟨T.heap.size, rfl, cls, ce, locs, hx U hWs.alike f1 (fun q hq => f2 q hq (fun z hz => nomatch hz)), hce, hO.vm, hcl, hWs, hall, hf⟩⟩
  refine st1 _ ?_
  show Steps p.tables e below (T1.setTop { method := m, pc := pc + 3, locals := ls, stack := .ref T.heap.size :: rest, locked := none }) _
  jvm_step X₁.here [X₁.here.top, hexec, d3', Value.category]
  exact hsteps
/-- 'throw new E("text")': new; dup; ldc; invokespecial; athrow -/
theorem vx_throwS {cc : ByteArray} {pc : Nat} (hexec : p.tables.exec = Jvm.exec) (hb : c.code = cc) (hl : l.stackTraces = false) {own cls text : String} {names : List String} {ik is ic mc ms sa : Nat} {A : Nat → Prop}
    (hown : s.vm.findClass own = some m.cls) (hcls : Bundle.fit cls = true) (hnames : ∀ n ∈ names, Bundle.fit n = true)
    (hk : (Cond.classLink own ik cls).before args s = true) (hini : (Cond.initialized cls).before args s = true) (hstr : vk_R own is text sa s) (hat : ∀ w ∈ vx_atS own ic cls names, w.before args s = true)
    (hgood : ∀ w ∈ Cond.classLink own ik cls :: Cond.initialized cls :: vx_atS own ic cls names, vx_ot w = true)
    (hU : vx_Zq Bundle.tN "UNASSIGNED_STACK" Bundle.steD A s s.heap) (hN : vx_Zq Bundle.tN "SUPPRESSED_SENTINEL" Bundle.listD A s s.heap) (hS : va_S A s.heap H locs) (hsize : ls.size = c.maxLocals)
    (d0 : decode cc pc = .ok (.new ik, 3)) (d3 : decode cc (pc + 3) = .ok (.dup, 1)) (d4 : decode cc (pc + 4) = .ok (.ldc is, 2)) (d6 : decode cc (pc + 6) = .ok (.invokespecial ic, 3)) (d9 : decode cc (pc + 9) = .ok (.athrow, 1))
    (hout : ∀ x ∈ c.exceptionTable.toList, covers x (pc + 9) = false)
    (hRframes : names.length + 3 < R.frames) (hRlocals : (rest.map fun v => v.category).sum + (13 * (names.length + 1) + 43) ≤ R.locals) (hRcells : cells + 1 ≤ R.cells) (hRslots : slots + 6 ≤ R.slots) (hlocks : meth.locks = false)
    (hx : ∀ t : State, s.vm.Alike t.vm → H.size ≤ t.heap.size → (∀ q : Nat, q < H.size → t.heap[q]? = H[q]?) → XC cls s t)
    (hf : ∀ z ∈ locs, free z.base) (hc : cells + 1 ≤ mc) (hs : slots + 6 ≤ ms) :
    W p l e R s m args below meth c H locs cells slots (vx_MQ below Qc XC args s mc ms free) (F0 m pc ls rest) := by
  intro T hT X
  have htr : e.platform.stackTraces = false := (show e.platform.stackTraces = l.stackTraces by rw [X.admits.platform]).trans hl
  have Y := vx_rebase X (R' := { frames := R.frames, locals := R.locals, cells := 1, slots := 6 }) (Nat.le_refl _) (Nat.le_refl _) hRcells hRslots
  obtain ⟨s', hA⟩ : ∃ z, z = (T.setVm s.vm).setFrames (.invoking m args :: below) := ⟨_, rfl⟩
  rw [← hA] at Y
  have hvm : s'.vm = s.vm := by rw [hA]; rfl
  have hhp : s'.heap = H := by rw [hA]; exact hT
  have hW0 : s.WarmedH s'.vm := by rw [hvm]; exact State.WarmedH.refl s
  have hat' : ∀ w ∈ vx_atS own ic cls names, w.before args s' = true := fun w hw => vx_ot_at hW0 hvm.symm (hgood w (List.mem_cons_of_mem _ (List.mem_cons_of_mem _ hw))) (hat w hw)
  have hk' : (Cond.classLink own ik cls).before args s' = true := vx_ot_at hW0 hvm.symm (hgood _ List.mem_cons_self) hk
  have hini' : (Cond.initialized cls).before args s' = true := vx_ot_at hW0 hvm.symm (hgood _ (List.mem_cons_of_mem _ List.mem_cons_self)) hini
  have hU' : vx_Zq Bundle.tN "UNASSIGNED_STACK" Bundle.steD A s' s'.heap := by rw [hhp]; exact vx_Zq.moved hW0.alike (hU.kept hS.2.1)
  have hN' : vx_Zq Bundle.tN "SUPPRESSED_SENTINEL" Bundle.listD A s' s'.heap := by rw [hhp]; exact vx_Zq.moved hW0.alike (hN.kept hS.2.1)
  have h : ∀ w ∈ Bundle.ownAtoms own ic cls names, w.before args s' = true := vx_own hat' (vx_isRefq hU'.1) (vx_isRefq hN'.1) hU'.2.word hN'.2.word
  have hown' : s'.vm.findClass own = some m.cls := by rw [hvm]; exact hown
  have hins : (Cond.instantiable cls 6).before args s' = true := h _ (by simp [Bundle.ownAtoms])
  obtain ⟨vm₁, cX, kX, hfX, hkX, -, -, X₁, st1⟩ := Y.newCold hexec (own := own) (C := cls) (index := ik) (n := 6) hown' hk' hins hini'
    (g := F0 m pc ls rest) rfl (by rw [hb]; exact d0) (Nat.le_refl _) (Nat.le_refl _)
  generalize hT1 : (T.setVm vm₁).pushCell { cls := cX, slots := kX.instanceTypes.map defaultValue, vm := .none } = T1 at X₁ st1
  have hcat : (Value.ref T.heap.size).category = 1 := rfl
  have hcellA : T1.heap[T.heap.size]? = some (freshCell cX kX) := by rw [← hT1]; exact State.heap_pushCell_size _ _
  have d3' : decode c.code (pc + 3) = .ok (.dup, 1) := by rw [hb]; exact d3
  have d4' : decode c.code (pc + 4) = .ok (.ldc is, 2) := by rw [hb]; exact d4
  have hstr' : vk_R own is text sa s' := vk_R.warm hW0 hstr
  obtain ⟨U, hsteps, hrun, hend, hW, hsame, ce, hce, hO⟩ := X₁.ctorThrowS hexec htr (own := own) (cls := cls) (names := names) (ic := ic) hown' hcls hnames h (fun x hx => nomatch hx) hfX hkX hcellA (by rw [hhp, hT]; exact Nat.le_refl _) (msg := .ref sa) rfl
    (g := { method := m, pc := pc + 6, locals := ls, stack := .ref sa :: .ref T.heap.size :: .ref T.heap.size :: rest, locked := none }) rfl hsize rfl rfl (rest := rest) rfl
    (by rw [hb]; exact d6) (by rw [hb]; exact d9) hout hRframes (by simp only [List.map_cons, List.sum_cons, hcat]; omega) hlocks
  obtain ⟨f1, f2⟩ := vx_frame hsame
  rw [hhp] at f1 f2
  have hWs : s.WarmedH U.vm := State.WarmedH.trans hW0 hW
  have hcl : s.vm.findClass cls = some ce.cls := by
    have h9 := hO.cls
    rw [hvm] at h9
    exact h9
  have hall : s.sameButNew ({ U with vm := s.vm } : State) locs mc ms := by
    subst hA
    obtain ⟨e1, e2⟩ := hsame
    rw [State.setFrames_setFrames] at e1
    have h2 : (T.setVm s.vm).sameButNew ({ U with vm := s.vm } : State) [] (0 + 1) (0 + 6) := ⟨e1, e2⟩
    have h3 := X.same.trans h2
    rw [List.append_nil] at h3
    exact h3.mono hc hs
  refine ⟨U, ?_, .threw T.heap.size, hrun, hend, Or.inr ⟨T.heap.size, rfl, cls, ce, locs, hx U hWs.alike f1 (fun q hq => f2 q hq (fun z hz => nomatch hz)), hce, hO.vm, hcl, hWs, hall, hf⟩⟩
  refine st1 _ ?_
  show Steps p.tables e below (T1.setTop { method := m, pc := pc + 3, locals := ls, stack := .ref T.heap.size :: rest, locked := none }) _
  jvm_step X₁.here [X₁.here.top, hexec, d3', Value.category]
  exact X₁.ldcString hexec (own := own) (text := text) (index := is) (a := sa) hown' hstr'.1 hstr'.2
    (g := { method := m, pc := pc + 4, locals := ls, stack := .ref T.heap.size :: .ref T.heap.size :: rest, locked := none }) rfl d4' _ hsteps
/-- 'throw new E("text")', the text by a wide index -/
theorem vx_throwSW {cc : ByteArray} {pc : Nat} (hexec : p.tables.exec = Jvm.exec) (hb : c.code = cc) (hl : l.stackTraces = false) {own cls text : String} {names : List String} {ik is ic mc ms sa : Nat} {A : Nat → Prop}
    (hown : s.vm.findClass own = some m.cls) (hcls : Bundle.fit cls = true) (hnames : ∀ n ∈ names, Bundle.fit n = true)
    (hk : (Cond.classLink own ik cls).before args s = true) (hini : (Cond.initialized cls).before args s = true) (hstr : vk_R own is text sa s) (hat : ∀ w ∈ vx_atS own ic cls names, w.before args s = true)
    (hgood : ∀ w ∈ Cond.classLink own ik cls :: Cond.initialized cls :: vx_atS own ic cls names, vx_ot w = true)
    (hU : vx_Zq Bundle.tN "UNASSIGNED_STACK" Bundle.steD A s s.heap) (hN : vx_Zq Bundle.tN "SUPPRESSED_SENTINEL" Bundle.listD A s s.heap) (hS : va_S A s.heap H locs) (hsize : ls.size = c.maxLocals)
    (d0 : decode cc pc = .ok (.new ik, 3)) (d3 : decode cc (pc + 3) = .ok (.dup, 1)) (d4 : decode cc (pc + 4) = .ok (.ldc_w is, 3)) (d7 : decode cc (pc + 7) = .ok (.invokespecial ic, 3)) (d10 : decode cc (pc + 10) = .ok (.athrow, 1))
    (hout : ∀ x ∈ c.exceptionTable.toList, covers x (pc + 10) = false)
    (hRframes : names.length + 3 < R.frames) (hRlocals : (rest.map fun v => v.category).sum + (13 * (names.length + 1) + 43) ≤ R.locals) (hRcells : cells + 1 ≤ R.cells) (hRslots : slots + 6 ≤ R.slots) (hlocks : meth.locks = false)
    (hx : ∀ t : State, s.vm.Alike t.vm → H.size ≤ t.heap.size → (∀ q : Nat, q < H.size → t.heap[q]? = H[q]?) → XC cls s t)
    (hf : ∀ z ∈ locs, free z.base) (hc : cells + 1 ≤ mc) (hs : slots + 6 ≤ ms) :
    W p l e R s m args below meth c H locs cells slots (vx_MQ below Qc XC args s mc ms free) (F0 m pc ls rest) := by
  intro T hT X
  have htr : e.platform.stackTraces = false := (show e.platform.stackTraces = l.stackTraces by rw [X.admits.platform]).trans hl
  have Y := vx_rebase X (R' := { frames := R.frames, locals := R.locals, cells := 1, slots := 6 }) (Nat.le_refl _) (Nat.le_refl _) hRcells hRslots
  obtain ⟨s', hA⟩ : ∃ z, z = (T.setVm s.vm).setFrames (.invoking m args :: below) := ⟨_, rfl⟩
  rw [← hA] at Y
  have hvm : s'.vm = s.vm := by rw [hA]; rfl
  have hhp : s'.heap = H := by rw [hA]; exact hT
  have hW0 : s.WarmedH s'.vm := by rw [hvm]; exact State.WarmedH.refl s
  have hat' : ∀ w ∈ vx_atS own ic cls names, w.before args s' = true := fun w hw => vx_ot_at hW0 hvm.symm (hgood w (List.mem_cons_of_mem _ (List.mem_cons_of_mem _ hw))) (hat w hw)
  have hk' : (Cond.classLink own ik cls).before args s' = true := vx_ot_at hW0 hvm.symm (hgood _ List.mem_cons_self) hk
  have hini' : (Cond.initialized cls).before args s' = true := vx_ot_at hW0 hvm.symm (hgood _ (List.mem_cons_of_mem _ List.mem_cons_self)) hini
  have hU' : vx_Zq Bundle.tN "UNASSIGNED_STACK" Bundle.steD A s' s'.heap := by rw [hhp]; exact vx_Zq.moved hW0.alike (hU.kept hS.2.1)
  have hN' : vx_Zq Bundle.tN "SUPPRESSED_SENTINEL" Bundle.listD A s' s'.heap := by rw [hhp]; exact vx_Zq.moved hW0.alike (hN.kept hS.2.1)
  have h : ∀ w ∈ Bundle.ownAtoms own ic cls names, w.before args s' = true := vx_own hat' (vx_isRefq hU'.1) (vx_isRefq hN'.1) hU'.2.word hN'.2.word
  have hown' : s'.vm.findClass own = some m.cls := by rw [hvm]; exact hown
  have hins : (Cond.instantiable cls 6).before args s' = true := h _ (by simp [Bundle.ownAtoms])
  obtain ⟨vm₁, cX, kX, hfX, hkX, -, -, X₁, st1⟩ := Y.newCold hexec (own := own) (C := cls) (index := ik) (n := 6) hown' hk' hins hini'
    (g := F0 m pc ls rest) rfl (by rw [hb]; exact d0) (Nat.le_refl _) (Nat.le_refl _)
  generalize hT1 : (T.setVm vm₁).pushCell { cls := cX, slots := kX.instanceTypes.map defaultValue, vm := .none } = T1 at X₁ st1
  have hcat : (Value.ref T.heap.size).category = 1 := rfl
  have hcellA : T1.heap[T.heap.size]? = some (freshCell cX kX) := by rw [← hT1]; exact State.heap_pushCell_size _ _
  have d3' : decode c.code (pc + 3) = .ok (.dup, 1) := by rw [hb]; exact d3
  have d4' : decode c.code (pc + 4) = .ok (.ldc_w is, 3) := by rw [hb]; exact d4
  have hstr' : vk_R own is text sa s' := vk_R.warm hW0 hstr
  obtain ⟨U, hsteps, hrun, hend, hW, hsame, ce, hce, hO⟩ := X₁.ctorThrowS hexec htr (own := own) (cls := cls) (names := names) (ic := ic) hown' hcls hnames h (fun x hx => nomatch hx) hfX hkX hcellA (by rw [hhp, hT]; exact Nat.le_refl _) (msg := .ref sa) rfl
    (g := { method := m, pc := pc + 7, locals := ls, stack := .ref sa :: .ref T.heap.size :: .ref T.heap.size :: rest, locked := none }) rfl hsize rfl rfl (rest := rest) rfl
    (by rw [hb]; exact d7) (by rw [hb]; exact d10) hout hRframes (by simp only [List.map_cons, List.sum_cons, hcat]; omega) hlocks
  obtain ⟨f1, f2⟩ := vx_frame hsame
  rw [hhp] at f1 f2
  have hWs : s.WarmedH U.vm := State.WarmedH.trans hW0 hW
  have hcl : s.vm.findClass cls = some ce.cls := by
    have h9 := hO.cls
    rw [hvm] at h9
    exact h9
  have hall : s.sameButNew ({ U with vm := s.vm } : State) locs mc ms := by
    subst hA
    obtain ⟨e1, e2⟩ := hsame
    rw [State.setFrames_setFrames] at e1
    have h2 : (T.setVm s.vm).sameButNew ({ U with vm := s.vm } : State) [] (0 + 1) (0 + 6) := ⟨e1, e2⟩
    have h3 := X.same.trans h2
    rw [List.append_nil] at h3
    exact h3.mono hc hs
  refine ⟨U, ?_, .threw T.heap.size, hrun, hend, Or.inr ⟨T.heap.size, rfl, cls, ce, locs, hx U hWs.alike f1 (fun q hq => f2 q hq (fun z hz => nomatch hz)), hce, hO.vm, hcl, hWs, hall, hf⟩⟩
  refine st1 _ ?_
  show Steps p.tables e below (T1.setTop { method := m, pc := pc + 3, locals := ls, stack := .ref T.heap.size :: rest, locked := none }) _
  jvm_step X₁.here [X₁.here.top, hexec, d3', Value.category]
  exact X₁.ldcStringW hexec (own := own) (text := text) (index := is) (a := sa) hown' hstr'.1 hstr'.2
    (g := { method := m, pc := pc + 4, locals := ls, stack := .ref T.heap.size :: .ref T.heap.size :: rest, locked := none }) rfl d4' _ hsteps
end Ends
section Bodies
variable {l : Launch}
theorem vx_ofW {y : MethodName} {ws ws' : List Cond} {rm : Room} {Pc : Array Value → State → Prop} {Qc : Array Value → State → Outcome → State → Prop} {XC : String → State → State → Prop} {mc ms : Nat} {free : Addr → Prop} {cc : ByteArray} {maxL : Nat} {ret : Option FieldType}
    (hy : plainName y.cls = true) (hw : ws = Cond.code y cc maxL ret :: ws')
    (body : ∀ p e s m args below meth c s₁, BodyLoose p l y (headSpec ws rm) cc maxL ret e s m args below meth c s₁ → c.maxLocals = maxL → (∀ x ∈ c.exceptionTable.toList, False) → Pc args s →
      W p l e (headSpec ws rm).room s m args below meth c s.heap [] 0 0 (vx_MQ below Qc XC args s mc ms free) (entryFrame m args maxL)) : vx_Met l y ws rm Pc Qc XC mc ms free := by
  refine MetFree.of_bodyS (code := cc) (maxLocals := maxL) (ret := ret) hy ?_ ?_
  · intro args s m h hn
    obtain ⟨meth, c, h1, h2, h3, h4, h5, h6, -, -⟩ := Cond.code_spec hn (atoms_spec (ws := ws) h _ (by rw [hw]; exact List.mem_cons_self))
    exact ⟨meth, c, h1, h2, h3, h4, h5, h6⟩
  · intro p e s m args below meth c s₁ B hml hP _
    have hh0 : s₁.heap = s.heap := by rw [B.state]; rfl
    have ht : ∀ x ∈ c.exceptionTable.toList, False := by
      obtain ⟨meth9, c9, h1, h2, -, -, -, -, h7, -⟩ := Cond.code_spec B.named (atoms_spec (ws := ws) B.pre _ (by rw [hw]; exact List.mem_cons_self))
      cases Option.some.inj (h1.symm.trans B.method)
      cases Option.some.inj (h2.symm.trans (Stand.of_body B).code)
      intro x hx
      rw [Array.isEmpty_iff.mp h7] at hx
      cases hx
    obtain ⟨t, a1, o, b1, b2, b3⟩ := body p e s m args below meth c s₁ B hml ht hP s₁ hh0 (Stand.of_body B)
    exact ⟨t, o, a1, b1, b2, b3⟩
/-- the table of a body with handlers -/
theorem vx_table {p : Program} {x y : MethodName} {S : Spec} {cc bytes : ByteArray} {maxL maxL' : Nat} {ret ret' : Option FieldType} {e : Env} {s s₁ : State} {m : MethodId} {args : Array Value} {below : List Frame} {meth : Method} {c : Code} {hh : List (Nat × Nat × Nat × Nat)}
    (B : BodyLoose p l y S cc maxL ret e s m args below meth c s₁) (h : (Cond.codeWith y bytes maxL' ret' hh).before args s = true) : c.exceptionTable.toList = tableOf hh := by
  obtain ⟨m9, meth9, c9, hn9, h1, h2, -, -, h6, -⟩ := Cond.codeWith_spec h
  cases Option.some.inj (hn9.symm.trans B.named)
  cases Option.some.inj (h1.symm.trans B.method)
  cases Option.some.inj (h2.symm.trans (Stand.of_body B).code)
  rw [← h6, table_eq]
end Bodies
end VXA
/-! ===== END ===== -/
/-! ===== BEGIN a static call of a method with an exception table ===== -/
section VXS
variable {p : Program} {l : Launch} {e : Env} {R : Room} {s : State} {m : MethodId} {args : Array Value} {below : List Frame} {meth : Method} {c : Code} {T : State} {H : Heap} {locs : List Loc} {cells slots : Nat}
abbrev vx_CSW (R : Room) (s : State) (args : Array Value) (own : String) (index : Nat) (y : MethodName) (bytes : ByteArray) (maxL : Nat) (ret : Option FieldType) (hh : List (Nat × Nat × Nat × Nat)) (ws : List Cond) (rm : Room) (mc ms n : Nat) : Prop :=
  (rm.cells = mc ∧ rm.slots = ms ∧ rm.frames + 1 ≤ R.frames ∧ 8 + (maxL + 11) + rm.locals ≤ R.locals ∧ (∀ w ∈ ws, ∀ (a' : Array Value) (U : State), s.WarmedH U.vm → w.before a' U = true) ∧ Cond.codeWith y bytes maxL ret hh ∈ ws) ∧
  (Cond.codeWith y bytes maxL ret hh).before args s = true ∧ (Cond.initialized y.cls).before args s = true ∧ (y.cls ≠ "java/lang/invoke/MethodHandle" ∧ y.cls ≠ "java/lang/invoke/VarHandle") ∧
  (∀ sig, parseMethodDescriptor y.desc = some sig → n = sig.parameters.length) ∧ (Cond.methodLink own index y).before args s = true ∧ (Cond.static y).before args s = true
theorem vx_cwSW {own : String} {index maxL mc ms : Nat} {y : MethodName} {bytes : ByteArray} {ret : Option FieldType} {hh : List (Nat × Nat × Nat × Nat)} {Ts ws ws' : List Cond} {rm : Room} (n : Nat) (ht : ∀ w ∈ Ts, w.before args s = true) (hT : GoodIn Ts (va_wsS own index y ws)) (hw : ws = Cond.codeWith y bytes maxL ret hh :: ws') (hrc : rm.cells = mc) (hrs : rm.slots = ms)
    (hd : y.cls ≠ "java/lang/invoke/MethodHandle" ∧ y.cls ≠ "java/lang/invoke/VarHandle" ∧ (parseMethodDescriptor y.desc).map (fun d => d.parameters.length) = some n) (hR : rm.frames + 1 ≤ R.frames ∧ 8 + (maxL + 11) + rm.locals ≤ R.locals) :
    vx_CSW R s args own index y bytes maxL ret hh ws rm mc ms n := by
  have ok : ∀ w ∈ va_wsS own index y ws, w.before args s = true := fun w h => ht w (hT w h).1
  have hG : GoodIn Ts ws := fun w h => hT w (by unfold va_wsS; exact List.mem_append_right _ h)
  have hc : Cond.codeWith y bytes maxL ret hh ∈ ws := by rw [hw]; exact List.mem_cons_self
  refine ⟨⟨hrc, hrs, hR.1, hR.2, pay_in ht hG, hc⟩, ht _ (hG _ hc).1, ok _ (by simp [va_wsS]), ⟨hd.1, hd.2.1⟩, fun sig h => ?_, ok _ (by simp [va_wsS]), ok _ (by simp [va_wsS])⟩
  have h2 := hd.2.2
  rw [h] at h2
  exact (Option.some.inj h2).symm
theorem vx_callSW (X : Stand p l e R s m args below meth c T locs cells slots) (hexec : p.tables.exec = Jvm.exec) {own : String} {index : Nat} {y : MethodName} {bytes : ByteArray} {maxL : Nat} {ret : Option FieldType} {hh : List (Nat × Nat × Nat × Nat)}
    (hown : s.vm.findClass own = some m.cls) (hlink : (Cond.methodLink own index y).before args s = true) (hstat : (Cond.static y).before args s = true) (hinit : (Cond.initialized y.cls).before args s = true)
    (hcode : (Cond.codeWith y bytes maxL ret hh).before args s = true) (hy : y.cls ≠ "java/lang/invoke/MethodHandle" ∧ y.cls ≠ "java/lang/invoke/VarHandle")
    {W9 : Nat} {Pre : Pt → Array Value → Prop} {Post : Pt → Array Value → Option Value → Pt → Prop} (hK : Back l R p e below s args y 3 W9 Pre Post)
    {g : JFrame} (hg : g.method = m) (hsize : g.locals.size = c.maxLocals) {argsL rest : List Value} (hlen : ∀ sig, parseMethodDescriptor y.desc = some sig → argsL.length = sig.parameters.length)
    (hstack : g.stack = argsL.reverse ++ rest) (hW : 2 * g.monitorRoom + (rest.map fun v => v.category).sum ≤ W9) (hdg : decode c.code g.pc = .ok (.invokestatic index, 3))
    (hpre : ∀ vm₁, s.WarmedH vm₁ → Pre ⟨T.setVm vm₁, locs, cells, slots⟩ argsL.toArray) :
    ∃ (v : Option Value) (vm₁ : Vm) (B : Pt), s.WarmedH vm₁ ∧ Stand p l e R s m args below meth c B.U B.locs B.cells B.slots ∧ Post ⟨T.setVm vm₁, locs, cells, slots⟩ argsL.toArray v B ∧
      ∀ target, Steps p.tables e below (B.U.setTop { g with pc := g.pc + 3, stack := v.toList ++ rest }) target → Steps p.tables e below (T.setTop g) target := by
  obtain ⟨mk, methM, cM, hnamed, hmethM, -, -, -, -, -, -, hsigM⟩ := Cond.codeWith_spec hcode
  have hstatic : methM.isStatic = true := Cond.static_spec hnamed hmethM hstat
  obtain ⟨kP, hkP, -⟩ := className_of_methodNamed hnamed
  have hinitP : kP.init = .initialized := Cond.initialized_spec (findClass_of_methodNamed hnamed) hkP hinit
  obtain ⟨vm₁, X₁, hstep₁⟩ := X.invokestatic hexec hown hlink hnamed hmethM hstatic hkP hinitP hy (g := g) hg (argsL := argsL) (rest := rest) (hlen _ hsigM) hstack hdg
  obtain ⟨v, B, X', hpost, hsteps⟩ := hK m meth c ⟨T.setVm vm₁, locs, cells, slots⟩ { g with stack := rest } (.invokestatic index) mk argsL.toArray X₁ hg hsize hdg hW (X₁.named hnamed) (hpre vm₁ X₁.warmed)
  exact ⟨v, vm₁, B, X₁.warmed, X', hpost, fun target h => hstep₁ _ fun acts => by rw [doInvoke_state]; exact hsteps.trans h⟩
theorem vx_runSW {y : MethodName} {bytes cc : ByteArray} {maxL nL mc ms n index : Nat} {ret : Option FieldType} {hh : List (Nat × Nat × Nat × Nat)} {ws : List Cond} {rm : Room} {Pc : Array Value → State → Prop} {Qc : Array Value → State → Outcome → State → Prop} {free : Addr → Prop} {Ts : List Cond} {own : String} {As rest : List Value} {g : JFrame}
    (S : CallFix p m c cc nL s args Ts own) (hM : Met l y ws rm Pc Qc mc ms free) (cw : vx_CSW R s args own index y bytes maxL ret hh ws rm mc ms n) (hp : PreS s H Pc As)
    (hg : g.method = m) (hn : As.length = n) (hsize : g.locals.size = nL) (hstack : g.stack = As.reverse ++ rest) (hW : 2 * g.monitorRoom + (rest.map fun v => v.category).sum ≤ 8) (hdg : decode cc g.pc = .ok (.invokestatic index, 3)) (hf : cells + mc ≤ R.cells ∧ slots + ms ≤ R.slots) :
    va_Run p l e R s m args below meth c H locs cells slots mc ms g rest (Qc As.toArray) (free) := by
  obtain ⟨⟨hrc, hrs, hfr, hlo, hws, hcw⟩, hcode, hini, hy, hlen, hl, hstt⟩ := cw
  have hK : Back l R p e below s args y 3 8 (PreOf R mc ms Pc) (PostOf Qc mc ms free) := va_backW (hh := hh) (bytes := bytes) (maxL := maxL) (ret := ret) hM hp.1 hrc hrs hfr hlo hws hcw (fun a' U hW => word_at hW (Or.inl (by first | rfl | simp [Cond.onTables, Cond.keeps, Cond.steady])) hini)
  obtain ⟨hx, hb, hml, ho, -⟩ := S
  intro T hT X
  obtain ⟨v, vm₁, ⟨U', l2, c2, s2⟩, hW₁, X', ⟨g', mk, t, L, e1, e2, hq, h1, hL, h2, h3⟩, st⟩ := vx_callSW X hx (hh := hh) (bytes := bytes) (maxL := maxL) (ret := ret) ho hl hstt hini hcode hy hK hg (hsize.trans hml.symm) (argsL := As) (rest := rest) (fun sig h => hn.trans (hlen sig h)) hstack hW (by rw [hb]; exact hdg)
    (fun vm₁ hW₁ => ⟨hf.1, hf.2, hp.2 (T.setVm vm₁) hT hW₁⟩)
  dsimp only [Pt.U, Pt.locs, Pt.cells, Pt.slots] at X' e1 e2 h1 h2 h3 st
  subst h1; subst h2; subst h3
  exact ⟨v, (T.setVm vm₁).calling g' mk As.toArray, t, U', L, hT, X', hL, e1, e2, hq, st⟩
/-- not caught here, past rows that name other classes: it goes on to the caller -/
theorem vx_outP {p : Program} {l : Launch} {e : Env} {R : Room} {s : State} {m : MethodId} {args : Array Value} {below : List Frame} {meth : Method} {c : Code} {H : Heap} {locs : List Loc} {cells slots : Nat} {free : Addr → Prop} {ls : Array Slot} {rest : List Value} {Qc : Array Value → State → Outcome → State → Prop} {XC : String → State → State → Prop}
    {pc : Nat} {own E : String} {ce : Cell} {q : Addr} {mc ms : Nat} (hown : s.vm.findClass own = some m.cls) (hlocks : meth.locks = false)
    (hpass : ∀ z ∈ c.exceptionTable.toList, covers z pc = false ∨ (z.catchType ≠ 0 ∧ ∃ nm : String, (Cond.classLink own z.catchType nm).before args s = true ∧ va_Nc E nm s)) (hcell : H[q]? = some ce) (hv : ce.vm = .none) (hcl : s.vm.findClass E = some ce.cls)
    (hx : ∀ t : State, t.heap = H → s.vm.Alike t.vm → XC E s t) (hf : ∀ z ∈ locs, free z.base) (hc : cells ≤ mc) (hs : slots ≤ ms) :
    vx_W p l e R s m args below meth c H locs cells slots (vx_MQ below Qc XC args s mc ms free) (F0 m pc ls rest) q := by
  intro T hT X
  have hpl : e.platform.magicAccessors = ({} : Platform).magicAccessors := by rw [X.admits.platform]
  obtain ⟨vm', hW', X', st⟩ := X.outThrough hlocks q (g := F0 m pc ls rest) rfl rfl rfl (cell := ce) (by rw [hT]; exact hcell) (by rw [hv]; rfl)
    (by obtain ⟨k9, h9, -⟩ := Vm.findClass_spec hcl; exact ⟨k9, h9⟩) (fun z hz => by
      rcases hpass z hz with h | ⟨hz0, nm, hl1, hn1⟩
      · exact Or.inl h
      · obtain ⟨c6, hc6, hcl6⟩ := Cond.classLink_spec hown hl1 e.platform hpl
        obtain ⟨a8, b8, h1, h2, h3⟩ := hn1
        cases Option.some.inj (h1.symm.trans hcl)
        cases Option.some.inj (h2.symm.trans hc6)
        exact Or.inr ⟨hz0, _, hcl6, h3⟩)
  obtain ⟨g₀, hfr⟩ := X'.frames_eq
  have hcell9 : ((T.setVm vm').setFrames (.throwing q :: below)).heap[q]? = some ce := by
    show T.heap[q]? = some ce
    rw [hT]; exact hcell
  have hend : Ended ((T.setVm vm').setFrames (.throwing q :: below)) below (.threw q) := State.frames_setFrames _ (State.cur_lt_of_frames hfr)
  refine ⟨(T.setVm vm').setFrames (.throwing q :: below), ?_, .threw q, X'.here.running, hend, Or.inr ⟨q, rfl, E, ce, locs, hx _ hT (X'.ends _).1.alike, hcell9, hv, hcl, (X'.ends _).1, (X'.ends _).2.mono hc hs, hf⟩⟩
  rw [X.pushThrowing_eq]
  exact st
/-- a thing of a world lies in the heap -/
theorem vx_lt {D : va_G} {cl : List vw_C} {ws : va_W} {H1 : Heap} (h : va_P D cl ws H1) {k : Nat} {q : Nat × va_E} (hk : ws[k]? = some q) : q.1 < H1.size := (h k q hk).lt
end VXS
/-! ===== END ===== -/
/-! ===== BEGIN methods with a table of their own: called by a name, returning or throwing ===== -/
section VXH
/-! vx_backW, vx_callVX, vx_callSX, vx_callVW, vx_runVW, vx_runVX, vx_runSX, vx_ofWH follow the same proofs as their sisters above (Free/Laws.lean, Shelf42/LK1.lean); vx_outP calls Shelf42/NT130.lean (outThrough). -/
section
variable {l : Launch} {R : Room} {p : Program} {e : Env} {below : List Frame} {s : State} {sargs : Array Value} {y : MethodName} {len W9 : Nat}
theorem vx_backW {ws : List Cond} {rm : Room} {Pc : Array Value → State → Prop} {Qc : Array Value → State → Outcome → State → Prop} {XC : String → State → State → Prop} {mc ms : Nat} {free : Addr → Prop} {bytes : ByteArray} {maxL : Nat} {ret : Option FieldType} {hh : List (Nat × Nat × Nat × Nat)}
    (hM : vx_Met l y ws rm Pc Qc XC mc ms free) (hblind : FrameBlind Pc) (hrc : rm.cells = mc) (hrs : rm.slots = ms)
    (hframes : rm.frames + 1 ≤ R.frames) (hlocals : W9 + (maxL + 11) + rm.locals ≤ R.locals)
    (hws : ∀ w ∈ ws, ∀ a' U, s.WarmedH U.vm → w.before a' U = true) (hcode : Cond.codeWith y bytes maxL ret hh ∈ ws) (hinit : ∀ a' U, s.WarmedH U.vm → (Cond.initialized y.cls).before a' U = true) :
    vx_Back l R p e below s sargs y len W9 (PreOf R mc ms Pc) (PostOf Qc mc ms free) (vx_Post XC mc ms free) := by
  intro m meth c A g ig mk a X hg hsize hdg hW hn hp
  have h1 : (headSpec ws rm).pre.before a A.U = true := atoms_intro fun w hw => hws w hw _ _ X.warmed
  have h2 : (Cond.codeWith y bytes maxL ret hh).before a A.U = true := hws _ hcode _ _ X.warmed
  have h3 : (Cond.initialized y.cls).before a A.U = true := hinit _ _ X.warmed
  have h4 : A.cells + (headSpec ws rm).room.cells ≤ R.cells := by rw [show (headSpec ws rm).room.cells = mc from hrc]; exact hp.1
  have h5 : A.slots + (headSpec ws rm).room.slots ≤ R.slots := by rw [show (headSpec ws rm).room.slots = ms from hrs]; exact hp.2.1
  have hPc : Pc a (A.U.calling g mk a) := hblind _ _ _ _ hp.2.2
  obtain ⟨U, Ls, c0, s0⟩ := A
  dsimp only [Pt.U, Pt.locs, Pt.cells, Pt.slots] at h1 h2 h3 h4 h5 X hn hPc ⊢
  obtain ⟨m9, methY, cY, hn9, hmY, hcY, -, hlY, -⟩ := Cond.codeWith_spec h2
  cases Option.some.inj (hn9.symm.trans hn)
  obtain ⟨kY, hkY, -⟩ := className_of_methodNamed hn
  have hinitY : kY.init = .initialized := Cond.initialized_spec (findClass_of_methodNamed hn) hkY h3
  have h : At U g.method c below := by rw [hg]; exact X.here
  have hlocals9 : W9 + (maxL + 11) + (headSpec ws rm).room.locals ≤ R.locals := hlocals
  have happ : (headSpec ws rm).appliesLoose y e.platform (U.calling g mk a) = true :=
    Spec.appliesLoose_calling (g := g) h hdg hn hkY hinitY
      (X.room_calling (g := g) (R' := (headSpec ws rm).room) hsize hmY hcY hframes (by rw [hlY]; omega) h4 h5) h1
  obtain ⟨mid, hmid⟩ := h.above
  have hfr : (U.setTop g).frames = (.java g :: mid) ++ below := by rw [State.frames_setTop' g h.top, hmid]; rfl
  obtain ⟨o, s₂, hsteps, -, hend, hq⟩ := Steps.callFree hM p X.admits X.cas X.clock (acts := []) hfr happ hPc trivial
  have hq' : vx_Q Qc XC mc ms free a (U.calling g mk a) o s₂ := hq
  rw [State.frames_setTop' g h.top] at hend
  obtain ⟨g₀, hg0⟩ := Option.isSome_iff_exists.mp h.top
  obtain ⟨r, hr⟩ := State.topJava?_eq_some.mp hg0
  have hr' : (({ U with heap := s₂.heap, slotsUsed := s₂.slotsUsed } : State).setVm s₂.vm).frames = .java g₀ :: r := hr
  rcases hq' with ⟨hqc, L, hfe, hL⟩ | ⟨q, rfl, E, ce, L, hx, hce, hcv, hcl, hW₂, hsm, hL⟩
  · obtain ⟨⟨v, rfl⟩, hW₂, e2, q2, q3, q4, q5, q6⟩ := id hfe
    have e3 : s₂ = ({ (U.calling g mk a).setFrames s₂.frames with heap := s₂.heap, slotsUsed := s₂.slotsUsed } : State).setVm s₂.vm := by
      have : s₂ = ({ s₂ with vm := (U.calling g mk a).vm } : State).setVm s₂.vm := rfl
      rw [e2] at this
      exact this
    obtain ⟨c₂, i₂, len₂, hc₂, hd₂, hf₂⟩ := hend
    have hW' : U.WarmedH s₂.vm := hW₂
    have hcc : c₂ = c := by
      have h1 : s₂.code? g.method = U.code? g.method := by
        rw [State.code?_eq, State.code?_eq, hW'.alike.method?]
      exact Option.some.inj (hc₂.symm.trans (h1.trans h.code))
    subst hcc
    have hlen : len₂ = len := by rw [hdg] at hd₂; cases hd₂; rfl
    subst hlen
    have hs₂ : s₂ = (({ U with heap := s₂.heap, slotsUsed := s₂.slotsUsed } : State).setVm s₂.vm).setTop { g with pc := g.pc + len₂, stack := v.toList ++ g.stack } := by
      refine e3.trans ?_
      rw [hf₂, State.calling_eq h.top, State.setFrames_setFrames, State.setTop_of_frames _ hr', hr]
      rfl
    have hsame : U.sameButNew ({ U with heap := s₂.heap, slotsUsed := s₂.slotsUsed } : State) L mc ms := by
      refine ⟨?_, q2, q3, q4, q5, q6⟩
      obtain ⟨t, ht, -⟩ := State.frames_cons hr
      show ({ U with heap := s₂.heap, slotsUsed := s₂.slotsUsed } : State) = { U.setFrames U.frames with heap := s₂.heap, slotsUsed := s₂.slotsUsed }
      rw [State.setFrames_self ht]
    subst hg
    refine Or.inl ⟨v, ⟨(({ U with heap := s₂.heap, slotsUsed := s₂.slotsUsed } : State).setVm s₂.vm), Ls ++ L, c0 + mc, s0 + ms⟩,
      ⟨X.admits, X.cas, X.clock, X.frames, X.room, X.hears, X.method, X.code, (X.here.setHeapUsed s₂.heap s₂.slotsUsed).setVm hW'.alike, X.tail, State.WarmedH.trans X.warmed hW', X.limits, X.bytes, X.same.trans (hsame.setVm s.vm)⟩,
      ⟨g, mk, s₂, L, rfl, rfl, hqc, rfl, hL, rfl, rfl⟩, ?_⟩
    show Steps p.tables e below _ ((({ U with heap := s₂.heap, slotsUsed := s₂.slotsUsed } : State).setVm s₂.vm).setTop { g with pc := g.pc + len₂, stack := v.toList ++ g.stack })
    rw [← hs₂]
    exact hsteps
  · obtain ⟨e2, q2, q3, q4, q5, q6⟩ := id hsm
    have e3 : s₂ = ({ (U.calling g mk a).setFrames s₂.frames with heap := s₂.heap, slotsUsed := s₂.slotsUsed } : State).setVm s₂.vm := by
      have : s₂ = ({ s₂ with vm := (U.calling g mk a).vm } : State).setVm s₂.vm := rfl
      rw [e2] at this
      exact this
    have hf₂ : s₂.frames = .throwing q :: .java g :: U.frames.tail := hend
    have hW' : U.WarmedH s₂.vm := hW₂
    have hs₂ : s₂ = ((({ U with heap := s₂.heap, slotsUsed := s₂.slotsUsed } : State).setVm s₂.vm).setTop g).pushFrame (.throwing q) := by
      refine e3.trans ?_
      rw [hf₂, State.calling_eq h.top, State.setFrames_setFrames, State.pushFrame, State.frames_setTop _ hr', State.setTop_of_frames _ hr', State.setFrames_setFrames, hr]
      rfl
    have hsame : U.sameButNew ({ U with heap := s₂.heap, slotsUsed := s₂.slotsUsed } : State) L mc ms := by
      refine ⟨?_, q2, q3, q4, q5, q6⟩
      obtain ⟨t, ht, -⟩ := State.frames_cons hr
      show ({ U with heap := s₂.heap, slotsUsed := s₂.slotsUsed } : State) = { U.setFrames U.frames with heap := s₂.heap, slotsUsed := s₂.slotsUsed }
      rw [State.setFrames_self ht]
    subst hg
    refine Or.inr ⟨q, ⟨(({ U with heap := s₂.heap, slotsUsed := s₂.slotsUsed } : State).setVm s₂.vm), Ls ++ L, c0 + mc, s0 + ms⟩,
      ⟨X.admits, X.cas, X.clock, X.frames, X.room, X.hears, X.method, X.code, (X.here.setHeapUsed s₂.heap s₂.slotsUsed).setVm hW'.alike, X.tail, State.WarmedH.trans X.warmed hW', X.limits, X.bytes, X.same.trans (hsame.setVm s.vm)⟩,
      ⟨g, mk, s₂, L, E, ce, rfl, rfl, hx, hce, hcv, hcl, rfl, hL, rfl, rfl⟩, ?_⟩
    show Steps p.tables e below _ (((({ U with heap := s₂.heap, slotsUsed := s₂.slotsUsed } : State).setVm s₂.vm).setTop g).pushFrame (.throwing q))
    rw [← hs₂]
    exact hsteps
end
variable {p : Program} {l : Launch} {e : Env} {R : Room} {s : State} {m : MethodId} {args : Array Value} {below : List Frame} {meth : Method} {c : Code} {T : State} {H : Heap} {locs : List Loc} {cells slots : Nat}
theorem vx_callVX (X : Stand p l e R s m args below meth c T locs cells slots) (hexec : p.tables.exec = Jvm.exec) {own C : String} {index : Nat} {y : MethodName} {bytes : ByteArray} {maxL : Nat} {ret : Option FieldType} {hh : List (Nat × Nat × Nat × Nat)}
    (hown : s.vm.findClass own = some m.cls) (hlink : (Cond.methodLink own index y).before args s = true) (hinst : (Cond.instanceMethod y).before args s = true) (hsel : (Cond.selects C y y).before args s = true)
    (hcode : (Cond.codeWith y bytes maxL ret hh).before args s = true) (hy : y.cls ≠ "java/lang/invoke/MethodHandle" ∧ y.cls ≠ "java/lang/invoke/VarHandle")
    {W9 : Nat} {Pre : Pt → Array Value → Prop} {Post : Pt → Array Value → Option Value → Pt → Prop} {PostX : Pt → Array Value → Addr → Pt → Prop} (hK : vx_Back l R p e below s args y 3 W9 Pre Post PostX)
    {b : Addr} {cellB : Cell} (hcell : T.heap[b]? = some cellB) (hobj : cellB.vm.isStatics = false) (hcls : s.vm.findClass C = some cellB.cls)
    {g : JFrame} (hg : g.method = m) (hsize : g.locals.size = c.maxLocals) {argsL rest : List Value} (hlen : ∀ sig, parseMethodDescriptor y.desc = some sig → argsL.length = sig.parameters.length)
    (hstack : g.stack = argsL.reverse ++ .ref b :: rest) (hW : 2 * g.monitorRoom + (rest.map fun v => v.category).sum ≤ W9) (hdg : decode c.code g.pc = .ok (.invokevirtual index, 3))
    (hpre : ∀ vm₁, s.WarmedH vm₁ → Pre ⟨T.setVm vm₁, locs, cells, slots⟩ (Value.ref b :: argsL).toArray) :
    (∃ (v : Option Value) (vm₁ : Vm) (B : Pt), s.WarmedH vm₁ ∧ Stand p l e R s m args below meth c B.U B.locs B.cells B.slots ∧ Post ⟨T.setVm vm₁, locs, cells, slots⟩ (Value.ref b :: argsL).toArray v B ∧
      ∀ target, Steps p.tables e below (B.U.setTop { g with pc := g.pc + 3, stack := v.toList ++ rest }) target → Steps p.tables e below (T.setTop g) target) ∨
    (∃ (q : Addr) (vm₁ : Vm) (B : Pt), s.WarmedH vm₁ ∧ Stand p l e R s m args below meth c B.U B.locs B.cells B.slots ∧ PostX ⟨T.setVm vm₁, locs, cells, slots⟩ (Value.ref b :: argsL).toArray q B ∧
      Steps p.tables e below (T.setTop g) ((B.U.setTop { g with stack := rest }).pushFrame (.throwing q))) := by
  obtain ⟨mk, methM, hnamed, hmethM, hstM, habM⟩ := Cond.instanceMethod_spec hinst
  obtain ⟨m8, methM', cM, hn8, hmethM', -, -, -, -, -, -, hsigM⟩ := Cond.codeWith_spec hcode
  cases Option.some.inj (hn8.symm.trans hnamed)
  cases hmethM.symm.trans hmethM'
  obtain ⟨c2, r2, m2, q1, q2, q3, q4, kP, hkP, hkPi⟩ := Cond.selects_spec hsel
  cases hcls.symm.trans q1
  cases (State.methodFound?_of_named hnamed hy).symm.trans q2
  cases hnamed.symm.trans q3
  have hselP : selectMethod e.platform s.vm cellB.cls mk = .method mk := by rw [Launch.admits_selectMethod X.admits]; exact q4
  obtain ⟨vm₁, X₁, hstep₁⟩ := X.invokevirtual hexec hown hlink hnamed hmethM hstM hkP hkPi hy (a := b) (cell := cellB) hcell
    (fun z h => by rw [h] at hobj; cases hobj) hselP hmethM habM hkP hkPi (g := g) hg (argsL := argsL) (rest := rest) (hlen _ hsigM) hstack hdg
  rcases hK m meth c ⟨T.setVm vm₁, locs, cells, slots⟩ { g with stack := rest } (.invokevirtual index) mk (Value.ref b :: argsL).toArray X₁ hg hsize hdg hW (X₁.named hnamed) (hpre vm₁ X₁.warmed) with ⟨v, B, X', hpost, hsteps⟩ | ⟨q, B, X', hpost, hsteps⟩
  · exact Or.inl ⟨v, vm₁, B, X₁.warmed, X', hpost, fun target h => hstep₁ _ fun acts => by rw [doInvoke_state]; exact hsteps.trans h⟩
  · exact Or.inr ⟨q, vm₁, B, X₁.warmed, X', hpost, hstep₁ _ fun acts => by rw [doInvoke_state]; exact hsteps⟩
theorem vx_callSX (X : Stand p l e R s m args below meth c T locs cells slots) (hexec : p.tables.exec = Jvm.exec) {own : String} {index : Nat} {y : MethodName} {bytes : ByteArray} {maxL : Nat} {ret : Option FieldType} {hh : List (Nat × Nat × Nat × Nat)}
    (hown : s.vm.findClass own = some m.cls) (hlink : (Cond.methodLink own index y).before args s = true) (hstat : (Cond.static y).before args s = true) (hinit : (Cond.initialized y.cls).before args s = true)
    (hcode : (Cond.codeWith y bytes maxL ret hh).before args s = true) (hy : y.cls ≠ "java/lang/invoke/MethodHandle" ∧ y.cls ≠ "java/lang/invoke/VarHandle")
    {W9 : Nat} {Pre : Pt → Array Value → Prop} {Post : Pt → Array Value → Option Value → Pt → Prop} {PostX : Pt → Array Value → Addr → Pt → Prop} (hK : vx_Back l R p e below s args y 3 W9 Pre Post PostX)
    {g : JFrame} (hg : g.method = m) (hsize : g.locals.size = c.maxLocals) {argsL rest : List Value} (hlen : ∀ sig, parseMethodDescriptor y.desc = some sig → argsL.length = sig.parameters.length)
    (hstack : g.stack = argsL.reverse ++ rest) (hW : 2 * g.monitorRoom + (rest.map fun v => v.category).sum ≤ W9) (hdg : decode c.code g.pc = .ok (.invokestatic index, 3))
    (hpre : ∀ vm₁, s.WarmedH vm₁ → Pre ⟨T.setVm vm₁, locs, cells, slots⟩ argsL.toArray) :
    (∃ (v : Option Value) (vm₁ : Vm) (B : Pt), s.WarmedH vm₁ ∧ Stand p l e R s m args below meth c B.U B.locs B.cells B.slots ∧ Post ⟨T.setVm vm₁, locs, cells, slots⟩ argsL.toArray v B ∧
      ∀ target, Steps p.tables e below (B.U.setTop { g with pc := g.pc + 3, stack := v.toList ++ rest }) target → Steps p.tables e below (T.setTop g) target) ∨
    (∃ (q : Addr) (vm₁ : Vm) (B : Pt), s.WarmedH vm₁ ∧ Stand p l e R s m args below meth c B.U B.locs B.cells B.slots ∧ PostX ⟨T.setVm vm₁, locs, cells, slots⟩ argsL.toArray q B ∧
      Steps p.tables e below (T.setTop g) ((B.U.setTop { g with stack := rest }).pushFrame (.throwing q))) := by
  obtain ⟨mk, methM, cM, hnamed, hmethM, -, -, -, -, -, -, hsigM⟩ := Cond.codeWith_spec hcode
  have hstatic : methM.isStatic = true := Cond.static_spec hnamed hmethM hstat
  obtain ⟨kP, hkP, -⟩ := className_of_methodNamed hnamed
  have hinitP : kP.init = .initialized := Cond.initialized_spec (findClass_of_methodNamed hnamed) hkP hinit
  obtain ⟨vm₁, X₁, hstep₁⟩ := X.invokestatic hexec hown hlink hnamed hmethM hstatic hkP hinitP hy (g := g) hg (argsL := argsL) (rest := rest) (hlen _ hsigM) hstack hdg
  rcases hK m meth c ⟨T.setVm vm₁, locs, cells, slots⟩ { g with stack := rest } (.invokestatic index) mk argsL.toArray X₁ hg hsize hdg hW (X₁.named hnamed) (hpre vm₁ X₁.warmed) with ⟨v, B, X', hpost, hsteps⟩ | ⟨q, B, X', hpost, hsteps⟩
  · exact Or.inl ⟨v, vm₁, B, X₁.warmed, X', hpost, fun target h => hstep₁ _ fun acts => by rw [doInvoke_state]; exact hsteps.trans h⟩
  · exact Or.inr ⟨q, vm₁, B, X₁.warmed, X', hpost, hstep₁ _ fun acts => by rw [doInvoke_state]; exact hsteps⟩
theorem vx_callVW (X : Stand p l e R s m args below meth c T locs cells slots) (hexec : p.tables.exec = Jvm.exec) {own C : String} {index : Nat} {y : MethodName} {bytes : ByteArray} {maxL : Nat} {ret : Option FieldType} {hh : List (Nat × Nat × Nat × Nat)}
    (hown : s.vm.findClass own = some m.cls) (hlink : (Cond.methodLink own index y).before args s = true) (hinst : (Cond.instanceMethod y).before args s = true) (hsel : (Cond.selects C y y).before args s = true)
    (hcode : (Cond.codeWith y bytes maxL ret hh).before args s = true) (hy : y.cls ≠ "java/lang/invoke/MethodHandle" ∧ y.cls ≠ "java/lang/invoke/VarHandle")
    {W9 : Nat} {Pre : Pt → Array Value → Prop} {Post : Pt → Array Value → Option Value → Pt → Prop} (hK : Back l R p e below s args y 3 W9 Pre Post)
    {b : Addr} {cellB : Cell} (hcell : T.heap[b]? = some cellB) (hobj : cellB.vm.isStatics = false) (hcls : s.vm.findClass C = some cellB.cls)
    {g : JFrame} (hg : g.method = m) (hsize : g.locals.size = c.maxLocals) {argsL rest : List Value} (hlen : ∀ sig, parseMethodDescriptor y.desc = some sig → argsL.length = sig.parameters.length)
    (hstack : g.stack = argsL.reverse ++ .ref b :: rest) (hW : 2 * g.monitorRoom + (rest.map fun v => v.category).sum ≤ W9) (hdg : decode c.code g.pc = .ok (.invokevirtual index, 3))
    (hpre : ∀ vm₁, s.WarmedH vm₁ → Pre ⟨T.setVm vm₁, locs, cells, slots⟩ (Value.ref b :: argsL).toArray) :
    ∃ (v : Option Value) (vm₁ : Vm) (B : Pt), s.WarmedH vm₁ ∧ Stand p l e R s m args below meth c B.U B.locs B.cells B.slots ∧ Post ⟨T.setVm vm₁, locs, cells, slots⟩ (Value.ref b :: argsL).toArray v B ∧
      ∀ target, Steps p.tables e below (B.U.setTop { g with pc := g.pc + 3, stack := v.toList ++ rest }) target → Steps p.tables e below (T.setTop g) target := by
  obtain ⟨mk, methM, hnamed, hmethM, hstM, habM⟩ := Cond.instanceMethod_spec hinst
  obtain ⟨m8, methM', cM, hn8, hmethM', -, -, -, -, -, -, hsigM⟩ := Cond.codeWith_spec hcode
  cases Option.some.inj (hn8.symm.trans hnamed)
  cases hmethM.symm.trans hmethM'
  obtain ⟨c2, r2, m2, q1, q2, q3, q4, kP, hkP, hkPi⟩ := Cond.selects_spec hsel
  cases hcls.symm.trans q1
  cases (State.methodFound?_of_named hnamed hy).symm.trans q2
  cases hnamed.symm.trans q3
  have hselP : selectMethod e.platform s.vm cellB.cls mk = .method mk := by rw [Launch.admits_selectMethod X.admits]; exact q4
  obtain ⟨vm₁, X₁, hstep₁⟩ := X.invokevirtual hexec hown hlink hnamed hmethM hstM hkP hkPi hy (a := b) (cell := cellB) hcell
    (fun z h => by rw [h] at hobj; cases hobj) hselP hmethM habM hkP hkPi (g := g) hg (argsL := argsL) (rest := rest) (hlen _ hsigM) hstack hdg
  obtain ⟨v, B, X', hpost, hsteps⟩ := hK m meth c ⟨T.setVm vm₁, locs, cells, slots⟩ { g with stack := rest } (.invokevirtual index) mk (Value.ref b :: argsL).toArray X₁ hg hsize hdg hW (X₁.named hnamed) (hpre vm₁ X₁.warmed)
  exact ⟨v, vm₁, B, X₁.warmed, X', hpost, fun target h => hstep₁ _ fun acts => by rw [doInvoke_state]; exact hsteps.trans h⟩
abbrev vx_CVW (R : Room) (s : State) (args : Array Value) (own C : String) (index : Nat) (y : MethodName) (bytes : ByteArray) (maxL : Nat) (ret : Option FieldType) (hh : List (Nat × Nat × Nat × Nat)) (ws : List Cond) (rm : Room) (mc ms n : Nat) : Prop :=
  (rm.cells = mc ∧ rm.slots = ms ∧ rm.frames + 1 ≤ R.frames ∧ 8 + (maxL + 11) + rm.locals ≤ R.locals ∧ (∀ w ∈ ws, ∀ (a' : Array Value) (U : State), s.WarmedH U.vm → w.before a' U = true) ∧ Cond.codeWith y bytes maxL ret hh ∈ ws) ∧
  (Cond.codeWith y bytes maxL ret hh).before args s = true ∧ (Cond.initialized y.cls).before args s = true ∧ (y.cls ≠ "java/lang/invoke/MethodHandle" ∧ y.cls ≠ "java/lang/invoke/VarHandle") ∧
  (∀ sig, parseMethodDescriptor y.desc = some sig → n = sig.parameters.length) ∧ (Cond.methodLink own index y).before args s = true ∧ (Cond.instanceMethod y).before args s = true ∧ (Cond.selects C y y).before args s = true
theorem vx_cwVW {own C : String} {index maxL mc ms : Nat} {y : MethodName} {bytes : ByteArray} {ret : Option FieldType} {hh : List (Nat × Nat × Nat × Nat)} {Ts ws ws' : List Cond} {rm : Room} (n : Nat) (ht : ∀ w ∈ Ts, w.before args s = true) (hT : GoodIn Ts (wsV own index C y ws)) (hw : ws = Cond.codeWith y bytes maxL ret hh :: ws') (hrc : rm.cells = mc) (hrs : rm.slots = ms)
    (hd : y.cls = C ∧ y.cls ≠ "java/lang/invoke/MethodHandle" ∧ y.cls ≠ "java/lang/invoke/VarHandle" ∧ (parseMethodDescriptor y.desc).map (fun d => d.parameters.length) = some n) (hR : rm.frames + 1 ≤ R.frames ∧ 8 + (maxL + 11) + rm.locals ≤ R.locals) :
    vx_CVW R s args own C index y bytes maxL ret hh ws rm mc ms n := by
  obtain ⟨hC, hd⟩ := hd
  subst hC
  have ok : ∀ w ∈ wsV own index y.cls y ws, w.before args s = true := fun w h => ht w (hT w h).1
  have hG : GoodIn Ts ws := fun w h => hT w (by unfold wsV; exact List.mem_append_right _ h)
  have hc : Cond.codeWith y bytes maxL ret hh ∈ ws := by rw [hw]; exact List.mem_cons_self
  refine ⟨⟨hrc, hrs, hR.1, hR.2, pay_in ht hG, hc⟩, ht _ (hG _ hc).1, ok _ (by simp [wsV]), ⟨hd.1, hd.2.1⟩, fun sig h => ?_, ok _ (by simp [wsV]), ok _ (by simp [wsV]), ok _ (by simp [wsV])⟩
  have h2 := hd.2.2
  rw [h] at h2
  exact (Option.some.inj h2).symm
theorem vx_runVW {y : MethodName} {bytes cc : ByteArray} {maxL nL mc ms n index : Nat} {ret : Option FieldType} {hh : List (Nat × Nat × Nat × Nat)} {ws : List Cond} {rm : Room} {Pc : Array Value → State → Prop} {Qc : Array Value → State → Outcome → State → Prop} {free : Addr → Prop} {Ts : List Cond} {own C : String} {b : Addr} {As rest : List Value} {g : JFrame}
    (S : CallFix p m c cc nL s args Ts own) (hM : Met l y ws rm Pc Qc mc ms free) (cw : vx_CVW R s args own C index y bytes maxL ret hh ws rm mc ms n) (hp : PreV s H C b Pc As)
    (hg : g.method = m) (hn : As.length = n) (hsize : g.locals.size = nL) (hstack : g.stack = As.reverse ++ .ref b :: rest) (hW : 2 * g.monitorRoom + (rest.map fun v => v.category).sum ≤ 8) (hdg : decode cc g.pc = .ok (.invokevirtual index, 3)) (hf : cells + mc ≤ R.cells ∧ slots + ms ≤ R.slots) :
    va_Run p l e R s m args below meth c H locs cells slots mc ms g rest (Qc (Value.ref b :: As).toArray) free := by
  obtain ⟨⟨hrc, hrs, hfr, hlo, hws, hcw⟩, hcode, hini, hy, hlen, hl, hin, hse⟩ := cw
  have hK : Back l R p e below s args y 3 8 (PreOf R mc ms Pc) (PostOf Qc mc ms free) := va_backW (hh := hh) (bytes := bytes) (maxL := maxL) (ret := ret) hM hp.1 hrc hrs hfr hlo hws hcw (fun a' U hW => word_at hW (Or.inl (by first | rfl | simp [Cond.onTables, Cond.keeps, Cond.steady])) hini)
  obtain ⟨hx, hb, hml, ho, -⟩ := S
  obtain ⟨-, ⟨cellB, hcB, hoB, hclB⟩, hPc⟩ := hp
  intro T hT X
  obtain ⟨v, vm₁, ⟨U', l2, c2, s2⟩, hW₁, X', ⟨g', mk, t, L, e1, e2, hq, h1, hL, h2, h3⟩, st⟩ := vx_callVW X hx (C := C) (hh := hh) (bytes := bytes) (maxL := maxL) (ret := ret) ho hl hin hse hcode hy hK (by rw [hT]; exact hcB) hoB hclB hg (hsize.trans hml.symm) (argsL := As) (rest := rest) (fun sig h => hn.trans (hlen sig h)) hstack hW (by rw [hb]; exact hdg)
    (fun vm₁ hW₁ => ⟨hf.1, hf.2, hPc (T.setVm vm₁) hT hW₁⟩)
  dsimp only [Pt.U, Pt.locs, Pt.cells, Pt.slots] at X' e1 e2 h1 h2 h3 st
  subst h1; subst h2; subst h3
  exact ⟨v, (T.setVm vm₁).calling g' mk (Value.ref b :: As).toArray, t, U', L, hT, X', hL, e1, e2, hq, st⟩
section
variable {y : MethodName} {bytes cc : ByteArray} {maxL nL mc ms n index : Nat} {ret : Option FieldType} {ws : List Cond} {rm : Room} {Pc : Array Value → State → Prop} {Qc : Array Value → State → Outcome → State → Prop} {XC : String → State → State → Prop} {free : Addr → Prop} {Ts : List Cond} {own C : String} {b : Addr} {As rest : List Value} {g : JFrame}
theorem vx_runVX {hh : List (Nat × Nat × Nat × Nat)} (S : CallFix p m c cc nL s args Ts own) (hM : vx_Met l y ws rm Pc Qc XC mc ms free) (cw : vx_CVW R s args own C index y bytes maxL ret hh ws rm mc ms n) (hp : PreV s H C b Pc As)
    (hg : g.method = m) (hn : As.length = n) (hsize : g.locals.size = nL) (hstack : g.stack = As.reverse ++ .ref b :: rest) (hW : 2 * g.monitorRoom + (rest.map fun v => v.category).sum ≤ 8) (hdg : decode cc g.pc = .ok (.invokevirtual index, 3)) (hf : cells + mc ≤ R.cells ∧ slots + ms ≤ R.slots) :
    vx_Run p l e R s m args below meth c H locs cells slots mc ms g rest (Qc (Value.ref b :: As).toArray) XC free := by
  obtain ⟨⟨hrc, hrs, hfr, hlo, hws, hcw⟩, hcode, hini, hy, hlen, hl, hin, hse⟩ := cw
  have hK : vx_Back l R p e below s args y 3 8 (PreOf R mc ms Pc) (PostOf Qc mc ms free) (vx_Post XC mc ms free) := vx_backW (hh := hh) (bytes := bytes) (maxL := maxL) (ret := ret) hM hp.1 hrc hrs hfr hlo hws hcw (fun a' U hW => word_at hW (Or.inl (by first | rfl | simp [Cond.onTables, Cond.keeps, Cond.steady])) hini)
  obtain ⟨hx, hb, hml, ho, -⟩ := S
  obtain ⟨-, ⟨cellB, hcB, hoB, hclB⟩, hPc⟩ := hp
  intro T hT X
  rcases vx_callVX X hx (C := C) (hh := hh) (bytes := bytes) (maxL := maxL) (ret := ret) ho hl hin hse hcode hy hK (by rw [hT]; exact hcB) hoB hclB hg (hsize.trans hml.symm) (argsL := As) (rest := rest) (fun sig h => hn.trans (hlen sig h)) hstack hW (by rw [hb]; exact hdg)
    (fun vm₁ hW₁ => ⟨hf.1, hf.2, hPc (T.setVm vm₁) hT hW₁⟩) with ⟨v, vm₁, ⟨U', l2, c2, s2⟩, hW₁, X', ⟨g', mk, t, L, e1, e2, hq, h1, hL, h2, h3⟩, st⟩ | ⟨q, vm₁, ⟨U', l2, c2, s2⟩, hW₁, X', ⟨g', mk, t, L, E, ce, e1, e2, hq, hce, hcv, hcl, h1, hL, h2, h3⟩, st⟩
  · dsimp only [Pt.U, Pt.locs, Pt.cells, Pt.slots] at X' e1 e2 h1 h2 h3 st
    subst h1; subst h2; subst h3
    exact Or.inl ⟨v, (T.setVm vm₁).calling g' mk (Value.ref b :: As).toArray, t, U', L, hT, X', hL, e1, e2, hq, st⟩
  · dsimp only [Pt.U, Pt.locs, Pt.cells, Pt.slots] at X' e1 e2 h1 h2 h3 st hcl
    subst h1; subst h2; subst h3
    exact Or.inr ⟨q, (T.setVm vm₁).calling g' mk (Value.ref b :: As).toArray, t, U', L, E, ce, hT, X', hL, e1, e2, hq, hce, hcv, vx_cls hW₁ hcl, st⟩
theorem vx_runSX {hh : List (Nat × Nat × Nat × Nat)} (S : CallFix p m c cc nL s args Ts own) (hM : vx_Met l y ws rm Pc Qc XC mc ms free) (cw : vx_CSW R s args own index y bytes maxL ret hh ws rm mc ms n) (hp : PreS s H Pc As)
    (hg : g.method = m) (hn : As.length = n) (hsize : g.locals.size = nL) (hstack : g.stack = As.reverse ++ rest) (hW : 2 * g.monitorRoom + (rest.map fun v => v.category).sum ≤ 8) (hdg : decode cc g.pc = .ok (.invokestatic index, 3)) (hf : cells + mc ≤ R.cells ∧ slots + ms ≤ R.slots) :
    vx_Run p l e R s m args below meth c H locs cells slots mc ms g rest (Qc As.toArray) XC free := by
  obtain ⟨⟨hrc, hrs, hfr, hlo, hws, hcw⟩, hcode, hini, hy, hlen, hl, hstt⟩ := cw
  have hK : vx_Back l R p e below s args y 3 8 (PreOf R mc ms Pc) (PostOf Qc mc ms free) (vx_Post XC mc ms free) := vx_backW (hh := hh) (bytes := bytes) (maxL := maxL) (ret := ret) hM hp.1 hrc hrs hfr hlo hws hcw (fun a' U hW => word_at hW (Or.inl (by first | rfl | simp [Cond.onTables, Cond.keeps, Cond.steady])) hini)
  obtain ⟨hx, hb, hml, ho, -⟩ := S
  intro T hT X
  rcases vx_callSX X hx (hh := hh) (bytes := bytes) (maxL := maxL) (ret := ret) ho hl hstt hini hcode hy hK hg (hsize.trans hml.symm) (argsL := As) (rest := rest) (fun sig h => hn.trans (hlen sig h)) hstack hW (by rw [hb]; exact hdg)
    (fun vm₁ hW₁ => ⟨hf.1, hf.2, hp.2 (T.setVm vm₁) hT hW₁⟩) with ⟨v, vm₁, ⟨U', l2, c2, s2⟩, hW₁, X', ⟨g', mk, t, L, e1, e2, hq, h1, hL, h2, h3⟩, st⟩ | ⟨q, vm₁, ⟨U', l2, c2, s2⟩, hW₁, X', ⟨g', mk, t, L, E, ce, e1, e2, hq, hce, hcv, hcl, h1, hL, h2, h3⟩, st⟩
  · dsimp only [Pt.U, Pt.locs, Pt.cells, Pt.slots] at X' e1 e2 h1 h2 h3 st
    subst h1; subst h2; subst h3
    exact Or.inl ⟨v, (T.setVm vm₁).calling g' mk As.toArray, t, U', L, hT, X', hL, e1, e2, hq, st⟩
  · dsimp only [Pt.U, Pt.locs, Pt.cells, Pt.slots] at X' e1 e2 h1 h2 h3 st hcl
    subst h1; subst h2; subst h3
    exact Or.inr ⟨q, (T.setVm vm₁).calling g' mk As.toArray, t, U', L, E, ce, hT, X', hL, e1, e2, hq, hce, hcv, vx_cls hW₁ hcl, st⟩
end
end VXH
theorem vx_ofWH {l : Launch} {y : MethodName} {ws ws' : List Cond} {rm : Room} {Pc : Array Value → State → Prop} {Qc : Array Value → State → Outcome → State → Prop} {XC : String → State → State → Prop} {mc ms : Nat} {free : Addr → Prop} {cc : ByteArray} {maxL : Nat} {ret : Option FieldType} {hh : List (Nat × Nat × Nat × Nat)}
    (hy : plainName y.cls = true) (hw : ws = Cond.codeWith y cc maxL ret hh :: ws')
    (body : ∀ p e s m args below meth c s₁, BodyLoose p l y (headSpec ws rm) cc maxL ret e s m args below meth c s₁ → c.maxLocals = maxL → Pc args s →
      W p l e (headSpec ws rm).room s m args below meth c s.heap [] 0 0 (vx_MQ below Qc XC args s mc ms free) (entryFrame m args maxL)) : vx_Met l y ws rm Pc Qc XC mc ms free := by
  refine MetFree.of_bodyS (code := cc) (maxLocals := maxL) (ret := ret) hy ?_ ?_
  · intro args s m h hn
    obtain ⟨m9, meth, c, hn9, h1, h2, h3, h4, -, h5, h6, -⟩ := Cond.codeWith_spec (atoms_spec (ws := ws) h _ (by rw [hw]; exact List.mem_cons_self))
    cases hn.symm.trans hn9
    exact ⟨meth, c, h1, h2, h3, h4, h5, h6⟩
  · intro p e s m args below meth c s₁ B hml hP _
    have hh0 : s₁.heap = s.heap := by rw [B.state]; rfl
    obtain ⟨t, a1, o, b1, b2, b3⟩ := body p e s m args below meth c s₁ B hml hP s₁ hh0 (Stand.of_body B)
    exact ⟨t, o, a1, b1, b2, b3⟩
/-! ===== END ===== -/
end
section
/-! AN ABSTRACT MACHINE over a world of fixed shape. A thing of the world is named by its place k (a reference is '.ref k'); the shape says of each place: an object (number of its class; its fields, each a place or a number's name) or an array (its kind, its length). A state: the numbers by their names, the arrays' contents by their places. am_AW c Q: from the configuration c the method comes to an end with Q. -/
abbrev am_D : Type := (Nat × List (Nat ⊕ Nat)) ⊕ (Nat × Nat)
abbrev am_S : Type := (Nat → Int32) × (Nat → Nat → Int32)
/-- method, pc, exceptions' room used, locals, stack, state -/
abbrev am_C : Type := Nat × Nat × Nat × List (Option Value) × List Value × am_S
/-- an outcome: an answer, or an exception of a class -/
abbrev am_O : Type := Option Value ⊕ String
abbrev am_Q : Type := am_S → am_O → Prop
/-- a step: what must hold; roads (each with its condition), or a call, or an end -/
abbrev am_N : Type := Prop × (List (Prop × am_C) ⊕ ((am_C × (am_S → Option Value → am_C)) ⊕ (am_S × am_O)))
/-- a method: name, bytes, locals, answer's type, number of its class, room -/
abbrev am_M : Type := MethodName × ByteArray × Nat × Option FieldType × Nat × Room
/-- tables: methods; fields by (class, pool place): (class, slot); calls by (method, pool place): (kind, method, parameters); int and long constants; throws by (method, pc) -/
abbrev am_G : Type := List am_M × List ((Nat × Nat) × (Nat × Nat)) × List ((Nat × Nat) × (Nat × Nat × Nat)) × List ((Nat × Nat) × Int32) × List ((Nat × Nat) × Int64) × List ((Nat × Nat) × String)
def am_m (G : am_G) (μ : Nat) : Option am_M := G.1[μ]?
def am_ml (G : am_G) (μ : Nat) : Nat := match am_m G μ with
  | some M => M.2.2.1
  | none => 0
def am_oc (G : am_G) (μ : Nat) : Nat := match am_m G μ with
  | some M => M.2.2.2.2.1
  | none => 0
def am_nc (G : am_G) (μ : Nat) : Nat := match am_m G μ with
  | some M => M.2.2.2.2.2.cells
  | none => 0
/-- the answer's type: 0 none, 1 int, 2 boolean -/
def am_rk (t : Option FieldType) : Nat := match t with
  | none => 0
  | some .int => 1
  | some .boolean => 2
  | some _ => 3
def am_rt (G : am_G) (μ : Nat) : Nat := match am_m G μ with
  | some M => am_rk M.2.2.2.1
  | none => 3
def am_fld (G : am_G) (μ ix : Nat) : Option (Nat × Nat) := G.2.1.lookup (am_oc G μ, ix)
def am_cal (G : am_G) (μ ix : Nat) : Option (Nat × Nat × Nat) := G.2.2.1.lookup (μ, ix)
def am_ki (G : am_G) (μ ix : Nat) : Option Int32 := G.2.2.2.1.lookup (am_oc G μ, ix)
def am_kl (G : am_G) (μ ix : Nat) : Option Int64 := G.2.2.2.2.1.lookup (am_oc G μ, ix)
def am_th (G : am_G) (μ pc : Nat) : Option String := G.2.2.2.2.2.lookup (μ, pc)
def am_nn (z : Int) : Option Nat := match z with
  | .ofNat n => some n
  | .negSucc _ => none
def am_tg (i : Instr) (pc : Nat) : Option Nat := match i with
  | .goto off => am_nn ((pc : Int) + off)
  | .ifCond _ off => am_nn ((pc : Int) + off)
  | .if_icmp _ off => am_nn ((pc : Int) + off)
  | .tableswitch off _ _ _ => am_nn ((pc : Int) + off)
  | _ => some 0
def am_ln (i : Instr) (len : Nat) : Bool := match i with
  | .tableswitch _ _ _ _ => true
  | .bipush _ | .ldc _ | .iload _ | .lload _ | .aload _ | .istore _ | .lstore _ | .astore _ => len == 2
  | .sipush _ | .ldc2_w _ | .getfield _ | .putfield _ | .goto _ | .ifCond _ _ | .if_icmp _ _ | .invokevirtual _ | .invokestatic _ | .invokespecial _ | .iinc _ _ | .new _ => len == 3
  | _ => len == 1
def am_code (G : am_G) (μ pc : Nat) : Option (Instr × Nat × Nat) := match am_m G μ with
  | some M => match decode M.2.1 pc with
    | .ok (i, len) => if am_ln i len = true then (am_tg i pc).map (fun t => (i, len, t)) else none
    | .error _ => none
  | none => none
theorem am_code_of {G : am_G} {μ pc : Nat} {M : am_M} {i : Instr} {len t : Nat} (h1 : am_m G μ = some M) (h2 : decode M.2.1 pc = .ok (i, len)) (h3 : am_ln i len = true) (h4 : am_tg i pc = some t) : am_code G μ pc = some (i, len, t) := by
  simp only [am_code, h1, h2, h3, h4, if_true, Option.map_some]
theorem am_code_spec {G : am_G} {μ pc : Nat} {M : am_M} {i : Instr} {len t : Nat} (h1 : am_m G μ = some M) (h : am_code G μ pc = some (i, len, t)) : decode M.2.1 pc = .ok (i, len) ∧ am_ln i len = true ∧ am_tg i pc = some t := by
  simp only [am_code, h1] at h
  cases hd : decode M.2.1 pc with
  | error x => rw [hd] at h; cases h
  | ok q =>
    obtain ⟨i', len'⟩ := q
    rw [hd] at h
    simp only at h
    by_cases hl : am_ln i' len' = true
    · rw [if_pos hl] at h
      cases ht : am_tg i' pc with
      | none => rw [ht] at h; cases h
      | some t' =>
        rw [ht] at h
        simp only [Option.map_some, Option.some.injEq, Prod.mk.injEq] at h
        obtain ⟨rfl, rfl, rfl⟩ := h
        exact ⟨rfl, hl, ht⟩
    · rw [if_neg hl] at h
      cases h
/-- values of one word from the stack, the last first -/
def am_pp : Nat → List Value → List Value → Option (List Value × List Value)
  | 0, st, acc => some (acc, st)
  | n + 1, v :: st, acc => if v.category = 1 then am_pp n st (v :: acc) else none
  | _ + 1, [], _ => none
def am_ct : List Value → Nat
  | [] => 0
  | v :: r => v.category + am_ct r
def am_no : Nat → List (Option Value)
  | 0 => []
  | n + 1 => none :: am_no n
/-- the locals at a method's entry -/
def am_in : Nat → List Value → List (Option Value)
  | n, [] => am_no n
  | 0, v :: r => some v :: am_in 0 r
  | n + 1, v :: r => some v :: am_in n r
def am_cut (lo : List (Option Value)) (i : Nat) : List (Option Value) := match i with
  | 0 => lo
  | j + 1 => match lo[j]? with
    | some (some v) => if v.category = 2 then lo.set j none else lo
    | _ => lo
def am_s1 (lo : List (Option Value)) (i : Nat) (v : Value) : List (Option Value) := (am_cut lo i).set i (some v)
def am_s2 (lo : List (Option Value)) (i : Nat) (v : Value) : List (Option Value) := ((am_cut lo i).set i (some v)).set (i + 1) none
def am_one (c : am_C) : Option am_N := some (True, .inl [(True, c)])
def am_two (b b' : Prop) (c c' : am_C) : Option am_N := some (True, .inl [(b, c), (b', c')])
def am_br (cc : ClassFile.Cond) (x y : Int32) (c c' : am_C) : Option am_N := match cc with
  | .eq => am_two (x = y) (¬ x = y) c c'
  | .ne => am_two (¬ x = y) (x = y) c c'
  | .lt => am_two (x < y) (¬ x < y) c c'
  | .ge => am_two (y ≤ x) (¬ y ≤ x) c c'
  | .gt => am_two (y < x) (¬ y < x) c c'
  | .le => am_two (x ≤ y) (¬ x ≤ y) c c'
def am_sw (mk : Nat → am_C) (pc : Nat) (x lo : Int) : Nat → List Int → List (Prop × am_C)
  | _, [] => []
  | j, off :: r => (x = lo + (j : Int), mk ((pc : Int) + off).toNat) :: am_sw mk pc x lo (j + 1) r
def am_swo (pc : Nat) : List Int → Bool
  | [] => true
  | off :: r => decide (0 ≤ (pc : Int) + off) && am_swo pc r
/-- the receiver is an object of the class -/
def am_rc (sh : List am_D) (oc : Nat) (args : List Value) : Prop := match args with
  | .ref o :: _ => match sh[o]? with
    | some (.inl (ci, _)) => ci = oc
    | _ => False
  | _ => False
def am_inv (G : am_G) (sh : List am_D) (μ pc nc : Nat) (lo : List (Option Value)) (st : List Value) (h : am_S) (k μ' n : Nat) : Option am_N := match am_pp n st [] with
  | some (args, rest) => some ((k ≤ 1 → am_rc sh (am_oc G μ') args) ∧ am_ct rest ≤ 8 ∧ n ≤ am_ml G μ' ∧ nc + am_nc G μ' ≤ am_nc G μ, .inr (.inl ((μ', 0, 0, am_in (am_ml G μ') args, [], h), fun h' r => (μ, pc + 3, nc + am_nc G μ', lo, r.toList ++ rest, h'))))
  | none => none
def am_op (G : am_G) (sh : List am_D) (μ pc len tg nc : Nat) (lo : List (Option Value)) (st : List Value) (h : am_S) (i : Instr) : Option am_N := match i with
  | .iconst v => am_one (μ, pc + len, nc, lo, .int (Int32.ofInt v) :: st, h)
  | .bipush v => am_one (μ, pc + len, nc, lo, .int (Int8.ofInt v).toInt32 :: st, h)
  | .sipush v => am_one (μ, pc + len, nc, lo, .int (Int16.ofInt v).toInt32 :: st, h)
  | .lconst v => am_one (μ, pc + len, nc, lo, .long (Int64.ofNat v.val) :: st, h)
  | .ldc ix => match am_ki G μ ix with
    | some v => am_one (μ, pc + len, nc, lo, .int v :: st, h)
    | none => none
  | .ldc2_w ix => match am_kl G μ ix with
    | some v => am_one (μ, pc + len, nc, lo, .long v :: st, h)
    | none => none
  | .iload_n k => match lo[k.val]? with
    | some (some (.int x)) => am_one (μ, pc + len, nc, lo, .int x :: st, h)
    | _ => none
  | .iload k => match lo[k]? with
    | some (some (.int x)) => am_one (μ, pc + len, nc, lo, .int x :: st, h)
    | _ => none
  | .lload_n k => match lo[k.val]? with
    | some (some (.long x)) => am_one (μ, pc + len, nc, lo, .long x :: st, h)
    | _ => none
  | .lload k => match lo[k]? with
    | some (some (.long x)) => am_one (μ, pc + len, nc, lo, .long x :: st, h)
    | _ => none
  | .aload_n k => match lo[k.val]? with
    | some (some (.ref x)) => am_one (μ, pc + len, nc, lo, .ref x :: st, h)
    | _ => none
  | .aload k => match lo[k]? with
    | some (some (.ref x)) => am_one (μ, pc + len, nc, lo, .ref x :: st, h)
    | _ => none
  | .istore_n k => match st with
    | .int x :: r => some (k.val < am_ml G μ, .inl [(True, (μ, pc + len, nc, am_s1 lo k.val (.int x), r, h))])
    | _ => none
  | .istore k => match st with
    | .int x :: r => some (k < am_ml G μ, .inl [(True, (μ, pc + len, nc, am_s1 lo k (.int x), r, h))])
    | _ => none
  | .lstore_n k => match st with
    | .long x :: r => some (k.val + 1 < am_ml G μ, .inl [(True, (μ, pc + len, nc, am_s2 lo k.val (.long x), r, h))])
    | _ => none
  | .lstore k => match st with
    | .long x :: r => some (k + 1 < am_ml G μ, .inl [(True, (μ, pc + len, nc, am_s2 lo k (.long x), r, h))])
    | _ => none
  | .astore_n k => match st with
    | .ref x :: r => some (k.val < am_ml G μ, .inl [(True, (μ, pc + len, nc, am_s1 lo k.val (.ref x), r, h))])
    | _ => none
  | .astore k => match st with
    | .ref x :: r => some (k < am_ml G μ, .inl [(True, (μ, pc + len, nc, am_s1 lo k (.ref x), r, h))])
    | _ => none
  | .iinc k v => match lo[k]? with
    | some (some (.int x)) => some (k < am_ml G μ, .inl [(True, (μ, pc + len, nc, am_s1 lo k (.int (x + Int32.ofInt v)), st, h))])
    | _ => none
  | .iadd => match st with
    | .int y :: .int x :: r => am_one (μ, pc + len, nc, lo, .int (x + y) :: r, h)
    | _ => none
  | .isub => match st with
    | .int y :: .int x :: r => am_one (μ, pc + len, nc, lo, .int (x - y) :: r, h)
    | _ => none
  | .imul => match st with
    | .int y :: .int x :: r => am_one (μ, pc + len, nc, lo, .int (x * y) :: r, h)
    | _ => none
  | .iand => match st with
    | .int y :: .int x :: r => am_one (μ, pc + len, nc, lo, .int (x &&& y) :: r, h)
    | _ => none
  | .ixor => match st with
    | .int y :: .int x :: r => am_one (μ, pc + len, nc, lo, .int (x ^^^ y) :: r, h)
    | _ => none
  | .irem => match st with
    | .int y :: .int x :: r => some (¬ y = 0, .inl [(True, (μ, pc + len, nc, lo, .int (x - x / y * y) :: r, h))])
    | _ => none
  | .ladd => match st with
    | .long y :: .long x :: r => am_one (μ, pc + len, nc, lo, .long (x + y) :: r, h)
    | _ => none
  | .i2l => match st with
    | .int x :: r => am_one (μ, pc + len, nc, lo, .long x.toInt64 :: r, h)
    | _ => none
  | .l2i => match st with
    | .long x :: r => am_one (μ, pc + len, nc, lo, .int x.toInt32 :: r, h)
    | _ => none
  | .dup => match st with
    | v :: r => some (v.category = 1, .inl [(True, (μ, pc + len, nc, lo, v :: v :: r, h))])
    | _ => none
  | .pop => match st with
    | v :: r => some (v.category = 1, .inl [(True, (μ, pc + len, nc, lo, r, h))])
    | _ => none
  | .dup2 => match st with
    | v :: w :: r => some (v.category = 1 ∧ w.category = 1, .inl [(True, (μ, pc + len, nc, lo, v :: w :: v :: w :: r, h))])
    | _ => none
  | .dup_x1 => match st with
    | v :: w :: r => some (v.category = 1 ∧ w.category = 1, .inl [(True, (μ, pc + len, nc, lo, v :: w :: v :: r, h))])
    | _ => none
  | .goto _ => am_one (μ, tg, nc, lo, st, h)
  | .ifCond cc _ => match st with
    | .int x :: r => am_br cc x 0 (μ, tg, nc, lo, r, h) (μ, pc + len, nc, lo, r, h)
    | _ => none
  | .if_icmp cc _ => match st with
    | .int y :: .int x :: r => am_br cc x y (μ, tg, nc, lo, r, h) (μ, pc + len, nc, lo, r, h)
    | _ => none
  | .tableswitch _ l u offs => match st with
    | .int x :: r => some (u + 1 = l + (offs.size : Int) ∧ am_swo pc offs.toList = true, .inl ((x.toInt < l ∨ u < x.toInt, (μ, tg, nc, lo, r, h)) :: am_sw (fun t => (μ, t, nc, lo, r, h)) pc x.toInt l 0 offs.toList))
    | _ => none
  | .getfield ix => match am_fld G μ ix with
    | some (ci, k) => match st with
      | .ref o :: r => match sh[o]? with
        | some (.inl (cj, fs)) => match fs[k]? with
          | some (.inl q) => some (ci = cj, .inl [(True, (μ, pc + len, nc, lo, .ref q :: r, h))])
          | some (.inr j) => some (ci = cj, .inl [(True, (μ, pc + len, nc, lo, .int (h.1 j) :: r, h))])
          | none => none
        | _ => none
      | _ => none
    | none => none
  | .putfield ix => match am_fld G μ ix with
    | some (ci, k) => match st with
      | .int x :: .ref o :: r => match sh[o]? with
        | some (.inl (cj, fs)) => match fs[k]? with
          | some (.inr j) => some (ci = cj, .inl [(True, (μ, pc + len, nc, lo, r, (upd h.1 j x, h.2)))])
          | _ => none
        | _ => none
      | _ => none
    | none => none
  | .iaload => match st with
    | .int j :: .ref o :: r => match sh[o]? with
      | some (.inr (0, n)) => some (vp_in j n, .inl [(True, (μ, pc + len, nc, lo, .int (h.2 o j.toNatClampNeg) :: r, h))])
      | _ => none
    | _ => none
  | .iastore => match st with
    | .int x :: .int j :: .ref o :: r => match sh[o]? with
      | some (.inr (0, n)) => some (vp_in j n, .inl [(True, (μ, pc + len, nc, lo, r, (h.1, va_up h.2 o (upd (h.2 o) j.toNatClampNeg x))))])
      | _ => none
    | _ => none
  | .baload => match st with
    | .int j :: .ref o :: r => match sh[o]? with
      | some (.inr (1, n)) => some (vp_in j n, .inl [(True, (μ, pc + len, nc, lo, .int (h.2 o j.toNatClampNeg) :: r, h))])
      | _ => none
    | _ => none
  | .bastore => match st with
    | .int x :: .int j :: .ref o :: r => match sh[o]? with
      | some (.inr (1, n)) => some (vp_in j n ∧ (x = 0 ∨ x = 1), .inl [(True, (μ, pc + len, nc, lo, r, (h.1, va_up h.2 o (upd (h.2 o) j.toNatClampNeg x))))])
      | _ => none
    | _ => none
  | .arraylength => match st with
    | .ref o :: r => match sh[o]? with
      | some (.inr (0, n)) => am_one (μ, pc + len, nc, lo, .int (Int32.ofNat n) :: r, h)
      | _ => none
    | _ => none
  | .invokevirtual ix => match am_cal G μ ix with
    | some (0, μ', n) => am_inv G sh μ pc nc lo st h 0 μ' (n + 1)
    | _ => none
  | .invokestatic ix => match am_cal G μ ix with
    | some (2, μ', n) => am_inv G sh μ pc nc lo st h 2 μ' n
    | some (3, _, _) => match st with
      | .int y :: .int x :: r => some (am_ct r ≤ 8 ∧ nc ≤ am_nc G μ, .inl [(True, (μ, pc + len, nc, lo, .int (if x < y then y else x) :: r, h))])
      | _ => none
    | some (4, _, _) => match st with
      | .int y :: .int x :: r => some (am_ct r ≤ 8 ∧ nc ≤ am_nc G μ, .inl [(True, (μ, pc + len, nc, lo, .int (if y < x then y else x) :: r, h))])
      | _ => none
    | some (5, _, _) => match st with
      | .long y :: .long x :: r => some (am_ct r ≤ 8 ∧ nc ≤ am_nc G μ, .inl [(True, (μ, pc + len, nc, lo, .long (if y < x then y else x) :: r, h))])
      | _ => none
    | _ => none
  | .ireturn => match st with
    | [.int x] => some ((am_rt G μ = 1 ∨ (am_rt G μ = 2 ∧ (x = 0 ∨ x = 1))) ∧ nc ≤ am_nc G μ, .inr (.inr (h, .inl (some (.int x)))))
    | _ => none
  | .return_ => match st with
    | [] => some (am_rt G μ = 0 ∧ nc ≤ am_nc G μ, .inr (.inr (h, .inl none)))
    | _ => none
  | .new _ => match am_th G μ pc with
    | some E => some (nc + 1 ≤ am_nc G μ ∧ am_ct st ≤ 8, .inr (.inr (h, .inr E)))
    | none => none
  | _ => none
def am_step (G : am_G) (sh : List am_D) (c : am_C) : Option am_N := match am_code G c.1 c.2.1 with
  | some (i, len, tg) => am_op G sh c.1 c.2.1 len tg c.2.2.1 c.2.2.2.1 c.2.2.2.2.1 c.2.2.2.2.2 i
  | none => none
def am_all (f : am_C → Prop) : List (Prop × am_C) → Prop
  | [] => True
  | q :: r => (q.1 → f q.2) ∧ am_all f r
theorem am_all_mono {f g : am_C → Prop} (hfg : ∀ c, f c → g c) : ∀ {l : List (Prop × am_C)}, am_all f l → am_all g l
  | [], _ => trivial
  | _ :: _, h => ⟨fun hq => hfg _ (h.1 hq), am_all_mono hfg h.2⟩
/-- what a caller makes of an outcome -/
def am_k (Q : am_Q) (f : am_S → Option Value → Prop) : am_Q := fun h o => match o with
  | .inl r => f h r
  | .inr E => Q h (.inr E)
theorem am_k_mono {Q Q' : am_Q} {f f' : am_S → Option Value → Prop} (hQ : ∀ h o, Q h o → Q' h o) (hf : ∀ h r, f h r → f' h r) : ∀ h o, am_k Q f h o → am_k Q' f' h o := by
  intro h o
  cases o with
  | inl r => exact hf h r
  | inr E => exact hQ h _
def am_go (P : am_C → am_Q → Prop) (F : am_C → am_Q → Prop) (n : Option am_N) (Q : am_Q) : Prop := match n with
  | none => False
  | some (ob, .inl l) => ob ∧ am_all (fun c' => F c' Q) l
  | some (ob, .inr (.inl (c', K))) => ob ∧ P c' (am_k Q (fun h r => F (K h r) Q))
  | some (ob, .inr (.inr (h, o))) => ob ∧ Q h o
def am_mono (P : am_C → am_Q → Prop) : Prop := ∀ (c : am_C) (Q Q' : am_Q), (∀ h o, Q h o → Q' h o) → P c Q → P c Q'
theorem am_go_le {P P' F F' : am_C → am_Q → Prop} (hm : am_mono P') (hP : ∀ c Q, P c Q → P' c Q) (hF : ∀ c Q, F c Q → F' c Q) {n : Option am_N} {Q : am_Q} (h : am_go P F n Q) : am_go P' F' n Q := by
  match n, h with
  | some (ob, .inl l), h => exact ⟨h.1, am_all_mono (fun c hc => hF c Q hc) h.2⟩
  | some (ob, .inr (.inl (c', K))), h => exact ⟨h.1, hm _ _ _ (am_k_mono (fun _ _ q => q) (fun h r q => hF _ _ q)) (hP _ _ h.2)⟩
  | some (ob, .inr (.inr (h0, o))), h => exact h
theorem am_go_mono {P F : am_C → am_Q → Prop} (hP : am_mono P) (hF : am_mono F) {n : Option am_N} {Q Q' : am_Q} (hQ : ∀ h o, Q h o → Q' h o) (h : am_go P F n Q) : am_go P F n Q' := by
  match n, h with
  | some (ob, .inl l), h => exact ⟨h.1, am_all_mono (fun c hc => hF c Q Q' hQ hc) h.2⟩
  | some (ob, .inr (.inl (c', K))), h => exact ⟨h.1, hP _ _ _ (am_k_mono hQ (fun h r q => hF _ _ _ hQ q)) h.2⟩
  | some (ob, .inr (.inr (h0, o))), h => exact ⟨h.1, hQ _ _ h.2⟩
/-- the least predicate that is closed under steps -/
def am_AW (G : am_G) (sh : List am_D) (c : am_C) (Q : am_Q) : Prop := ∀ P : am_C → am_Q → Prop, am_mono P → (∀ c Q, am_go P P (am_step G sh c) Q → P c Q) → P c Q
theorem am_AW_mono (G : am_G) (sh : List am_D) : am_mono (am_AW G sh) := fun c Q Q' hQ h P hm hc => hm c Q Q' hQ (h P hm hc)
theorem am_AW.fold {G : am_G} {sh : List am_D} {c : am_C} {Q : am_Q} (h : am_go (am_AW G sh) (am_AW G sh) (am_step G sh c) Q) : am_AW G sh c Q :=
  fun P hm hc => hc c Q (am_go_le hm (fun _ _ q => q P hm hc) (fun _ _ q => q P hm hc) h)
/-- n steps at once -/
def am_R (G : am_G) (sh : List am_D) : Nat → am_C → am_Q → Prop
  | 0, c, Q => am_AW G sh c Q
  | n + 1, c, Q => am_go (am_AW G sh) (fun c' Q' => am_R G sh n c' Q') (am_step G sh c) Q
theorem am_AW.run {G : am_G} {sh : List am_D} : ∀ (n : Nat) {c : am_C} {Q : am_Q}, am_R G sh n c Q → am_AW G sh c Q
  | 0, _, _, h => h
  | n + 1, _, _, h => am_AW.fold (am_go_le (am_AW_mono G sh) (fun _ _ q => q) (fun _ _ q => am_AW.run n q) h)
end
section
/-! THE ABSTRACT MACHINE IS SOUND: what am_AW says of a configuration holds of the machine. -/
def am_cv (ad : Nat → Nat) (v : Value) : Value := match v with
  | .ref k => .ref (ad k)
  | w => w
theorem am_cv_cat (ad : Nat → Nat) (v : Value) : (am_cv ad v).category = v.category := by cases v <;> rfl
def am_fv (ad : Nat → Nat) (I : Nat → Int32) (f : Nat ⊕ Nat) : Value := match f with
  | .inl r => .ref (ad r)
  | .inr i => .int (I i)
def am_E (ad : Nat → Nat) (ca : Nat → ClassId) (h : am_S) (k : Nat) (d : am_D) : va_E := match d with
  | .inl (ci, fs) => .inr (ci, fs.map (am_fv ad h.1))
  | .inr (tc, n) => .inl (ca tc, n, .inl (h.2 k))
def am_W (sh : List am_D) (ad : Nat → Nat) (ca : Nat → ClassId) (h : am_S) : va_W := sh.mapIdx (fun k d => (ad k, am_E ad ca h k d))
def am_ty (ca : Nat → ClassId) : List (ClassId × FieldType) := [(ca 0, .int), (ca 1, .boolean)]
theorem am_W_get {sh : List am_D} {ad : Nat → Nat} {ca : Nat → ClassId} {h : am_S} {k : Nat} {d : am_D} (hd : sh[k]? = some d) : (am_W sh ad ca h)[k]? = some (ad k, am_E ad ca h k d) := by
  simp [am_W, List.getElem?_mapIdx, hd]
/-- a shape's numbers have names of their own; its number fields are ints that are not final -/
def am_Sh (cl : List vw_C) (sh : List am_D) : Prop :=
  (∀ (o ci : Nat) (fs : List (Nat ⊕ Nat)) (k i : Nat), sh[o]? = some (.inl (ci, fs)) → fs[k]? = some (.inr i) → ∀ (o' ci' : Nat) (fs' : List (Nat ⊕ Nat)) (k' : Nat), sh[o']? = some (.inl (ci', fs')) → fs'[k']? = some (.inr i) → o' = o ∧ k' = k) ∧
  ∀ (o ci : Nat) (fs : List (Nat ⊕ Nat)), sh[o]? = some (.inl (ci, fs)) → ∀ (C : String) (T : u_T) (N : Nat), cl[ci]? = some (C, T, N) → fs.length = N ∧ ∀ k i : Nat, fs[k]? = some (.inr i) → parseFieldDescriptor (T k).2.2.1 = some .int ∧ (T k).2.2.2 = false
theorem am_W_row {sh : List am_D} {ad : Nat → Nat} {ca : Nat → ClassId} {h : am_S} {o tc n : Nat} {f : Nat → Int32} (hd : sh[o]? = some (.inr (tc, n))) : (am_W sh ad ca h).set o (ad o, .inl (ca tc, n, .inl f)) = am_W sh ad ca (h.1, va_up h.2 o f) := by
  apply List.ext_getElem?
  intro j
  by_cases hj : j = o
  · subst hj
    have hl : j < (am_W sh ad ca h).length := (List.getElem?_eq_some_iff.mp (am_W_get (ad := ad) (ca := ca) (h := h) hd)).1
    rw [List.getElem?_set_self hl, am_W_get hd]
    simp [am_E, va_up]
  · rw [List.getElem?_set_ne (Ne.symm hj)]
    cases hs : sh[j]? with
    | none => simp [am_W, List.getElem?_mapIdx, hs]
    | some d =>
      rw [am_W_get hs, am_W_get hs]
      cases d with
      | inl q => rfl
      | inr q => simp [am_E, va_up, hj]
theorem am_W_num {cl : List vw_C} {sh : List am_D} (hsh : am_Sh cl sh) {ad : Nat → Nat} {ca : Nat → ClassId} {h : am_S} {o ci k i : Nat} {fs : List (Nat ⊕ Nat)} {x : Int32} (hd : sh[o]? = some (.inl (ci, fs))) (hk : fs[k]? = some (.inr i)) :
    (am_W sh ad ca h).set o (ad o, .inr (ci, (fs.map (am_fv ad h.1)).set k (.int x))) = am_W sh ad ca (upd h.1 i x, h.2) := by
  have old : ∀ (o' ci' : Nat) (fs' : List (Nat ⊕ Nat)) (k' : Nat) (z : Nat ⊕ Nat), sh[o']? = some (.inl (ci', fs')) → fs'[k']? = some z → ¬ (o' = o ∧ k' = k) → am_fv ad (upd h.1 i x) z = am_fv ad h.1 z := by
    intro o' ci' fs' k' z h1 h2 h3
    cases z with
    | inl r => rfl
    | inr i' =>
      by_cases hi : i' = i
      · subst hi
        exact absurd (hsh.1 o ci fs k i' hd hk o' ci' fs' k' h1 h2) h3
      · simp [am_fv, upd, hi]
  apply List.ext_getElem?
  intro j
  by_cases hj : j = o
  · subst hj
    have hl : j < (am_W sh ad ca h).length := (List.getElem?_eq_some_iff.mp (am_W_get (ad := ad) (ca := ca) (h := h) hd)).1
    rw [List.getElem?_set_self hl, am_W_get hd]
    simp only [am_E, Option.some.injEq, Prod.mk.injEq, Sum.inr.injEq, true_and]
    apply List.ext_getElem?
    intro k'
    by_cases hk' : k' = k
    · subst hk'
      have hl2 : k' < (fs.map (am_fv ad h.1)).length := by
        rw [List.length_map]
        exact (List.getElem?_eq_some_iff.mp hk).1
      rw [List.getElem?_set_self hl2, List.getElem?_map, hk]
      simp [am_fv, upd]
    · rw [List.getElem?_set_ne (Ne.symm hk'), List.getElem?_map, List.getElem?_map]
      cases hz : fs[k']? with
      | none => rfl
      | some z =>
        simp only [Option.map_some, Option.some.injEq]
        exact (old j ci fs k' z hd hz (fun q => hk' q.2)).symm
  · rw [List.getElem?_set_ne (Ne.symm hj)]
    cases hs : sh[j]? with
    | none => simp [am_W, List.getElem?_mapIdx, hs]
    | some d =>
      rw [am_W_get hs, am_W_get hs]
      cases d with
      | inr q => rfl
      | inl q =>
        obtain ⟨c2, f2⟩ := q
        simp only [am_E, Option.some.injEq, Prod.mk.injEq, Sum.inr.injEq, true_and]
        apply List.ext_getElem?
        intro k'
        rw [List.getElem?_map, List.getElem?_map]
        cases hz : f2[k']? with
        | none => rfl
        | some z =>
          simp only [Option.map_some, Option.some.injEq]
          exact (old j c2 f2 k' z hs hz (fun q => hj q.1)).symm
/-- the locals -/
def am_lo (ad : Nat → Nat) (ls : Array Slot) (n : Nat) (lo : List (Option Value)) : Prop := ls.size = n ∧ lv_wf ls ∧ ∀ (i : Nat) (v : Value), lo[i]? = some (some v) → ls[i]? = some (.val (am_cv ad v))
def am_pl (ad : Nat → Nat) (n : Nat) (lo : List (Option Value)) : List (Nat × Value) := (List.range n).filterMap (fun i => match lo[i]? with
  | some (some v) => some (i, am_cv ad v)
  | _ => none)
theorem am_pl_mem {ad : Nat → Nat} {n : Nat} {lo : List (Option Value)} {i : Nat} {v : Value} (hi : i < n) (h : lo[i]? = some (some v)) : (i, am_cv ad v) ∈ am_pl ad n lo :=
  List.mem_filterMap.mpr ⟨i, List.mem_range.mpr hi, by rw [h]⟩
theorem am_lo.has {ad : Nat → Nat} {ls : Array Slot} {n : Nat} {lo : List (Option Value)} (h : am_lo ad ls n lo) : lv_has ls n (am_pl ad n lo) := by
  refine ⟨h.1, h.2.1, fun q hq => ?_⟩
  obtain ⟨i, -, hi⟩ := List.mem_filterMap.mp hq
  split at hi
  · rename_i v hv
    cases hi
    exact h.2.2 i v hv
  · cases hi
theorem am_lo.lt {ad : Nat → Nat} {ls : Array Slot} {n : Nat} {lo : List (Option Value)} (h : am_lo ad ls n lo) {i : Nat} {v : Value} (hv : lo[i]? = some (some v)) : i < n := by
  rw [← h.1]
  exact (Array.getElem?_eq_some_iff.mp (h.2.2 i v hv)).1
theorem am_cut_get {lo : List (Option Value)} {i j : Nat} {w : Value} (h : (am_cut lo i)[j]? = some (some w)) : lo[j]? = some (some w) ∧ ¬ (j + 1 = i ∧ w.category = 2) := by
  cases i with
  | zero => exact ⟨h, fun q => by omega⟩
  | succ i =>
    simp only [am_cut] at h
    split at h
    · rename_i v hv
      split at h
      · rename_i hc
        by_cases hj : i = j
        · subst hj
          have hl : i < lo.length := (List.getElem?_eq_some_iff.mp hv).1
          rw [List.getElem?_set_self hl] at h
          simp at h
        · rw [List.getElem?_set_ne hj] at h
          exact ⟨h, fun q => hj (by omega)⟩
      · rename_i hc
        refine ⟨h, fun q => ?_⟩
        have : j = i := by omega
        subst this
        rw [hv] at h
        cases h
        exact hc q.2
    · rename_i hn
      refine ⟨h, fun q => ?_⟩
      have : j = i := by omega
      subst this
      exact hn w h
theorem am_lo_s1 {ad : Nat → Nat} {ls ls' : Array Slot} {n i : Nat} {lo : List (Option Value)} {v : Value} (h : am_lo ad ls n lo)
    (h' : lv_has ls' n ((i, am_cv ad v) :: (am_pl ad n lo).filter (fun q => !(q.1 == i) && !(q.1 + 1 == i && q.2.category == 2)))) : am_lo ad ls' n (am_s1 lo i v) := by
  refine ⟨h'.1, h'.2.1, fun j w hj => ?_⟩
  by_cases hij : i = j
  · subst hij
    have hl : i < (am_cut lo i).length := by
      have := (List.getElem?_eq_some_iff.mp hj).1
      simpa [am_s1] using this
    rw [am_s1, List.getElem?_set_self hl] at hj
    cases hj
    exact h'.2.2 (i, am_cv ad v) List.mem_cons_self
  · rw [am_s1, List.getElem?_set_ne hij] at hj
    obtain ⟨h1, h2⟩ := am_cut_get hj
    refine h'.2.2 (j, am_cv ad w) (List.mem_cons_of_mem _ (List.mem_filter.mpr ⟨am_pl_mem (h.lt h1) h1, ?_⟩))
    have hji : ¬ j = i := fun q => hij q.symm
    simp only [Bool.and_eq_true, Bool.not_eq_true', beq_eq_false_iff_ne, ne_eq, hji, not_false_iff, true_and, am_cv_cat, Bool.and_eq_false_iff]
    by_cases ha : j + 1 = i
    · right
      exact fun q => h2 ⟨ha, q⟩
    · left
      exact ha
theorem am_lo_s2 {ad : Nat → Nat} {ls ls' : Array Slot} {n i : Nat} {lo : List (Option Value)} {v : Value} (h : am_lo ad ls n lo)
    (h' : lv_has ls' n ((i, am_cv ad v) :: (am_pl ad n lo).filter (fun q => !(q.1 == i) && (!(q.1 == i + 1) && !(q.1 + 1 == i && q.2.category == 2))))) : am_lo ad ls' n (am_s2 lo i v) := by
  refine ⟨h'.1, h'.2.1, fun j w hj => ?_⟩
  by_cases hij1 : i + 1 = j
  · subst hij1
    have hl : i + 1 < ((am_cut lo i).set i (some v)).length := by
      have := (List.getElem?_eq_some_iff.mp hj).1
      simpa [am_s2] using this
    rw [am_s2, List.getElem?_set_self hl] at hj
    cases hj
  · rw [am_s2, List.getElem?_set_ne hij1] at hj
    by_cases hij : i = j
    · subst hij
      have hl : i < (am_cut lo i).length := by
        have := (List.getElem?_eq_some_iff.mp hj).1
        simpa using this
      rw [List.getElem?_set_self hl] at hj
      cases hj
      exact h'.2.2 (i, am_cv ad v) List.mem_cons_self
    · rw [List.getElem?_set_ne hij] at hj
      obtain ⟨h1, h2⟩ := am_cut_get hj
      refine h'.2.2 (j, am_cv ad w) (List.mem_cons_of_mem _ (List.mem_filter.mpr ⟨am_pl_mem (h.lt h1) h1, ?_⟩))
      have hji : ¬ j = i := fun q => hij q.symm
      have hji1 : ¬ j = i + 1 := fun q => hij1 q.symm
      simp only [Bool.and_eq_true, Bool.not_eq_true', beq_eq_false_iff_ne, ne_eq, hji, hji1, not_false_iff, true_and, am_cv_cat, Bool.and_eq_false_iff]
      by_cases ha : j + 1 = i
      · right
        exact fun q => h2 ⟨ha, q⟩
      · left
        exact ha
theorem am_pp_spec : ∀ {n : Nat} {st acc args rest : List Value}, am_pp n st acc = some (args, rest) → ∃ pre : List Value, st = pre ++ rest ∧ args = pre.reverse ++ acc ∧ pre.length = n ∧ ∀ v ∈ pre, v.category = 1
  | 0, st, acc, args, rest, h => by
    simp only [am_pp, Option.some.injEq, Prod.mk.injEq] at h
    obtain ⟨rfl, rfl⟩ := h
    exact ⟨[], rfl, rfl, rfl, fun v hv => by cases hv⟩
  | n + 1, [], acc, args, rest, h => by simp [am_pp] at h
  | n + 1, v :: st, acc, args, rest, h => by
    simp only [am_pp] at h
    split at h
    · rename_i hc
      obtain ⟨pre, rfl, rfl, h3, h4⟩ := am_pp_spec h
      refine ⟨v :: pre, rfl, by simp, by simp [h3], fun w hw => ?_⟩
      rcases List.mem_cons.mp hw with rfl | hw
      · exact hc
      · exact h4 w hw
    · cases h
theorem am_in_get : ∀ {n : Nat} {args : List Value} {i : Nat} {v : Value}, (am_in n args)[i]? = some (some v) → args[i]? = some v
  | n, [], i, v, h => by
    exfalso
    have key : ∀ (n i : Nat), (am_no n)[i]? ≠ some (some v) := by
      intro n
      induction n with
      | zero => intro i q; simp [am_no] at q
      | succ n ih =>
        intro i q
        cases i with
        | zero => simp [am_no] at q
        | succ i => exact ih i (by simpa [am_no] using q)
    cases n <;> exact key _ _ (by simpa [am_in] using h)
  | 0, a :: r, 0, v, h => by simpa [am_in] using h
  | 0, a :: r, i + 1, v, h => by
    have := am_in_get (n := 0) (args := r) (i := i) (v := v) (by simpa [am_in] using h)
    simpa using this
  | n + 1, a :: r, 0, v, h => by simpa [am_in] using h
  | n + 1, a :: r, i + 1, v, h => by
    have := am_in_get (n := n) (args := r) (i := i) (v := v) (by simpa [am_in] using h)
    simpa using this
theorem am_sl1 : ∀ {vs : List Value}, (∀ v ∈ vs, v.category = 1) → (lg_sl vs).length = vs.length
  | [], _ => rfl
  | v :: r, h => by
    have h1 := h v List.mem_cons_self
    have ih := am_sl1 (vs := r) (fun w hw => h w (List.mem_cons_of_mem _ hw))
    simp only [lg_sl, List.flatMap_cons, h1] at ih ⊢
    simp [ih]
theorem am_args1 : ∀ {vs : List Value} {k i : Nat} {v : Value}, (∀ w ∈ vs, w.category = 1) → vs[i]? = some v → (k + i, v) ∈ lv_args k vs
  | [], k, i, v, _, h => by simp at h
  | w :: r, k, 0, v, hc, h => by
    have : w = v := by simpa using h
    subst this
    exact List.mem_cons_self
  | w :: r, k, i + 1, v, hc, h => by
    have h1 := hc w List.mem_cons_self
    have := am_args1 (k := k + 1) (i := i) (v := v) (fun w hw => hc w (List.mem_cons_of_mem _ hw)) (by simpa using h)
    refine List.mem_cons_of_mem _ ?_
    rw [h1, if_neg (by decide)]
    rw [show k + (i + 1) = k + 1 + i by omega]
    exact this
theorem am_nn_spec {z : Int} {t : Nat} (h : am_nn z = some t) : z = (t : Int) := by
  cases z with
  | ofNat n => simp only [am_nn, Option.some.injEq] at h; rw [h]; rfl
  | negSucc n => cases h
theorem am_ct_map {ad : Nat → Nat} : ∀ st : List Value, ((st.map (am_cv ad)).map fun v => v.category).sum = am_ct st
  | [] => rfl
  | v :: r => by
    simp only [List.map_cons, List.sum_cons, am_cv_cat, am_ct]
    rw [am_ct_map r]
/-- what the tables must say -/
def am_Ok (G : am_G) (TS NS : List Cond) (cl : List vw_C) : Prop :=
  (∀ w ∈ TS, goodWord w = true) ∧
  (∀ (μ : Nat) (M : am_M), am_m G μ = some M → plainFor M.1 = true ∧ Cond.code M.1 M.2.1 M.2.2.1 M.2.2.2.1 ∈ TS ∧ Cond.initialized M.1.cls ∈ TS ∧ (M.1.cls ≠ "java/lang/invoke/MethodHandle" ∧ M.1.cls ≠ "java/lang/invoke/VarHandle") ∧ M.2.2.2.2.2.slots = 6 * M.2.2.2.2.2.cells) ∧
  (∀ (μ : Nat) (M : am_M) (ix ci k : Nat), am_m G μ = some M → am_fld G μ ix = some (ci, k) → ∃ (C : String) (T : u_T) (N : Nat) (ty : Nat → FieldType), cl[ci]? = some (C, T, N) ∧ k < N ∧ (T k).1 = C ∧ (∀ w ∈ u_ws C T N, w ∈ TS) ∧ (∀ j, j < N → parseFieldDescriptor (T j).2.2.1 = some (ty j)) ∧ (∀ a, a < N → ∀ b, b < N → a ≠ b → (T a).2.1 ≠ (T b).2.1) ∧
    (Cond.fieldLink M.1.cls ix C (T k).2.1 (T k).2.2.1 ∈ TS ∨ ∃ host, Cond.fieldLinkNest M.1.cls ix C (T k).2.1 (T k).2.2.1 host ∈ NS)) ∧
  (∀ (μ : Nat) (M : am_M) (ix μ' n : Nat), am_m G μ = some M → am_cal G μ ix = some (0, μ', n) → ∃ M' : am_M, am_m G μ' = some M' ∧ Cond.methodLink M.1.cls ix M'.1 ∈ TS ∧ Cond.instanceMethod M'.1 ∈ TS ∧ Cond.selects M'.1.cls M'.1 M'.1 ∈ TS ∧ (parseMethodDescriptor M'.1.desc).map (fun d => d.parameters.length) = some n ∧
    M'.2.2.2.2.2.frames + 1 ≤ M.2.2.2.2.2.frames ∧ 8 + (M'.2.2.1 + 11) + M'.2.2.2.2.2.locals ≤ M.2.2.2.2.2.locals ∧ ∃ (T : u_T) (N : Nat), cl[M'.2.2.2.2.1]? = some (M'.1.cls, T, N)) ∧
  (∀ (μ : Nat) (M : am_M) (ix μ' n : Nat), am_m G μ = some M → am_cal G μ ix = some (2, μ', n) → ∃ M' : am_M, am_m G μ' = some M' ∧ Cond.methodLink M.1.cls ix M'.1 ∈ TS ∧ Cond.static M'.1 ∈ TS ∧ (parseMethodDescriptor M'.1.desc).map (fun d => d.parameters.length) = some n ∧
    M'.2.2.2.2.2.frames + 1 ≤ M.2.2.2.2.2.frames ∧ 8 + (M'.2.2.1 + 11) + M'.2.2.2.2.2.locals ≤ M.2.2.2.2.2.locals) ∧
  (∀ (μ : Nat) (M : am_M) (ix a b : Nat), am_m G μ = some M → am_cal G μ ix = some (3, a, b) → Cond.methodLink M.1.cls ix Lib.Math.max.name ∈ TS ∧ Cond.static Lib.Math.max.name ∈ TS ∧ Cond.initialized "java/lang/Math" ∈ TS ∧ Cond.code Lib.Math.max.name Lib.Math.max.code 2 (some .int) ∈ TS ∧ 1 ≤ M.2.2.2.2.2.frames ∧ 23 ≤ M.2.2.2.2.2.locals) ∧
  (∀ (μ : Nat) (M : am_M) (ix a b : Nat), am_m G μ = some M → am_cal G μ ix = some (4, a, b) → Cond.methodLink M.1.cls ix Lib.Math.min.name ∈ TS ∧ Cond.static Lib.Math.min.name ∈ TS ∧ Cond.initialized "java/lang/Math" ∈ TS ∧ Cond.code Lib.Math.min.name Lib.Math.min.code 2 (some .int) ∈ TS ∧ 1 ≤ M.2.2.2.2.2.frames ∧ 23 ≤ M.2.2.2.2.2.locals) ∧
  (∀ (μ : Nat) (M : am_M) (ix a b : Nat), am_m G μ = some M → am_cal G μ ix = some (5, a, b) → Cond.methodLink M.1.cls ix Lib.MathLoose.min_long.x ∈ TS ∧ Cond.static Lib.MathLoose.min_long.x ∈ TS ∧ Cond.initialized "java/lang/Math" ∈ TS ∧ Cond.code Lib.MathLoose.min_long.x Lib.MathLoose.min_long.code 4 (some .long) ∈ TS ∧ 1 ≤ M.2.2.2.2.2.frames ∧ 23 ≤ M.2.2.2.2.2.locals) ∧
  (∀ (μ : Nat) (M : am_M) (ix : Nat) (v : Int32), am_m G μ = some M → am_ki G μ ix = some v → Cond.constant M.1.cls ix v ∈ TS) ∧
  (∀ (μ : Nat) (M : am_M) (ix : Nat) (v : Int64), am_m G μ = some M → am_kl G μ ix = some v → Cond.constantLong M.1.cls ix v ∈ TS)
/-- a method's body at work -/
def am_B (TS NS : List Cond) (M : am_M) (p : Program) (s : State) (m : MethodId) (args : Array Value) (meth : Method) (cd : Code) : Prop :=
  p.tables.exec = Jvm.exec ∧ cd.code = M.2.1 ∧ meth.sig.returnType = M.2.2.2.1 ∧ cd.maxLocals = M.2.2.1 ∧ s.vm.findClass M.1.cls = some m.cls ∧ (∀ w ∈ TS, w.before args s = true) ∧ (∀ w ∈ NS, va_Nw w s) ∧ meth.locks = false ∧ ∀ x ∈ cd.exceptionTable.toList, False
def am_PW (G : am_G) (sh : List am_D) (TS NS : List Cond) (cl : List vw_C) (EX : (Nat → Prop) → State → Heap → Prop) (l : Launch) (c : am_C) (Q : am_Q) : Prop :=
  ∀ M : am_M, am_m G c.1 = some M → ∀ (p : Program) (e : Env) (s : State) (m : MethodId) (args : Array Value) (below : List Frame) (meth : Method) (cd : Code) (H : Heap) (locs : List Loc) (A : Nat → Prop) (ls : Array Slot) (ad : Nat → Nat) (ca : Nat → ClassId) (D : va_G),
    am_B TS NS M p s m args meth cd → EX A s s.heap → va_K D cl (am_ty ca) s → va_P D cl (am_W sh ad ca c.2.2.2.2.2) H → va_D A (am_W sh ad ca c.2.2.2.2.2) → va_S A s.heap H locs → (∀ q, s.heap.size ≤ q → A q) → am_lo ad ls M.2.2.1 c.2.2.2.1 →
    ∀ (Qc : Array Value → State → Outcome → State → Prop) (XC : String → State → State → Prop),
      (∀ (h' : am_S) (r : Option Value) (t : State), Q h' (.inl r) → s.vm.Alike t.vm → va_P D cl (am_W sh ad ca h') t.heap → va_D A (am_W sh ad ca h') → va_F A s t → Qc args s (.returned (r.map (am_cv ad))) t) →
      (∀ (h' : am_S) (E : String) (t : State), Q h' (.inr E) → s.vm.Alike t.vm → va_P D cl (am_W sh ad ca h') t.heap → va_D A (am_W sh ad ca h') → va_F A s t → XC E s t) →
      W p l e M.2.2.2.2.2 s m args below meth cd H locs c.2.2.1 (6 * c.2.2.1) (vx_MQ below Qc XC args s M.2.2.2.2.2.cells M.2.2.2.2.2.slots A) (F0 m c.2.1 ls (c.2.2.2.2.1.map (am_cv ad)))
theorem am_PW_mono (G : am_G) (sh : List am_D) (TS NS : List Cond) (cl : List vw_C) (EX : (Nat → Prop) → State → Heap → Prop) (l : Launch) : am_mono (am_PW G sh TS NS cl EX l) := by
  intro c Q Q' hQ h M hM p e s m args below meth cd H locs A ls ad ca D hB hE hK hP hD hS hA hl Qc XC h1 h2
  exact h M hM p e s m args below meth cd H locs A ls ad ca D hB hE hK hP hD hS hA hl Qc XC (fun h' r t q => h1 h' r t (hQ _ _ q)) (fun h' E t q => h2 h' E t (hQ _ _ q))
/-- what moves the throws' premises along -/
def am_EX (EX : (Nat → Prop) → State → Heap → Prop) : Prop := ∀ (A B : Nat → Prop) (u U : State) (H0 H1 : Heap), EX A u H0 → u.WarmedH U.vm → (∀ a : Nat, a < H0.size → ¬ A a → H1[a]? = H0[a]?) → (∀ q, B q → A q) → EX B U H1
/-- the throws themselves -/
def am_TH (G : am_G) (TS NS : List Cond) (EX : (Nat → Prop) → State → Heap → Prop) (l : Launch) : Prop :=
  ∀ (μ : Nat) (M : am_M) (pc : Nat) (E : String), am_m G μ = some M → am_th G μ pc = some E → ∀ (p : Program) (e : Env) (s : State) (m : MethodId) (args : Array Value) (below : List Frame) (meth : Method) (cd : Code) (H : Heap) (locs : List Loc) (A : Nat → Prop) (ls : Array Slot) (rest : List Value) (nc : Nat) (Qc : Array Value → State → Outcome → State → Prop) (XC : String → State → State → Prop),
    am_B TS NS M p s m args meth cd → EX A s s.heap → va_S A s.heap H locs → ls.size = M.2.2.1 → (rest.map fun v => v.category).sum ≤ 8 → nc + 1 ≤ M.2.2.2.2.2.cells →
    (∀ t : State, s.vm.Alike t.vm → H.size ≤ t.heap.size → (∀ q : Nat, q < H.size → t.heap[q]? = H[q]?) → XC E s t) →
    W p l e M.2.2.2.2.2 s m args below meth cd H locs nc (6 * nc) (vx_MQ below Qc XC args s M.2.2.2.2.2.cells M.2.2.2.2.2.slots A) (F0 m pc ls rest)
theorem am_ml_of {G : am_G} {μ : Nat} {M : am_M} (h : am_m G μ = some M) : am_ml G μ = M.2.2.1 := by simp [am_ml, h]
theorem am_oc_of {G : am_G} {μ : Nat} {M : am_M} (h : am_m G μ = some M) : am_oc G μ = M.2.2.2.2.1 := by simp [am_oc, h]
theorem am_nc_of {G : am_G} {μ : Nat} {M : am_M} (h : am_m G μ = some M) : am_nc G μ = M.2.2.2.2.2.cells := by simp [am_nc, h]
theorem am_rt_of {G : am_G} {μ : Nat} {M : am_M} (h : am_m G μ = some M) : am_rt G μ = am_rk M.2.2.2.1 := by simp [am_rt, h]
theorem am_rk_0 {t : Option FieldType} (h : am_rk t = 0) : t = none := by
  cases t with
  | none => rfl
  | some t => cases t <;> simp [am_rk] at h
theorem am_rk_1 {t : Option FieldType} (h : am_rk t = 1) : t = some .int := by
  cases t with
  | none => simp [am_rk] at h
  | some t => cases t <;> first | rfl | simp [am_rk] at h
theorem am_rk_2 {t : Option FieldType} (h : am_rk t = 2) : t = some .boolean := by
  cases t with
  | none => simp [am_rk] at h
  | some t => cases t <;> first | rfl | simp [am_rk] at h

set_option maxHeartbeats 1000000 in
theorem am_r_iconst {G : am_G} {sh : List am_D} {TS NS : List Cond} {cl : List vw_C} {EX : (Nat → Prop) → State → Heap → Prop} {l : Launch} (hok : am_Ok G TS NS cl) (hsh : am_Sh cl sh) {μ pc len tg nc : Nat} {lo : List (Option Value)} {st : List Value} {h : am_S} {Q : am_Q} {v : Int} (hc : am_code G μ pc = some (.iconst v, len, tg))
    (hF : am_go (am_PW G sh TS NS cl EX l) (am_PW G sh TS NS cl EX l) (am_op G sh μ pc len tg nc lo st h (.iconst v)) Q) : am_PW G sh TS NS cl EX l (μ, pc, nc, lo, st, h) Q := by
  intro M hM p e s m args below meth cd H locs A ls ad ca D hB hE hK hP hD hS hA hl Qc XC hQ hX
  obtain ⟨hdec, hln, htg⟩ := am_code_spec hM hc
  obtain ⟨hx, hb, hr, hml, hown, hts, hns, hlocks, hnoex⟩ := id hB
  have go : ∀ (pc' nc' : Nat) (st' : List Value), am_PW G sh TS NS cl EX l (μ, pc', nc', lo, st', h) Q → W p l e M.2.2.2.2.2 s m args below meth cd H locs nc' (6 * nc') (vx_MQ below Qc XC args s M.2.2.2.2.2.cells M.2.2.2.2.2.slots A) (F0 m pc' ls (st'.map (am_cv ad))) :=
    fun pc' nc' st' k => k M hM p e s m args below meth cd H locs A ls ad ca D hB hE hK hP hD hS hA hl Qc XC hQ hX
  obtain rfl : len = 1 := by simpa [am_ln] using hln
  exact lv_iconst hx hb hdec rfl (go _ _ _ (hF.2.1 trivial))

set_option maxHeartbeats 1000000 in
theorem am_r_bipush {G : am_G} {sh : List am_D} {TS NS : List Cond} {cl : List vw_C} {EX : (Nat → Prop) → State → Heap → Prop} {l : Launch} (hok : am_Ok G TS NS cl) (hsh : am_Sh cl sh) {μ pc len tg nc : Nat} {lo : List (Option Value)} {st : List Value} {h : am_S} {Q : am_Q} {v : Int} (hc : am_code G μ pc = some (.bipush v, len, tg))
    (hF : am_go (am_PW G sh TS NS cl EX l) (am_PW G sh TS NS cl EX l) (am_op G sh μ pc len tg nc lo st h (.bipush v)) Q) : am_PW G sh TS NS cl EX l (μ, pc, nc, lo, st, h) Q := by
  intro M hM p e s m args below meth cd H locs A ls ad ca D hB hE hK hP hD hS hA hl Qc XC hQ hX
  obtain ⟨hdec, hln, htg⟩ := am_code_spec hM hc
  obtain ⟨hx, hb, hr, hml, hown, hts, hns, hlocks, hnoex⟩ := id hB
  have go : ∀ (pc' nc' : Nat) (st' : List Value), am_PW G sh TS NS cl EX l (μ, pc', nc', lo, st', h) Q → W p l e M.2.2.2.2.2 s m args below meth cd H locs nc' (6 * nc') (vx_MQ below Qc XC args s M.2.2.2.2.2.cells M.2.2.2.2.2.slots A) (F0 m pc' ls (st'.map (am_cv ad))) :=
    fun pc' nc' st' k => k M hM p e s m args below meth cd H locs A ls ad ca D hB hE hK hP hD hS hA hl Qc XC hQ hX
  obtain rfl : len = 2 := by simpa [am_ln] using hln
  exact lv_bipush hx hb hdec rfl (go _ _ _ (hF.2.1 trivial))

set_option maxHeartbeats 1000000 in
theorem am_r_sipush {G : am_G} {sh : List am_D} {TS NS : List Cond} {cl : List vw_C} {EX : (Nat → Prop) → State → Heap → Prop} {l : Launch} (hok : am_Ok G TS NS cl) (hsh : am_Sh cl sh) {μ pc len tg nc : Nat} {lo : List (Option Value)} {st : List Value} {h : am_S} {Q : am_Q} {v : Int} (hc : am_code G μ pc = some (.sipush v, len, tg))
    (hF : am_go (am_PW G sh TS NS cl EX l) (am_PW G sh TS NS cl EX l) (am_op G sh μ pc len tg nc lo st h (.sipush v)) Q) : am_PW G sh TS NS cl EX l (μ, pc, nc, lo, st, h) Q := by
  intro M hM p e s m args below meth cd H locs A ls ad ca D hB hE hK hP hD hS hA hl Qc XC hQ hX
  obtain ⟨hdec, hln, htg⟩ := am_code_spec hM hc
  obtain ⟨hx, hb, hr, hml, hown, hts, hns, hlocks, hnoex⟩ := id hB
  have go : ∀ (pc' nc' : Nat) (st' : List Value), am_PW G sh TS NS cl EX l (μ, pc', nc', lo, st', h) Q → W p l e M.2.2.2.2.2 s m args below meth cd H locs nc' (6 * nc') (vx_MQ below Qc XC args s M.2.2.2.2.2.cells M.2.2.2.2.2.slots A) (F0 m pc' ls (st'.map (am_cv ad))) :=
    fun pc' nc' st' k => k M hM p e s m args below meth cd H locs A ls ad ca D hB hE hK hP hD hS hA hl Qc XC hQ hX
  obtain rfl : len = 3 := by simpa [am_ln] using hln
  exact lv_sipush hx hb hdec rfl (go _ _ _ (hF.2.1 trivial))

set_option maxHeartbeats 1000000 in
theorem am_r_lconst {G : am_G} {sh : List am_D} {TS NS : List Cond} {cl : List vw_C} {EX : (Nat → Prop) → State → Heap → Prop} {l : Launch} (hok : am_Ok G TS NS cl) (hsh : am_Sh cl sh) {μ pc len tg nc : Nat} {lo : List (Option Value)} {st : List Value} {h : am_S} {Q : am_Q} {v : Fin 2} (hc : am_code G μ pc = some (.lconst v, len, tg))
    (hF : am_go (am_PW G sh TS NS cl EX l) (am_PW G sh TS NS cl EX l) (am_op G sh μ pc len tg nc lo st h (.lconst v)) Q) : am_PW G sh TS NS cl EX l (μ, pc, nc, lo, st, h) Q := by
  intro M hM p e s m args below meth cd H locs A ls ad ca D hB hE hK hP hD hS hA hl Qc XC hQ hX
  obtain ⟨hdec, hln, htg⟩ := am_code_spec hM hc
  obtain ⟨hx, hb, hr, hml, hown, hts, hns, hlocks, hnoex⟩ := id hB
  have go : ∀ (pc' nc' : Nat) (st' : List Value), am_PW G sh TS NS cl EX l (μ, pc', nc', lo, st', h) Q → W p l e M.2.2.2.2.2 s m args below meth cd H locs nc' (6 * nc') (vx_MQ below Qc XC args s M.2.2.2.2.2.cells M.2.2.2.2.2.slots A) (F0 m pc' ls (st'.map (am_cv ad))) :=
    fun pc' nc' st' k => k M hM p e s m args below meth cd H locs A ls ad ca D hB hE hK hP hD hS hA hl Qc XC hQ hX
  obtain rfl : len = 1 := by simpa [am_ln] using hln
  exact lv_lconst hx hb hdec rfl (go _ _ _ (hF.2.1 trivial))

set_option maxHeartbeats 1000000 in
theorem am_r_ldc {G : am_G} {sh : List am_D} {TS NS : List Cond} {cl : List vw_C} {EX : (Nat → Prop) → State → Heap → Prop} {l : Launch} (hok : am_Ok G TS NS cl) (hsh : am_Sh cl sh) {μ pc len tg nc : Nat} {lo : List (Option Value)} {st : List Value} {h : am_S} {Q : am_Q} {ix : Nat} (hc : am_code G μ pc = some (.ldc ix, len, tg))
    (hF : am_go (am_PW G sh TS NS cl EX l) (am_PW G sh TS NS cl EX l) (am_op G sh μ pc len tg nc lo st h (.ldc ix)) Q) : am_PW G sh TS NS cl EX l (μ, pc, nc, lo, st, h) Q := by
  intro M hM p e s m args below meth cd H locs A ls ad ca D hB hE hK hP hD hS hA hl Qc XC hQ hX
  obtain ⟨hdec, hln, htg⟩ := am_code_spec hM hc
  obtain ⟨hx, hb, hr, hml, hown, hts, hns, hlocks, hnoex⟩ := id hB
  have go : ∀ (pc' nc' : Nat) (st' : List Value), am_PW G sh TS NS cl EX l (μ, pc', nc', lo, st', h) Q → W p l e M.2.2.2.2.2 s m args below meth cd H locs nc' (6 * nc') (vx_MQ below Qc XC args s M.2.2.2.2.2.cells M.2.2.2.2.2.slots A) (F0 m pc' ls (st'.map (am_cv ad))) :=
    fun pc' nc' st' k => k M hM p e s m args below meth cd H locs A ls ad ca D hB hE hK hP hD hS hA hl Qc XC hQ hX
  obtain rfl : len = 2 := by simpa [am_ln] using hln
  dsimp only [am_op] at hF
  split at hF
  · rename_i v hv
    exact lv_ldc hx hb hown (hts _ (hok.2.2.2.2.2.2.2.2.1 μ M ix v hM hv)) hdec (go _ _ _ (hF.2.1 trivial))
  · exact hF.elim

set_option maxHeartbeats 1000000 in
theorem am_r_ldc2 {G : am_G} {sh : List am_D} {TS NS : List Cond} {cl : List vw_C} {EX : (Nat → Prop) → State → Heap → Prop} {l : Launch} (hok : am_Ok G TS NS cl) (hsh : am_Sh cl sh) {μ pc len tg nc : Nat} {lo : List (Option Value)} {st : List Value} {h : am_S} {Q : am_Q} {ix : Nat} (hc : am_code G μ pc = some (.ldc2_w ix, len, tg))
    (hF : am_go (am_PW G sh TS NS cl EX l) (am_PW G sh TS NS cl EX l) (am_op G sh μ pc len tg nc lo st h (.ldc2_w ix)) Q) : am_PW G sh TS NS cl EX l (μ, pc, nc, lo, st, h) Q := by
  intro M hM p e s m args below meth cd H locs A ls ad ca D hB hE hK hP hD hS hA hl Qc XC hQ hX
  obtain ⟨hdec, hln, htg⟩ := am_code_spec hM hc
  obtain ⟨hx, hb, hr, hml, hown, hts, hns, hlocks, hnoex⟩ := id hB
  have go : ∀ (pc' nc' : Nat) (st' : List Value), am_PW G sh TS NS cl EX l (μ, pc', nc', lo, st', h) Q → W p l e M.2.2.2.2.2 s m args below meth cd H locs nc' (6 * nc') (vx_MQ below Qc XC args s M.2.2.2.2.2.cells M.2.2.2.2.2.slots A) (F0 m pc' ls (st'.map (am_cv ad))) :=
    fun pc' nc' st' k => k M hM p e s m args below meth cd H locs A ls ad ca D hB hE hK hP hD hS hA hl Qc XC hQ hX
  obtain rfl : len = 3 := by simpa [am_ln] using hln
  dsimp only [am_op] at hF
  split at hF
  · rename_i v hv
    exact lv_ldc2 hx hb hown (hts _ (hok.2.2.2.2.2.2.2.2.2 μ M ix v hM hv)) hdec (go _ _ _ (hF.2.1 trivial))
  · exact hF.elim

set_option maxHeartbeats 1000000 in
theorem am_r_iload_n {G : am_G} {sh : List am_D} {TS NS : List Cond} {cl : List vw_C} {EX : (Nat → Prop) → State → Heap → Prop} {l : Launch} (hok : am_Ok G TS NS cl) (hsh : am_Sh cl sh) {μ pc len tg nc : Nat} {lo : List (Option Value)} {st : List Value} {h : am_S} {Q : am_Q} {k : Fin 4} (hc : am_code G μ pc = some (.iload_n k, len, tg))
    (hF : am_go (am_PW G sh TS NS cl EX l) (am_PW G sh TS NS cl EX l) (am_op G sh μ pc len tg nc lo st h (.iload_n k)) Q) : am_PW G sh TS NS cl EX l (μ, pc, nc, lo, st, h) Q := by
  intro M hM p e s m args below meth cd H locs A ls ad ca D hB hE hK hP hD hS hA hl Qc XC hQ hX
  obtain ⟨hdec, hln, htg⟩ := am_code_spec hM hc
  obtain ⟨hx, hb, hr, hml, hown, hts, hns, hlocks, hnoex⟩ := id hB
  have go : ∀ (pc' nc' : Nat) (st' : List Value), am_PW G sh TS NS cl EX l (μ, pc', nc', lo, st', h) Q → W p l e M.2.2.2.2.2 s m args below meth cd H locs nc' (6 * nc') (vx_MQ below Qc XC args s M.2.2.2.2.2.cells M.2.2.2.2.2.slots A) (F0 m pc' ls (st'.map (am_cv ad))) :=
    fun pc' nc' st' k => k M hM p e s m args below meth cd H locs A ls ad ca D hB hE hK hP hD hS hA hl Qc XC hQ hX
  obtain rfl : len = 1 := by simpa [am_ln] using hln
  dsimp only [am_op] at hF
  split at hF
  · rename_i x hv
    exact lv_iload_n hx hb hdec rfl (hl.2.2 _ _ hv) (go _ _ _ (hF.2.1 trivial))
  · exact hF.elim

set_option maxHeartbeats 1000000 in
theorem am_r_iload {G : am_G} {sh : List am_D} {TS NS : List Cond} {cl : List vw_C} {EX : (Nat → Prop) → State → Heap → Prop} {l : Launch} (hok : am_Ok G TS NS cl) (hsh : am_Sh cl sh) {μ pc len tg nc : Nat} {lo : List (Option Value)} {st : List Value} {h : am_S} {Q : am_Q} {k : Nat} (hc : am_code G μ pc = some (.iload k, len, tg))
    (hF : am_go (am_PW G sh TS NS cl EX l) (am_PW G sh TS NS cl EX l) (am_op G sh μ pc len tg nc lo st h (.iload k)) Q) : am_PW G sh TS NS cl EX l (μ, pc, nc, lo, st, h) Q := by
  intro M hM p e s m args below meth cd H locs A ls ad ca D hB hE hK hP hD hS hA hl Qc XC hQ hX
  obtain ⟨hdec, hln, htg⟩ := am_code_spec hM hc
  obtain ⟨hx, hb, hr, hml, hown, hts, hns, hlocks, hnoex⟩ := id hB
  have go : ∀ (pc' nc' : Nat) (st' : List Value), am_PW G sh TS NS cl EX l (μ, pc', nc', lo, st', h) Q → W p l e M.2.2.2.2.2 s m args below meth cd H locs nc' (6 * nc') (vx_MQ below Qc XC args s M.2.2.2.2.2.cells M.2.2.2.2.2.slots A) (F0 m pc' ls (st'.map (am_cv ad))) :=
    fun pc' nc' st' k => k M hM p e s m args below meth cd H locs A ls ad ca D hB hE hK hP hD hS hA hl Qc XC hQ hX
  obtain rfl : len = 2 := by simpa [am_ln] using hln
  dsimp only [am_op] at hF
  split at hF
  · rename_i x hv
    exact lv_iload hx hb hdec (hl.2.2 _ _ hv) (go _ _ _ (hF.2.1 trivial))
  · exact hF.elim

set_option maxHeartbeats 1000000 in
theorem am_r_lload_n {G : am_G} {sh : List am_D} {TS NS : List Cond} {cl : List vw_C} {EX : (Nat → Prop) → State → Heap → Prop} {l : Launch} (hok : am_Ok G TS NS cl) (hsh : am_Sh cl sh) {μ pc len tg nc : Nat} {lo : List (Option Value)} {st : List Value} {h : am_S} {Q : am_Q} {k : Fin 4} (hc : am_code G μ pc = some (.lload_n k, len, tg))
    (hF : am_go (am_PW G sh TS NS cl EX l) (am_PW G sh TS NS cl EX l) (am_op G sh μ pc len tg nc lo st h (.lload_n k)) Q) : am_PW G sh TS NS cl EX l (μ, pc, nc, lo, st, h) Q := by
  intro M hM p e s m args below meth cd H locs A ls ad ca D hB hE hK hP hD hS hA hl Qc XC hQ hX
  obtain ⟨hdec, hln, htg⟩ := am_code_spec hM hc
  obtain ⟨hx, hb, hr, hml, hown, hts, hns, hlocks, hnoex⟩ := id hB
  have go : ∀ (pc' nc' : Nat) (st' : List Value), am_PW G sh TS NS cl EX l (μ, pc', nc', lo, st', h) Q → W p l e M.2.2.2.2.2 s m args below meth cd H locs nc' (6 * nc') (vx_MQ below Qc XC args s M.2.2.2.2.2.cells M.2.2.2.2.2.slots A) (F0 m pc' ls (st'.map (am_cv ad))) :=
    fun pc' nc' st' k => k M hM p e s m args below meth cd H locs A ls ad ca D hB hE hK hP hD hS hA hl Qc XC hQ hX
  obtain rfl : len = 1 := by simpa [am_ln] using hln
  dsimp only [am_op] at hF
  split at hF
  · rename_i x hv
    exact lv_lload_n hx hb hdec rfl (hl.2.2 _ _ hv) (go _ _ _ (hF.2.1 trivial))
  · exact hF.elim

set_option maxHeartbeats 1000000 in
theorem am_r_lload {G : am_G} {sh : List am_D} {TS NS : List Cond} {cl : List vw_C} {EX : (Nat → Prop) → State → Heap → Prop} {l : Launch} (hok : am_Ok G TS NS cl) (hsh : am_Sh cl sh) {μ pc len tg nc : Nat} {lo : List (Option Value)} {st : List Value} {h : am_S} {Q : am_Q} {k : Nat} (hc : am_code G μ pc = some (.lload k, len, tg))
    (hF : am_go (am_PW G sh TS NS cl EX l) (am_PW G sh TS NS cl EX l) (am_op G sh μ pc len tg nc lo st h (.lload k)) Q) : am_PW G sh TS NS cl EX l (μ, pc, nc, lo, st, h) Q := by
  intro M hM p e s m args below meth cd H locs A ls ad ca D hB hE hK hP hD hS hA hl Qc XC hQ hX
  obtain ⟨hdec, hln, htg⟩ := am_code_spec hM hc
  obtain ⟨hx, hb, hr, hml, hown, hts, hns, hlocks, hnoex⟩ := id hB
  have go : ∀ (pc' nc' : Nat) (st' : List Value), am_PW G sh TS NS cl EX l (μ, pc', nc', lo, st', h) Q → W p l e M.2.2.2.2.2 s m args below meth cd H locs nc' (6 * nc') (vx_MQ below Qc XC args s M.2.2.2.2.2.cells M.2.2.2.2.2.slots A) (F0 m pc' ls (st'.map (am_cv ad))) :=
    fun pc' nc' st' k => k M hM p e s m args below meth cd H locs A ls ad ca D hB hE hK hP hD hS hA hl Qc XC hQ hX
  obtain rfl : len = 2 := by simpa [am_ln] using hln
  dsimp only [am_op] at hF
  split at hF
  · rename_i x hv
    exact lv_lload hx hb hdec (hl.2.2 _ _ hv) (go _ _ _ (hF.2.1 trivial))
  · exact hF.elim

set_option maxHeartbeats 1000000 in
theorem am_r_aload_n {G : am_G} {sh : List am_D} {TS NS : List Cond} {cl : List vw_C} {EX : (Nat → Prop) → State → Heap → Prop} {l : Launch} (hok : am_Ok G TS NS cl) (hsh : am_Sh cl sh) {μ pc len tg nc : Nat} {lo : List (Option Value)} {st : List Value} {h : am_S} {Q : am_Q} {k : Fin 4} (hc : am_code G μ pc = some (.aload_n k, len, tg))
    (hF : am_go (am_PW G sh TS NS cl EX l) (am_PW G sh TS NS cl EX l) (am_op G sh μ pc len tg nc lo st h (.aload_n k)) Q) : am_PW G sh TS NS cl EX l (μ, pc, nc, lo, st, h) Q := by
  intro M hM p e s m args below meth cd H locs A ls ad ca D hB hE hK hP hD hS hA hl Qc XC hQ hX
  obtain ⟨hdec, hln, htg⟩ := am_code_spec hM hc
  obtain ⟨hx, hb, hr, hml, hown, hts, hns, hlocks, hnoex⟩ := id hB
  have go : ∀ (pc' nc' : Nat) (st' : List Value), am_PW G sh TS NS cl EX l (μ, pc', nc', lo, st', h) Q → W p l e M.2.2.2.2.2 s m args below meth cd H locs nc' (6 * nc') (vx_MQ below Qc XC args s M.2.2.2.2.2.cells M.2.2.2.2.2.slots A) (F0 m pc' ls (st'.map (am_cv ad))) :=
    fun pc' nc' st' k => k M hM p e s m args below meth cd H locs A ls ad ca D hB hE hK hP hD hS hA hl Qc XC hQ hX
  obtain rfl : len = 1 := by simpa [am_ln] using hln
  dsimp only [am_op] at hF
  split at hF
  · rename_i x hv
    exact lv_aload_n hx hb hdec rfl (hl.2.2 _ _ hv) (go _ _ _ (hF.2.1 trivial))
  · exact hF.elim

set_option maxHeartbeats 1000000 in
theorem am_r_aload {G : am_G} {sh : List am_D} {TS NS : List Cond} {cl : List vw_C} {EX : (Nat → Prop) → State → Heap → Prop} {l : Launch} (hok : am_Ok G TS NS cl) (hsh : am_Sh cl sh) {μ pc len tg nc : Nat} {lo : List (Option Value)} {st : List Value} {h : am_S} {Q : am_Q} {k : Nat} (hc : am_code G μ pc = some (.aload k, len, tg))
    (hF : am_go (am_PW G sh TS NS cl EX l) (am_PW G sh TS NS cl EX l) (am_op G sh μ pc len tg nc lo st h (.aload k)) Q) : am_PW G sh TS NS cl EX l (μ, pc, nc, lo, st, h) Q := by
  intro M hM p e s m args below meth cd H locs A ls ad ca D hB hE hK hP hD hS hA hl Qc XC hQ hX
  obtain ⟨hdec, hln, htg⟩ := am_code_spec hM hc
  obtain ⟨hx, hb, hr, hml, hown, hts, hns, hlocks, hnoex⟩ := id hB
  have go : ∀ (pc' nc' : Nat) (st' : List Value), am_PW G sh TS NS cl EX l (μ, pc', nc', lo, st', h) Q → W p l e M.2.2.2.2.2 s m args below meth cd H locs nc' (6 * nc') (vx_MQ below Qc XC args s M.2.2.2.2.2.cells M.2.2.2.2.2.slots A) (F0 m pc' ls (st'.map (am_cv ad))) :=
    fun pc' nc' st' k => k M hM p e s m args below meth cd H locs A ls ad ca D hB hE hK hP hD hS hA hl Qc XC hQ hX
  obtain rfl : len = 2 := by simpa [am_ln] using hln
  dsimp only [am_op] at hF
  split at hF
  · rename_i x hv
    exact lv_aload hx hb hdec (hl.2.2 _ _ hv) (go _ _ _ (hF.2.1 trivial))
  · exact hF.elim

set_option maxHeartbeats 1000000 in
theorem am_r_istore_n {G : am_G} {sh : List am_D} {TS NS : List Cond} {cl : List vw_C} {EX : (Nat → Prop) → State → Heap → Prop} {l : Launch} (hok : am_Ok G TS NS cl) (hsh : am_Sh cl sh) {μ pc len tg nc : Nat} {lo : List (Option Value)} {st : List Value} {h : am_S} {Q : am_Q} {k : Fin 4} (hc : am_code G μ pc = some (.istore_n k, len, tg))
    (hF : am_go (am_PW G sh TS NS cl EX l) (am_PW G sh TS NS cl EX l) (am_op G sh μ pc len tg nc lo st h (.istore_n k)) Q) : am_PW G sh TS NS cl EX l (μ, pc, nc, lo, st, h) Q := by
  intro M hM p e s m args below meth cd H locs A ls ad ca D hB hE hK hP hD hS hA hl Qc XC hQ hX
  obtain ⟨hdec, hln, htg⟩ := am_code_spec hM hc
  obtain ⟨hx, hb, hr, hml, hown, hts, hns, hlocks, hnoex⟩ := id hB
  have go : ∀ (pc' nc' : Nat) (st' : List Value), am_PW G sh TS NS cl EX l (μ, pc', nc', lo, st', h) Q → W p l e M.2.2.2.2.2 s m args below meth cd H locs nc' (6 * nc') (vx_MQ below Qc XC args s M.2.2.2.2.2.cells M.2.2.2.2.2.slots A) (F0 m pc' ls (st'.map (am_cv ad))) :=
    fun pc' nc' st' k => k M hM p e s m args below meth cd H locs A ls ad ca D hB hE hK hP hD hS hA hl Qc XC hQ hX
  obtain rfl : len = 1 := by simpa [am_ln] using hln
  dsimp only [am_op] at hF
  split at hF
  · rename_i x r
    have hi := hF.1
    rw [am_ml_of hM] at hi
    exact lv_istore_n hx hb hdec rfl hl.has hi rfl (fun ls' hl' => hF.2.1 trivial M hM p e s m args below meth cd H locs A ls' ad ca D hB hE hK hP hD hS hA (am_lo_s1 (v := .int x) hl hl') Qc XC hQ hX)
  · exact hF.elim

set_option maxHeartbeats 1000000 in
theorem am_r_istore {G : am_G} {sh : List am_D} {TS NS : List Cond} {cl : List vw_C} {EX : (Nat → Prop) → State → Heap → Prop} {l : Launch} (hok : am_Ok G TS NS cl) (hsh : am_Sh cl sh) {μ pc len tg nc : Nat} {lo : List (Option Value)} {st : List Value} {h : am_S} {Q : am_Q} {k : Nat} (hc : am_code G μ pc = some (.istore k, len, tg))
    (hF : am_go (am_PW G sh TS NS cl EX l) (am_PW G sh TS NS cl EX l) (am_op G sh μ pc len tg nc lo st h (.istore k)) Q) : am_PW G sh TS NS cl EX l (μ, pc, nc, lo, st, h) Q := by
  intro M hM p e s m args below meth cd H locs A ls ad ca D hB hE hK hP hD hS hA hl Qc XC hQ hX
  obtain ⟨hdec, hln, htg⟩ := am_code_spec hM hc
  obtain ⟨hx, hb, hr, hml, hown, hts, hns, hlocks, hnoex⟩ := id hB
  have go : ∀ (pc' nc' : Nat) (st' : List Value), am_PW G sh TS NS cl EX l (μ, pc', nc', lo, st', h) Q → W p l e M.2.2.2.2.2 s m args below meth cd H locs nc' (6 * nc') (vx_MQ below Qc XC args s M.2.2.2.2.2.cells M.2.2.2.2.2.slots A) (F0 m pc' ls (st'.map (am_cv ad))) :=
    fun pc' nc' st' k => k M hM p e s m args below meth cd H locs A ls ad ca D hB hE hK hP hD hS hA hl Qc XC hQ hX
  obtain rfl : len = 2 := by simpa [am_ln] using hln
  dsimp only [am_op] at hF
  split at hF
  · rename_i x r
    have hi := hF.1
    rw [am_ml_of hM] at hi
    exact lv_istore hx hb hdec hl.has hi rfl (fun ls' hl' => hF.2.1 trivial M hM p e s m args below meth cd H locs A ls' ad ca D hB hE hK hP hD hS hA (am_lo_s1 (v := .int x) hl hl') Qc XC hQ hX)
  · exact hF.elim

set_option maxHeartbeats 1000000 in
theorem am_r_lstore_n {G : am_G} {sh : List am_D} {TS NS : List Cond} {cl : List vw_C} {EX : (Nat → Prop) → State → Heap → Prop} {l : Launch} (hok : am_Ok G TS NS cl) (hsh : am_Sh cl sh) {μ pc len tg nc : Nat} {lo : List (Option Value)} {st : List Value} {h : am_S} {Q : am_Q} {k : Fin 4} (hc : am_code G μ pc = some (.lstore_n k, len, tg))
    (hF : am_go (am_PW G sh TS NS cl EX l) (am_PW G sh TS NS cl EX l) (am_op G sh μ pc len tg nc lo st h (.lstore_n k)) Q) : am_PW G sh TS NS cl EX l (μ, pc, nc, lo, st, h) Q := by
  intro M hM p e s m args below meth cd H locs A ls ad ca D hB hE hK hP hD hS hA hl Qc XC hQ hX
  obtain ⟨hdec, hln, htg⟩ := am_code_spec hM hc
  obtain ⟨hx, hb, hr, hml, hown, hts, hns, hlocks, hnoex⟩ := id hB
  have go : ∀ (pc' nc' : Nat) (st' : List Value), am_PW G sh TS NS cl EX l (μ, pc', nc', lo, st', h) Q → W p l e M.2.2.2.2.2 s m args below meth cd H locs nc' (6 * nc') (vx_MQ below Qc XC args s M.2.2.2.2.2.cells M.2.2.2.2.2.slots A) (F0 m pc' ls (st'.map (am_cv ad))) :=
    fun pc' nc' st' k => k M hM p e s m args below meth cd H locs A ls ad ca D hB hE hK hP hD hS hA hl Qc XC hQ hX
  obtain rfl : len = 1 := by simpa [am_ln] using hln
  dsimp only [am_op] at hF
  split at hF
  · rename_i x r
    have hi := hF.1
    rw [am_ml_of hM] at hi
    exact lv_lstore_n hx hb hdec rfl hl.has hi rfl (fun ls' hl' => hF.2.1 trivial M hM p e s m args below meth cd H locs A ls' ad ca D hB hE hK hP hD hS hA (am_lo_s2 (v := .long x) hl hl') Qc XC hQ hX)
  · exact hF.elim

set_option maxHeartbeats 1000000 in
theorem am_r_lstore {G : am_G} {sh : List am_D} {TS NS : List Cond} {cl : List vw_C} {EX : (Nat → Prop) → State → Heap → Prop} {l : Launch} (hok : am_Ok G TS NS cl) (hsh : am_Sh cl sh) {μ pc len tg nc : Nat} {lo : List (Option Value)} {st : List Value} {h : am_S} {Q : am_Q} {k : Nat} (hc : am_code G μ pc = some (.lstore k, len, tg))
    (hF : am_go (am_PW G sh TS NS cl EX l) (am_PW G sh TS NS cl EX l) (am_op G sh μ pc len tg nc lo st h (.lstore k)) Q) : am_PW G sh TS NS cl EX l (μ, pc, nc, lo, st, h) Q := by
  intro M hM p e s m args below meth cd H locs A ls ad ca D hB hE hK hP hD hS hA hl Qc XC hQ hX
  obtain ⟨hdec, hln, htg⟩ := am_code_spec hM hc
  obtain ⟨hx, hb, hr, hml, hown, hts, hns, hlocks, hnoex⟩ := id hB
  have go : ∀ (pc' nc' : Nat) (st' : List Value), am_PW G sh TS NS cl EX l (μ, pc', nc', lo, st', h) Q → W p l e M.2.2.2.2.2 s m args below meth cd H locs nc' (6 * nc') (vx_MQ below Qc XC args s M.2.2.2.2.2.cells M.2.2.2.2.2.slots A) (F0 m pc' ls (st'.map (am_cv ad))) :=
    fun pc' nc' st' k => k M hM p e s m args below meth cd H locs A ls ad ca D hB hE hK hP hD hS hA hl Qc XC hQ hX
  obtain rfl : len = 2 := by simpa [am_ln] using hln
  dsimp only [am_op] at hF
  split at hF
  · rename_i x r
    have hi := hF.1
    rw [am_ml_of hM] at hi
    exact lv_lstore hx hb hdec hl.has hi rfl (fun ls' hl' => hF.2.1 trivial M hM p e s m args below meth cd H locs A ls' ad ca D hB hE hK hP hD hS hA (am_lo_s2 (v := .long x) hl hl') Qc XC hQ hX)
  · exact hF.elim

set_option maxHeartbeats 1000000 in
theorem am_r_astore_n {G : am_G} {sh : List am_D} {TS NS : List Cond} {cl : List vw_C} {EX : (Nat → Prop) → State → Heap → Prop} {l : Launch} (hok : am_Ok G TS NS cl) (hsh : am_Sh cl sh) {μ pc len tg nc : Nat} {lo : List (Option Value)} {st : List Value} {h : am_S} {Q : am_Q} {k : Fin 4} (hc : am_code G μ pc = some (.astore_n k, len, tg))
    (hF : am_go (am_PW G sh TS NS cl EX l) (am_PW G sh TS NS cl EX l) (am_op G sh μ pc len tg nc lo st h (.astore_n k)) Q) : am_PW G sh TS NS cl EX l (μ, pc, nc, lo, st, h) Q := by
  intro M hM p e s m args below meth cd H locs A ls ad ca D hB hE hK hP hD hS hA hl Qc XC hQ hX
  obtain ⟨hdec, hln, htg⟩ := am_code_spec hM hc
  obtain ⟨hx, hb, hr, hml, hown, hts, hns, hlocks, hnoex⟩ := id hB
  have go : ∀ (pc' nc' : Nat) (st' : List Value), am_PW G sh TS NS cl EX l (μ, pc', nc', lo, st', h) Q → W p l e M.2.2.2.2.2 s m args below meth cd H locs nc' (6 * nc') (vx_MQ below Qc XC args s M.2.2.2.2.2.cells M.2.2.2.2.2.slots A) (F0 m pc' ls (st'.map (am_cv ad))) :=
    fun pc' nc' st' k => k M hM p e s m args below meth cd H locs A ls ad ca D hB hE hK hP hD hS hA hl Qc XC hQ hX
  obtain rfl : len = 1 := by simpa [am_ln] using hln
  dsimp only [am_op] at hF
  split at hF
  · rename_i x r
    have hi := hF.1
    rw [am_ml_of hM] at hi
    exact lv_astore_n hx hb hdec rfl hl.has hi rfl (fun ls' hl' => hF.2.1 trivial M hM p e s m args below meth cd H locs A ls' ad ca D hB hE hK hP hD hS hA (am_lo_s1 (v := .ref x) hl hl') Qc XC hQ hX)
  · exact hF.elim

set_option maxHeartbeats 1000000 in
theorem am_r_astore {G : am_G} {sh : List am_D} {TS NS : List Cond} {cl : List vw_C} {EX : (Nat → Prop) → State → Heap → Prop} {l : Launch} (hok : am_Ok G TS NS cl) (hsh : am_Sh cl sh) {μ pc len tg nc : Nat} {lo : List (Option Value)} {st : List Value} {h : am_S} {Q : am_Q} {k : Nat} (hc : am_code G μ pc = some (.astore k, len, tg))
    (hF : am_go (am_PW G sh TS NS cl EX l) (am_PW G sh TS NS cl EX l) (am_op G sh μ pc len tg nc lo st h (.astore k)) Q) : am_PW G sh TS NS cl EX l (μ, pc, nc, lo, st, h) Q := by
  intro M hM p e s m args below meth cd H locs A ls ad ca D hB hE hK hP hD hS hA hl Qc XC hQ hX
  obtain ⟨hdec, hln, htg⟩ := am_code_spec hM hc
  obtain ⟨hx, hb, hr, hml, hown, hts, hns, hlocks, hnoex⟩ := id hB
  have go : ∀ (pc' nc' : Nat) (st' : List Value), am_PW G sh TS NS cl EX l (μ, pc', nc', lo, st', h) Q → W p l e M.2.2.2.2.2 s m args below meth cd H locs nc' (6 * nc') (vx_MQ below Qc XC args s M.2.2.2.2.2.cells M.2.2.2.2.2.slots A) (F0 m pc' ls (st'.map (am_cv ad))) :=
    fun pc' nc' st' k => k M hM p e s m args below meth cd H locs A ls ad ca D hB hE hK hP hD hS hA hl Qc XC hQ hX
  obtain rfl : len = 2 := by simpa [am_ln] using hln
  dsimp only [am_op] at hF
  split at hF
  · rename_i x r
    have hi := hF.1
    rw [am_ml_of hM] at hi
    exact lv_astore hx hb hdec hl.has hi rfl (fun ls' hl' => hF.2.1 trivial M hM p e s m args below meth cd H locs A ls' ad ca D hB hE hK hP hD hS hA (am_lo_s1 (v := .ref x) hl hl') Qc XC hQ hX)
  · exact hF.elim

set_option maxHeartbeats 1000000 in
theorem am_r_iinc {G : am_G} {sh : List am_D} {TS NS : List Cond} {cl : List vw_C} {EX : (Nat → Prop) → State → Heap → Prop} {l : Launch} (hok : am_Ok G TS NS cl) (hsh : am_Sh cl sh) {μ pc len tg nc : Nat} {lo : List (Option Value)} {st : List Value} {h : am_S} {Q : am_Q} {k : Nat} {v : Int} (hc : am_code G μ pc = some (.iinc k v, len, tg))
    (hF : am_go (am_PW G sh TS NS cl EX l) (am_PW G sh TS NS cl EX l) (am_op G sh μ pc len tg nc lo st h (.iinc k v)) Q) : am_PW G sh TS NS cl EX l (μ, pc, nc, lo, st, h) Q := by
  intro M hM p e s m args below meth cd H locs A ls ad ca D hB hE hK hP hD hS hA hl Qc XC hQ hX
  obtain ⟨hdec, hln, htg⟩ := am_code_spec hM hc
  obtain ⟨hx, hb, hr, hml, hown, hts, hns, hlocks, hnoex⟩ := id hB
  have go : ∀ (pc' nc' : Nat) (st' : List Value), am_PW G sh TS NS cl EX l (μ, pc', nc', lo, st', h) Q → W p l e M.2.2.2.2.2 s m args below meth cd H locs nc' (6 * nc') (vx_MQ below Qc XC args s M.2.2.2.2.2.cells M.2.2.2.2.2.slots A) (F0 m pc' ls (st'.map (am_cv ad))) :=
    fun pc' nc' st' k => k M hM p e s m args below meth cd H locs A ls ad ca D hB hE hK hP hD hS hA hl Qc XC hQ hX
  obtain rfl : len = 3 := by simpa [am_ln] using hln
  dsimp only [am_op] at hF
  split at hF
  · rename_i x hv
    have hi := hF.1
    rw [am_ml_of hM] at hi
    obtain ⟨j, hj⟩ := List.getElem?_of_mem (am_pl_mem (ad := ad) hi hv)
    exact lv_iinc hx hb hdec hl.has hj rfl hi rfl (fun ls' hl' => hF.2.1 trivial M hM p e s m args below meth cd H locs A ls' ad ca D hB hE hK hP hD hS hA (am_lo_s1 (v := .int (x + Int32.ofInt v)) hl hl') Qc XC hQ hX)
  · exact hF.elim

set_option maxHeartbeats 1000000 in
theorem am_r_iadd {G : am_G} {sh : List am_D} {TS NS : List Cond} {cl : List vw_C} {EX : (Nat → Prop) → State → Heap → Prop} {l : Launch} (hok : am_Ok G TS NS cl) (hsh : am_Sh cl sh) {μ pc len tg nc : Nat} {lo : List (Option Value)} {st : List Value} {h : am_S} {Q : am_Q} (hc : am_code G μ pc = some (.iadd, len, tg))
    (hF : am_go (am_PW G sh TS NS cl EX l) (am_PW G sh TS NS cl EX l) (am_op G sh μ pc len tg nc lo st h (.iadd)) Q) : am_PW G sh TS NS cl EX l (μ, pc, nc, lo, st, h) Q := by
  intro M hM p e s m args below meth cd H locs A ls ad ca D hB hE hK hP hD hS hA hl Qc XC hQ hX
  obtain ⟨hdec, hln, htg⟩ := am_code_spec hM hc
  obtain ⟨hx, hb, hr, hml, hown, hts, hns, hlocks, hnoex⟩ := id hB
  have go : ∀ (pc' nc' : Nat) (st' : List Value), am_PW G sh TS NS cl EX l (μ, pc', nc', lo, st', h) Q → W p l e M.2.2.2.2.2 s m args below meth cd H locs nc' (6 * nc') (vx_MQ below Qc XC args s M.2.2.2.2.2.cells M.2.2.2.2.2.slots A) (F0 m pc' ls (st'.map (am_cv ad))) :=
    fun pc' nc' st' k => k M hM p e s m args below meth cd H locs A ls ad ca D hB hE hK hP hD hS hA hl Qc XC hQ hX
  obtain rfl : len = 1 := by simpa [am_ln] using hln
  dsimp only [am_op] at hF
  split at hF
  · exact lv_iadd hx hb hdec (go _ _ _ (hF.2.1 trivial))
  · exact hF.elim

set_option maxHeartbeats 1000000 in
theorem am_r_isub {G : am_G} {sh : List am_D} {TS NS : List Cond} {cl : List vw_C} {EX : (Nat → Prop) → State → Heap → Prop} {l : Launch} (hok : am_Ok G TS NS cl) (hsh : am_Sh cl sh) {μ pc len tg nc : Nat} {lo : List (Option Value)} {st : List Value} {h : am_S} {Q : am_Q} (hc : am_code G μ pc = some (.isub, len, tg))
    (hF : am_go (am_PW G sh TS NS cl EX l) (am_PW G sh TS NS cl EX l) (am_op G sh μ pc len tg nc lo st h (.isub)) Q) : am_PW G sh TS NS cl EX l (μ, pc, nc, lo, st, h) Q := by
  intro M hM p e s m args below meth cd H locs A ls ad ca D hB hE hK hP hD hS hA hl Qc XC hQ hX
  obtain ⟨hdec, hln, htg⟩ := am_code_spec hM hc
  obtain ⟨hx, hb, hr, hml, hown, hts, hns, hlocks, hnoex⟩ := id hB
  have go : ∀ (pc' nc' : Nat) (st' : List Value), am_PW G sh TS NS cl EX l (μ, pc', nc', lo, st', h) Q → W p l e M.2.2.2.2.2 s m args below meth cd H locs nc' (6 * nc') (vx_MQ below Qc XC args s M.2.2.2.2.2.cells M.2.2.2.2.2.slots A) (F0 m pc' ls (st'.map (am_cv ad))) :=
    fun pc' nc' st' k => k M hM p e s m args below meth cd H locs A ls ad ca D hB hE hK hP hD hS hA hl Qc XC hQ hX
  obtain rfl : len = 1 := by simpa [am_ln] using hln
  dsimp only [am_op] at hF
  split at hF
  · exact lv_isub hx hb hdec (go _ _ _ (hF.2.1 trivial))
  · exact hF.elim

set_option maxHeartbeats 1000000 in
theorem am_r_imul {G : am_G} {sh : List am_D} {TS NS : List Cond} {cl : List vw_C} {EX : (Nat → Prop) → State → Heap → Prop} {l : Launch} (hok : am_Ok G TS NS cl) (hsh : am_Sh cl sh) {μ pc len tg nc : Nat} {lo : List (Option Value)} {st : List Value} {h : am_S} {Q : am_Q} (hc : am_code G μ pc = some (.imul, len, tg))
    (hF : am_go (am_PW G sh TS NS cl EX l) (am_PW G sh TS NS cl EX l) (am_op G sh μ pc len tg nc lo st h (.imul)) Q) : am_PW G sh TS NS cl EX l (μ, pc, nc, lo, st, h) Q := by
  intro M hM p e s m args below meth cd H locs A ls ad ca D hB hE hK hP hD hS hA hl Qc XC hQ hX
  obtain ⟨hdec, hln, htg⟩ := am_code_spec hM hc
  obtain ⟨hx, hb, hr, hml, hown, hts, hns, hlocks, hnoex⟩ := id hB
  have go : ∀ (pc' nc' : Nat) (st' : List Value), am_PW G sh TS NS cl EX l (μ, pc', nc', lo, st', h) Q → W p l e M.2.2.2.2.2 s m args below meth cd H locs nc' (6 * nc') (vx_MQ below Qc XC args s M.2.2.2.2.2.cells M.2.2.2.2.2.slots A) (F0 m pc' ls (st'.map (am_cv ad))) :=
    fun pc' nc' st' k => k M hM p e s m args below meth cd H locs A ls ad ca D hB hE hK hP hD hS hA hl Qc XC hQ hX
  obtain rfl : len = 1 := by simpa [am_ln] using hln
  dsimp only [am_op] at hF
  split at hF
  · exact lv_imul hx hb hdec (go _ _ _ (hF.2.1 trivial))
  · exact hF.elim

set_option maxHeartbeats 1000000 in
theorem am_r_iand {G : am_G} {sh : List am_D} {TS NS : List Cond} {cl : List vw_C} {EX : (Nat → Prop) → State → Heap → Prop} {l : Launch} (hok : am_Ok G TS NS cl) (hsh : am_Sh cl sh) {μ pc len tg nc : Nat} {lo : List (Option Value)} {st : List Value} {h : am_S} {Q : am_Q} (hc : am_code G μ pc = some (.iand, len, tg))
    (hF : am_go (am_PW G sh TS NS cl EX l) (am_PW G sh TS NS cl EX l) (am_op G sh μ pc len tg nc lo st h (.iand)) Q) : am_PW G sh TS NS cl EX l (μ, pc, nc, lo, st, h) Q := by
  intro M hM p e s m args below meth cd H locs A ls ad ca D hB hE hK hP hD hS hA hl Qc XC hQ hX
  obtain ⟨hdec, hln, htg⟩ := am_code_spec hM hc
  obtain ⟨hx, hb, hr, hml, hown, hts, hns, hlocks, hnoex⟩ := id hB
  have go : ∀ (pc' nc' : Nat) (st' : List Value), am_PW G sh TS NS cl EX l (μ, pc', nc', lo, st', h) Q → W p l e M.2.2.2.2.2 s m args below meth cd H locs nc' (6 * nc') (vx_MQ below Qc XC args s M.2.2.2.2.2.cells M.2.2.2.2.2.slots A) (F0 m pc' ls (st'.map (am_cv ad))) :=
    fun pc' nc' st' k => k M hM p e s m args below meth cd H locs A ls ad ca D hB hE hK hP hD hS hA hl Qc XC hQ hX
  obtain rfl : len = 1 := by simpa [am_ln] using hln
  dsimp only [am_op] at hF
  split at hF
  · exact lv_iand hx hb hdec (go _ _ _ (hF.2.1 trivial))
  · exact hF.elim

set_option maxHeartbeats 1000000 in
theorem am_r_ixor {G : am_G} {sh : List am_D} {TS NS : List Cond} {cl : List vw_C} {EX : (Nat → Prop) → State → Heap → Prop} {l : Launch} (hok : am_Ok G TS NS cl) (hsh : am_Sh cl sh) {μ pc len tg nc : Nat} {lo : List (Option Value)} {st : List Value} {h : am_S} {Q : am_Q} (hc : am_code G μ pc = some (.ixor, len, tg))
    (hF : am_go (am_PW G sh TS NS cl EX l) (am_PW G sh TS NS cl EX l) (am_op G sh μ pc len tg nc lo st h (.ixor)) Q) : am_PW G sh TS NS cl EX l (μ, pc, nc, lo, st, h) Q := by
  intro M hM p e s m args below meth cd H locs A ls ad ca D hB hE hK hP hD hS hA hl Qc XC hQ hX
  obtain ⟨hdec, hln, htg⟩ := am_code_spec hM hc
  obtain ⟨hx, hb, hr, hml, hown, hts, hns, hlocks, hnoex⟩ := id hB
  have go : ∀ (pc' nc' : Nat) (st' : List Value), am_PW G sh TS NS cl EX l (μ, pc', nc', lo, st', h) Q → W p l e M.2.2.2.2.2 s m args below meth cd H locs nc' (6 * nc') (vx_MQ below Qc XC args s M.2.2.2.2.2.cells M.2.2.2.2.2.slots A) (F0 m pc' ls (st'.map (am_cv ad))) :=
    fun pc' nc' st' k => k M hM p e s m args below meth cd H locs A ls ad ca D hB hE hK hP hD hS hA hl Qc XC hQ hX
  obtain rfl : len = 1 := by simpa [am_ln] using hln
  dsimp only [am_op] at hF
  split at hF
  · exact lv_ixor hx hb hdec (go _ _ _ (hF.2.1 trivial))
  · exact hF.elim

set_option maxHeartbeats 1000000 in
theorem am_r_ladd {G : am_G} {sh : List am_D} {TS NS : List Cond} {cl : List vw_C} {EX : (Nat → Prop) → State → Heap → Prop} {l : Launch} (hok : am_Ok G TS NS cl) (hsh : am_Sh cl sh) {μ pc len tg nc : Nat} {lo : List (Option Value)} {st : List Value} {h : am_S} {Q : am_Q} (hc : am_code G μ pc = some (.ladd, len, tg))
    (hF : am_go (am_PW G sh TS NS cl EX l) (am_PW G sh TS NS cl EX l) (am_op G sh μ pc len tg nc lo st h (.ladd)) Q) : am_PW G sh TS NS cl EX l (μ, pc, nc, lo, st, h) Q := by
  intro M hM p e s m args below meth cd H locs A ls ad ca D hB hE hK hP hD hS hA hl Qc XC hQ hX
  obtain ⟨hdec, hln, htg⟩ := am_code_spec hM hc
  obtain ⟨hx, hb, hr, hml, hown, hts, hns, hlocks, hnoex⟩ := id hB
  have go : ∀ (pc' nc' : Nat) (st' : List Value), am_PW G sh TS NS cl EX l (μ, pc', nc', lo, st', h) Q → W p l e M.2.2.2.2.2 s m args below meth cd H locs nc' (6 * nc') (vx_MQ below Qc XC args s M.2.2.2.2.2.cells M.2.2.2.2.2.slots A) (F0 m pc' ls (st'.map (am_cv ad))) :=
    fun pc' nc' st' k => k M hM p e s m args below meth cd H locs A ls ad ca D hB hE hK hP hD hS hA hl Qc XC hQ hX
  obtain rfl : len = 1 := by simpa [am_ln] using hln
  dsimp only [am_op] at hF
  split at hF
  · exact lv_ladd hx hb hdec (go _ _ _ (hF.2.1 trivial))
  · exact hF.elim

set_option maxHeartbeats 1000000 in
theorem am_r_irem {G : am_G} {sh : List am_D} {TS NS : List Cond} {cl : List vw_C} {EX : (Nat → Prop) → State → Heap → Prop} {l : Launch} (hok : am_Ok G TS NS cl) (hsh : am_Sh cl sh) {μ pc len tg nc : Nat} {lo : List (Option Value)} {st : List Value} {h : am_S} {Q : am_Q} (hc : am_code G μ pc = some (.irem, len, tg))
    (hF : am_go (am_PW G sh TS NS cl EX l) (am_PW G sh TS NS cl EX l) (am_op G sh μ pc len tg nc lo st h (.irem)) Q) : am_PW G sh TS NS cl EX l (μ, pc, nc, lo, st, h) Q := by
  intro M hM p e s m args below meth cd H locs A ls ad ca D hB hE hK hP hD hS hA hl Qc XC hQ hX
  obtain ⟨hdec, hln, htg⟩ := am_code_spec hM hc
  obtain ⟨hx, hb, hr, hml, hown, hts, hns, hlocks, hnoex⟩ := id hB
  have go : ∀ (pc' nc' : Nat) (st' : List Value), am_PW G sh TS NS cl EX l (μ, pc', nc', lo, st', h) Q → W p l e M.2.2.2.2.2 s m args below meth cd H locs nc' (6 * nc') (vx_MQ below Qc XC args s M.2.2.2.2.2.cells M.2.2.2.2.2.slots A) (F0 m pc' ls (st'.map (am_cv ad))) :=
    fun pc' nc' st' k => k M hM p e s m args below meth cd H locs A ls ad ca D hB hE hK hP hD hS hA hl Qc XC hQ hX
  obtain rfl : len = 1 := by simpa [am_ln] using hln
  dsimp only [am_op] at hF
  split at hF
  · exact lv_irem hx hb hdec hF.1 (go _ _ _ (hF.2.1 trivial))
  · exact hF.elim

set_option maxHeartbeats 1000000 in
theorem am_r_i2l {G : am_G} {sh : List am_D} {TS NS : List Cond} {cl : List vw_C} {EX : (Nat → Prop) → State → Heap → Prop} {l : Launch} (hok : am_Ok G TS NS cl) (hsh : am_Sh cl sh) {μ pc len tg nc : Nat} {lo : List (Option Value)} {st : List Value} {h : am_S} {Q : am_Q} (hc : am_code G μ pc = some (.i2l, len, tg))
    (hF : am_go (am_PW G sh TS NS cl EX l) (am_PW G sh TS NS cl EX l) (am_op G sh μ pc len tg nc lo st h (.i2l)) Q) : am_PW G sh TS NS cl EX l (μ, pc, nc, lo, st, h) Q := by
  intro M hM p e s m args below meth cd H locs A ls ad ca D hB hE hK hP hD hS hA hl Qc XC hQ hX
  obtain ⟨hdec, hln, htg⟩ := am_code_spec hM hc
  obtain ⟨hx, hb, hr, hml, hown, hts, hns, hlocks, hnoex⟩ := id hB
  have go : ∀ (pc' nc' : Nat) (st' : List Value), am_PW G sh TS NS cl EX l (μ, pc', nc', lo, st', h) Q → W p l e M.2.2.2.2.2 s m args below meth cd H locs nc' (6 * nc') (vx_MQ below Qc XC args s M.2.2.2.2.2.cells M.2.2.2.2.2.slots A) (F0 m pc' ls (st'.map (am_cv ad))) :=
    fun pc' nc' st' k => k M hM p e s m args below meth cd H locs A ls ad ca D hB hE hK hP hD hS hA hl Qc XC hQ hX
  obtain rfl : len = 1 := by simpa [am_ln] using hln
  dsimp only [am_op] at hF
  split at hF
  · exact lv_i2l hx hb hdec rfl (go _ _ _ (hF.2.1 trivial))
  · exact hF.elim

set_option maxHeartbeats 1000000 in
theorem am_r_l2i {G : am_G} {sh : List am_D} {TS NS : List Cond} {cl : List vw_C} {EX : (Nat → Prop) → State → Heap → Prop} {l : Launch} (hok : am_Ok G TS NS cl) (hsh : am_Sh cl sh) {μ pc len tg nc : Nat} {lo : List (Option Value)} {st : List Value} {h : am_S} {Q : am_Q} (hc : am_code G μ pc = some (.l2i, len, tg))
    (hF : am_go (am_PW G sh TS NS cl EX l) (am_PW G sh TS NS cl EX l) (am_op G sh μ pc len tg nc lo st h (.l2i)) Q) : am_PW G sh TS NS cl EX l (μ, pc, nc, lo, st, h) Q := by
  intro M hM p e s m args below meth cd H locs A ls ad ca D hB hE hK hP hD hS hA hl Qc XC hQ hX
  obtain ⟨hdec, hln, htg⟩ := am_code_spec hM hc
  obtain ⟨hx, hb, hr, hml, hown, hts, hns, hlocks, hnoex⟩ := id hB
  have go : ∀ (pc' nc' : Nat) (st' : List Value), am_PW G sh TS NS cl EX l (μ, pc', nc', lo, st', h) Q → W p l e M.2.2.2.2.2 s m args below meth cd H locs nc' (6 * nc') (vx_MQ below Qc XC args s M.2.2.2.2.2.cells M.2.2.2.2.2.slots A) (F0 m pc' ls (st'.map (am_cv ad))) :=
    fun pc' nc' st' k => k M hM p e s m args below meth cd H locs A ls ad ca D hB hE hK hP hD hS hA hl Qc XC hQ hX
  obtain rfl : len = 1 := by simpa [am_ln] using hln
  dsimp only [am_op] at hF
  split at hF
  · exact lv_l2i hx hb hdec rfl (go _ _ _ (hF.2.1 trivial))
  · exact hF.elim

set_option maxHeartbeats 1000000 in
theorem am_r_dup {G : am_G} {sh : List am_D} {TS NS : List Cond} {cl : List vw_C} {EX : (Nat → Prop) → State → Heap → Prop} {l : Launch} (hok : am_Ok G TS NS cl) (hsh : am_Sh cl sh) {μ pc len tg nc : Nat} {lo : List (Option Value)} {st : List Value} {h : am_S} {Q : am_Q} (hc : am_code G μ pc = some (.dup, len, tg))
    (hF : am_go (am_PW G sh TS NS cl EX l) (am_PW G sh TS NS cl EX l) (am_op G sh μ pc len tg nc lo st h (.dup)) Q) : am_PW G sh TS NS cl EX l (μ, pc, nc, lo, st, h) Q := by
  intro M hM p e s m args below meth cd H locs A ls ad ca D hB hE hK hP hD hS hA hl Qc XC hQ hX
  obtain ⟨hdec, hln, htg⟩ := am_code_spec hM hc
  obtain ⟨hx, hb, hr, hml, hown, hts, hns, hlocks, hnoex⟩ := id hB
  have go : ∀ (pc' nc' : Nat) (st' : List Value), am_PW G sh TS NS cl EX l (μ, pc', nc', lo, st', h) Q → W p l e M.2.2.2.2.2 s m args below meth cd H locs nc' (6 * nc') (vx_MQ below Qc XC args s M.2.2.2.2.2.cells M.2.2.2.2.2.slots A) (F0 m pc' ls (st'.map (am_cv ad))) :=
    fun pc' nc' st' k => k M hM p e s m args below meth cd H locs A ls ad ca D hB hE hK hP hD hS hA hl Qc XC hQ hX
  obtain rfl : len = 1 := by simpa [am_ln] using hln
  dsimp only [am_op] at hF
  split at hF
  · exact lv_dup hx hb hdec (by rw [am_cv_cat]; exact hF.1) (go _ _ _ (hF.2.1 trivial))
  · exact hF.elim

set_option maxHeartbeats 1000000 in
theorem am_r_pop {G : am_G} {sh : List am_D} {TS NS : List Cond} {cl : List vw_C} {EX : (Nat → Prop) → State → Heap → Prop} {l : Launch} (hok : am_Ok G TS NS cl) (hsh : am_Sh cl sh) {μ pc len tg nc : Nat} {lo : List (Option Value)} {st : List Value} {h : am_S} {Q : am_Q} (hc : am_code G μ pc = some (.pop, len, tg))
    (hF : am_go (am_PW G sh TS NS cl EX l) (am_PW G sh TS NS cl EX l) (am_op G sh μ pc len tg nc lo st h (.pop)) Q) : am_PW G sh TS NS cl EX l (μ, pc, nc, lo, st, h) Q := by
  intro M hM p e s m args below meth cd H locs A ls ad ca D hB hE hK hP hD hS hA hl Qc XC hQ hX
  obtain ⟨hdec, hln, htg⟩ := am_code_spec hM hc
  obtain ⟨hx, hb, hr, hml, hown, hts, hns, hlocks, hnoex⟩ := id hB
  have go : ∀ (pc' nc' : Nat) (st' : List Value), am_PW G sh TS NS cl EX l (μ, pc', nc', lo, st', h) Q → W p l e M.2.2.2.2.2 s m args below meth cd H locs nc' (6 * nc') (vx_MQ below Qc XC args s M.2.2.2.2.2.cells M.2.2.2.2.2.slots A) (F0 m pc' ls (st'.map (am_cv ad))) :=
    fun pc' nc' st' k => k M hM p e s m args below meth cd H locs A ls ad ca D hB hE hK hP hD hS hA hl Qc XC hQ hX
  obtain rfl : len = 1 := by simpa [am_ln] using hln
  dsimp only [am_op] at hF
  split at hF
  · exact lv_pop hx hb hdec (by rw [am_cv_cat]; exact hF.1) (go _ _ _ (hF.2.1 trivial))
  · exact hF.elim

set_option maxHeartbeats 1000000 in
theorem am_r_dup2 {G : am_G} {sh : List am_D} {TS NS : List Cond} {cl : List vw_C} {EX : (Nat → Prop) → State → Heap → Prop} {l : Launch} (hok : am_Ok G TS NS cl) (hsh : am_Sh cl sh) {μ pc len tg nc : Nat} {lo : List (Option Value)} {st : List Value} {h : am_S} {Q : am_Q} (hc : am_code G μ pc = some (.dup2, len, tg))
    (hF : am_go (am_PW G sh TS NS cl EX l) (am_PW G sh TS NS cl EX l) (am_op G sh μ pc len tg nc lo st h (.dup2)) Q) : am_PW G sh TS NS cl EX l (μ, pc, nc, lo, st, h) Q := by
  intro M hM p e s m args below meth cd H locs A ls ad ca D hB hE hK hP hD hS hA hl Qc XC hQ hX
  obtain ⟨hdec, hln, htg⟩ := am_code_spec hM hc
  obtain ⟨hx, hb, hr, hml, hown, hts, hns, hlocks, hnoex⟩ := id hB
  have go : ∀ (pc' nc' : Nat) (st' : List Value), am_PW G sh TS NS cl EX l (μ, pc', nc', lo, st', h) Q → W p l e M.2.2.2.2.2 s m args below meth cd H locs nc' (6 * nc') (vx_MQ below Qc XC args s M.2.2.2.2.2.cells M.2.2.2.2.2.slots A) (F0 m pc' ls (st'.map (am_cv ad))) :=
    fun pc' nc' st' k => k M hM p e s m args below meth cd H locs A ls ad ca D hB hE hK hP hD hS hA hl Qc XC hQ hX
  obtain rfl : len = 1 := by simpa [am_ln] using hln
  dsimp only [am_op] at hF
  split at hF
  · exact lv_dup2_11 hx hb hdec (by rw [am_cv_cat]; exact hF.1.1) (by rw [am_cv_cat]; exact hF.1.2) (go _ _ _ (hF.2.1 trivial))
  · exact hF.elim

set_option maxHeartbeats 1000000 in
theorem am_r_dup_x1 {G : am_G} {sh : List am_D} {TS NS : List Cond} {cl : List vw_C} {EX : (Nat → Prop) → State → Heap → Prop} {l : Launch} (hok : am_Ok G TS NS cl) (hsh : am_Sh cl sh) {μ pc len tg nc : Nat} {lo : List (Option Value)} {st : List Value} {h : am_S} {Q : am_Q} (hc : am_code G μ pc = some (.dup_x1, len, tg))
    (hF : am_go (am_PW G sh TS NS cl EX l) (am_PW G sh TS NS cl EX l) (am_op G sh μ pc len tg nc lo st h (.dup_x1)) Q) : am_PW G sh TS NS cl EX l (μ, pc, nc, lo, st, h) Q := by
  intro M hM p e s m args below meth cd H locs A ls ad ca D hB hE hK hP hD hS hA hl Qc XC hQ hX
  obtain ⟨hdec, hln, htg⟩ := am_code_spec hM hc
  obtain ⟨hx, hb, hr, hml, hown, hts, hns, hlocks, hnoex⟩ := id hB
  have go : ∀ (pc' nc' : Nat) (st' : List Value), am_PW G sh TS NS cl EX l (μ, pc', nc', lo, st', h) Q → W p l e M.2.2.2.2.2 s m args below meth cd H locs nc' (6 * nc') (vx_MQ below Qc XC args s M.2.2.2.2.2.cells M.2.2.2.2.2.slots A) (F0 m pc' ls (st'.map (am_cv ad))) :=
    fun pc' nc' st' k => k M hM p e s m args below meth cd H locs A ls ad ca D hB hE hK hP hD hS hA hl Qc XC hQ hX
  obtain rfl : len = 1 := by simpa [am_ln] using hln
  dsimp only [am_op] at hF
  split at hF
  · exact lv_dup_x1 hx hb hdec (by rw [am_cv_cat]; exact hF.1.1) (by rw [am_cv_cat]; exact hF.1.2) (go _ _ _ (hF.2.1 trivial))
  · exact hF.elim

set_option maxHeartbeats 1000000 in
theorem am_r_goto {G : am_G} {sh : List am_D} {TS NS : List Cond} {cl : List vw_C} {EX : (Nat → Prop) → State → Heap → Prop} {l : Launch} (hok : am_Ok G TS NS cl) (hsh : am_Sh cl sh) {μ pc len tg nc : Nat} {lo : List (Option Value)} {st : List Value} {h : am_S} {Q : am_Q} {off : Int} (hc : am_code G μ pc = some (.goto off, len, tg))
    (hF : am_go (am_PW G sh TS NS cl EX l) (am_PW G sh TS NS cl EX l) (am_op G sh μ pc len tg nc lo st h (.goto off)) Q) : am_PW G sh TS NS cl EX l (μ, pc, nc, lo, st, h) Q := by
  intro M hM p e s m args below meth cd H locs A ls ad ca D hB hE hK hP hD hS hA hl Qc XC hQ hX
  obtain ⟨hdec, hln, htg⟩ := am_code_spec hM hc
  obtain ⟨hx, hb, hr, hml, hown, hts, hns, hlocks, hnoex⟩ := id hB
  have go : ∀ (pc' nc' : Nat) (st' : List Value), am_PW G sh TS NS cl EX l (μ, pc', nc', lo, st', h) Q → W p l e M.2.2.2.2.2 s m args below meth cd H locs nc' (6 * nc') (vx_MQ below Qc XC args s M.2.2.2.2.2.cells M.2.2.2.2.2.slots A) (F0 m pc' ls (st'.map (am_cv ad))) :=
    fun pc' nc' st' k => k M hM p e s m args below meth cd H locs A ls ad ca D hB hE hK hP hD hS hA hl Qc XC hQ hX
  obtain rfl : len = 3 := by simpa [am_ln] using hln
  exact lv_goto hx hb hdec (am_nn_spec htg) (go _ _ _ (hF.2.1 trivial))

set_option maxHeartbeats 1000000 in
theorem am_r_ifCond {G : am_G} {sh : List am_D} {TS NS : List Cond} {cl : List vw_C} {EX : (Nat → Prop) → State → Heap → Prop} {l : Launch} (hok : am_Ok G TS NS cl) (hsh : am_Sh cl sh) {μ pc len tg nc : Nat} {lo : List (Option Value)} {st : List Value} {h : am_S} {Q : am_Q} {cc : ClassFile.Cond} {off : Int} (hc : am_code G μ pc = some (.ifCond cc off, len, tg))
    (hF : am_go (am_PW G sh TS NS cl EX l) (am_PW G sh TS NS cl EX l) (am_op G sh μ pc len tg nc lo st h (.ifCond cc off)) Q) : am_PW G sh TS NS cl EX l (μ, pc, nc, lo, st, h) Q := by
  intro M hM p e s m args below meth cd H locs A ls ad ca D hB hE hK hP hD hS hA hl Qc XC hQ hX
  obtain ⟨hdec, hln, htg⟩ := am_code_spec hM hc
  obtain ⟨hx, hb, hr, hml, hown, hts, hns, hlocks, hnoex⟩ := id hB
  have go : ∀ (pc' nc' : Nat) (st' : List Value), am_PW G sh TS NS cl EX l (μ, pc', nc', lo, st', h) Q → W p l e M.2.2.2.2.2 s m args below meth cd H locs nc' (6 * nc') (vx_MQ below Qc XC args s M.2.2.2.2.2.cells M.2.2.2.2.2.slots A) (F0 m pc' ls (st'.map (am_cv ad))) :=
    fun pc' nc' st' k => k M hM p e s m args below meth cd H locs A ls ad ca D hB hE hK hP hD hS hA hl Qc XC hQ hX
  obtain rfl : len = 3 := by simpa [am_ln] using hln
  dsimp only [am_op] at hF
  split at hF
  · cases cc with
    | eq => exact lv_if_eq hx hb hdec (am_nn_spec htg) (fun q => go _ _ _ (hF.2.1 q)) (fun q => go _ _ _ (hF.2.2.1 q))
    | ne => exact lv_if_ne hx hb hdec (am_nn_spec htg) (fun q => go _ _ _ (hF.2.1 q)) (fun q => go _ _ _ (hF.2.2.1 q))
    | lt => exact lv_if_lt hx hb hdec (am_nn_spec htg) (fun q => go _ _ _ (hF.2.1 q)) (fun q => go _ _ _ (hF.2.2.1 q))
    | ge => exact lv_if_ge hx hb hdec (am_nn_spec htg) (fun q => go _ _ _ (hF.2.1 q)) (fun q => go _ _ _ (hF.2.2.1 q))
    | gt => exact lv_if_gt hx hb hdec (am_nn_spec htg) (fun q => go _ _ _ (hF.2.1 q)) (fun q => go _ _ _ (hF.2.2.1 q))
    | le => exact lv_if_le hx hb hdec (am_nn_spec htg) (fun q => go _ _ _ (hF.2.1 q)) (fun q => go _ _ _ (hF.2.2.1 q))
  · exact hF.elim

set_option maxHeartbeats 1000000 in
theorem am_r_if_icmp {G : am_G} {sh : List am_D} {TS NS : List Cond} {cl : List vw_C} {EX : (Nat → Prop) → State → Heap → Prop} {l : Launch} (hok : am_Ok G TS NS cl) (hsh : am_Sh cl sh) {μ pc len tg nc : Nat} {lo : List (Option Value)} {st : List Value} {h : am_S} {Q : am_Q} {cc : ClassFile.Cond} {off : Int} (hc : am_code G μ pc = some (.if_icmp cc off, len, tg))
    (hF : am_go (am_PW G sh TS NS cl EX l) (am_PW G sh TS NS cl EX l) (am_op G sh μ pc len tg nc lo st h (.if_icmp cc off)) Q) : am_PW G sh TS NS cl EX l (μ, pc, nc, lo, st, h) Q := by
  intro M hM p e s m args below meth cd H locs A ls ad ca D hB hE hK hP hD hS hA hl Qc XC hQ hX
  obtain ⟨hdec, hln, htg⟩ := am_code_spec hM hc
  obtain ⟨hx, hb, hr, hml, hown, hts, hns, hlocks, hnoex⟩ := id hB
  have go : ∀ (pc' nc' : Nat) (st' : List Value), am_PW G sh TS NS cl EX l (μ, pc', nc', lo, st', h) Q → W p l e M.2.2.2.2.2 s m args below meth cd H locs nc' (6 * nc') (vx_MQ below Qc XC args s M.2.2.2.2.2.cells M.2.2.2.2.2.slots A) (F0 m pc' ls (st'.map (am_cv ad))) :=
    fun pc' nc' st' k => k M hM p e s m args below meth cd H locs A ls ad ca D hB hE hK hP hD hS hA hl Qc XC hQ hX
  obtain rfl : len = 3 := by simpa [am_ln] using hln
  dsimp only [am_op] at hF
  split at hF
  · cases cc with
    | eq => exact lv_icmp_eq hx hb hdec (am_nn_spec htg) (fun q => go _ _ _ (hF.2.1 q)) (fun q => go _ _ _ (hF.2.2.1 q))
    | ne => exact lv_icmp_ne hx hb hdec (am_nn_spec htg) (fun q => go _ _ _ (hF.2.1 q)) (fun q => go _ _ _ (hF.2.2.1 q))
    | lt => exact lv_icmp_lt hx hb hdec (am_nn_spec htg) (fun q => go _ _ _ (hF.2.1 q)) (fun q => go _ _ _ (hF.2.2.1 q))
    | ge => exact lv_icmp_ge hx hb hdec (am_nn_spec htg) (fun q => go _ _ _ (hF.2.1 q)) (fun q => go _ _ _ (hF.2.2.1 q))
    | gt => exact lv_icmp_gt hx hb hdec (am_nn_spec htg) (fun q => go _ _ _ (hF.2.1 q)) (fun q => go _ _ _ (hF.2.2.1 q))
    | le => exact lv_icmp_le hx hb hdec (am_nn_spec htg) (fun q => go _ _ _ (hF.2.1 q)) (fun q => go _ _ _ (hF.2.2.1 q))
  · exact hF.elim

set_option maxHeartbeats 1000000 in
theorem am_r_getfield {G : am_G} {sh : List am_D} {TS NS : List Cond} {cl : List vw_C} {EX : (Nat → Prop) → State → Heap → Prop} {l : Launch} (hok : am_Ok G TS NS cl) (hsh : am_Sh cl sh) {μ pc len tg nc : Nat} {lo : List (Option Value)} {st : List Value} {h : am_S} {Q : am_Q} {ix : Nat} (hc : am_code G μ pc = some (.getfield ix, len, tg))
    (hF : am_go (am_PW G sh TS NS cl EX l) (am_PW G sh TS NS cl EX l) (am_op G sh μ pc len tg nc lo st h (.getfield ix)) Q) : am_PW G sh TS NS cl EX l (μ, pc, nc, lo, st, h) Q := by
  intro M hM p e s m args below meth cd H locs A ls ad ca D hB hE hK hP hD hS hA hl Qc XC hQ hX
  obtain ⟨hdec, hln, htg⟩ := am_code_spec hM hc
  obtain ⟨hx, hb, hr, hml, hown, hts, hns, hlocks, hnoex⟩ := id hB
  have go : ∀ (pc' nc' : Nat) (st' : List Value), am_PW G sh TS NS cl EX l (μ, pc', nc', lo, st', h) Q → W p l e M.2.2.2.2.2 s m args below meth cd H locs nc' (6 * nc') (vx_MQ below Qc XC args s M.2.2.2.2.2.cells M.2.2.2.2.2.slots A) (F0 m pc' ls (st'.map (am_cv ad))) :=
    fun pc' nc' st' k => k M hM p e s m args below meth cd H locs A ls ad ca D hB hE hK hP hD hS hA hl Qc XC hQ hX
  obtain rfl : len = 3 := by simpa [am_ln] using hln
  dsimp only [am_op] at hF
  split at hF
  · rename_i ci k hfl
    obtain ⟨C, T, N, ty, hcl, hkN, hTC, hin, hty, hnm, hlink⟩ := hok.2.2.1 μ M ix ci k hM hfl
    split at hF
    · rename_i o r
      split at hF
      · rename_i cj fs hso
        split at hF
        · rename_i q hq
          obtain rfl : ci = cj := hF.1
          have hq2 : (fs.map (am_fv ad h.1))[k]? = some (am_fv ad h.1 (.inl q)) := by rw [List.getElem?_map, hq]; rfl
          rcases hlink with hlk | ⟨host, hlk⟩
          · exact va_get (D := D) (ci := ci) (C := C) (T := T) (N := N) hx hb hts hin hown hK hP o (am_W_get hso) hcl k hkN (hts _ hlk) (fun x9 h9 => by rw [hTC] at h9; exact h9) hq2 hdec (go _ _ _ (hF.2.1 trivial))
          · exact va_getN (D := D) (ci := ci) (C := C) (T := T) (N := N) (host := host) hx hb hts hin hown hK hP o (am_W_get hso) hcl k hkN (va_Nw.use rfl (hns _ hlk)) (fun x9 h9 => by rw [hTC] at h9; exact h9) hq2 hdec (go _ _ _ (hF.2.1 trivial))
        · rename_i q hq
          obtain rfl : ci = cj := hF.1
          have hq2 : (fs.map (am_fv ad h.1))[k]? = some (am_fv ad h.1 (.inr q)) := by rw [List.getElem?_map, hq]; rfl
          rcases hlink with hlk | ⟨host, hlk⟩
          · exact va_get (D := D) (ci := ci) (C := C) (T := T) (N := N) hx hb hts hin hown hK hP o (am_W_get hso) hcl k hkN (hts _ hlk) (fun x9 h9 => by rw [hTC] at h9; exact h9) hq2 hdec (go _ _ _ (hF.2.1 trivial))
          · exact va_getN (D := D) (ci := ci) (C := C) (T := T) (N := N) (host := host) hx hb hts hin hown hK hP o (am_W_get hso) hcl k hkN (va_Nw.use rfl (hns _ hlk)) (fun x9 h9 => by rw [hTC] at h9; exact h9) hq2 hdec (go _ _ _ (hF.2.1 trivial))
        · exact hF.elim
      · exact hF.elim
    · exact hF.elim
  · exact hF.elim

set_option maxHeartbeats 1000000 in
theorem am_r_putfield {G : am_G} {sh : List am_D} {TS NS : List Cond} {cl : List vw_C} {EX : (Nat → Prop) → State → Heap → Prop} {l : Launch} (hok : am_Ok G TS NS cl) (hsh : am_Sh cl sh) {μ pc len tg nc : Nat} {lo : List (Option Value)} {st : List Value} {h : am_S} {Q : am_Q} {ix : Nat} (hc : am_code G μ pc = some (.putfield ix, len, tg))
    (hF : am_go (am_PW G sh TS NS cl EX l) (am_PW G sh TS NS cl EX l) (am_op G sh μ pc len tg nc lo st h (.putfield ix)) Q) : am_PW G sh TS NS cl EX l (μ, pc, nc, lo, st, h) Q := by
  intro M hM p e s m args below meth cd H locs A ls ad ca D hB hE hK hP hD hS hA hl Qc XC hQ hX
  obtain ⟨hdec, hln, htg⟩ := am_code_spec hM hc
  obtain ⟨hx, hb, hr, hml, hown, hts, hns, hlocks, hnoex⟩ := id hB
  have go : ∀ (pc' nc' : Nat) (st' : List Value), am_PW G sh TS NS cl EX l (μ, pc', nc', lo, st', h) Q → W p l e M.2.2.2.2.2 s m args below meth cd H locs nc' (6 * nc') (vx_MQ below Qc XC args s M.2.2.2.2.2.cells M.2.2.2.2.2.slots A) (F0 m pc' ls (st'.map (am_cv ad))) :=
    fun pc' nc' st' k => k M hM p e s m args below meth cd H locs A ls ad ca D hB hE hK hP hD hS hA hl Qc XC hQ hX
  obtain rfl : len = 3 := by simpa [am_ln] using hln
  dsimp only [am_op] at hF
  split at hF
  · rename_i ci k hfl
    obtain ⟨C, T, N, ty, hcl, hkN, hTC, hin, hty, hnm, hlink⟩ := hok.2.2.1 μ M ix ci k hM hfl
    split at hF
    · rename_i x o r
      split at hF
      · rename_i cj fs hso
        split at hF
        · rename_i j hq
          obtain rfl : ci = cj := hF.1
          have hfs := (hsh.2 o ci fs hso C T N hcl).2 k j hq
          rcases hlink with hlk | ⟨host, hlk⟩
          · exact va_put (D := D) (ci := ci) (v := .int x) (ty := .int) (C := C) (T := T) (N := N) hx hb hts hin ty hty hnm hown hK hP hD hS o (am_W_get hso) hcl k hkN (hts _ hlk) (fun x9 h9 => by rw [hTC] at h9; exact h9) hfs.2 hfs.1 rfl rfl (by rw [List.length_map]; exact (List.getElem?_eq_some_iff.mp hq).1) hdec (fun H1 locs1 hP1 hD1 hS1 => hF.2.1 trivial M hM p e s m args below meth cd H1 locs1 A ls ad ca D hB hE hK (by rw [← am_W_num hsh hso hq]; exact hP1) (by rw [← am_W_num hsh hso hq]; exact hD1) hS1 hA hl Qc XC hQ hX)
          · exact va_putN (D := D) (ci := ci) (v := .int x) (ty := .int) (C := C) (T := T) (N := N) (host := host) hx hb hts hin ty hty hnm hown hK hP hD hS o (am_W_get hso) hcl k hkN (va_Nw.use rfl (hns _ hlk)) (fun x9 h9 => by rw [hTC] at h9; exact h9) hfs.2 hfs.1 rfl rfl (by rw [List.length_map]; exact (List.getElem?_eq_some_iff.mp hq).1) hdec (fun H1 locs1 hP1 hD1 hS1 => hF.2.1 trivial M hM p e s m args below meth cd H1 locs1 A ls ad ca D hB hE hK (by rw [← am_W_num hsh hso hq]; exact hP1) (by rw [← am_W_num hsh hso hq]; exact hD1) hS1 hA hl Qc XC hQ hX)
        · exact hF.elim
      · exact hF.elim
    · exact hF.elim
  · exact hF.elim

set_option maxHeartbeats 1000000 in
theorem am_r_iaload {G : am_G} {sh : List am_D} {TS NS : List Cond} {cl : List vw_C} {EX : (Nat → Prop) → State → Heap → Prop} {l : Launch} (hok : am_Ok G TS NS cl) (hsh : am_Sh cl sh) {μ pc len tg nc : Nat} {lo : List (Option Value)} {st : List Value} {h : am_S} {Q : am_Q} (hc : am_code G μ pc = some (.iaload, len, tg))
    (hF : am_go (am_PW G sh TS NS cl EX l) (am_PW G sh TS NS cl EX l) (am_op G sh μ pc len tg nc lo st h (.iaload)) Q) : am_PW G sh TS NS cl EX l (μ, pc, nc, lo, st, h) Q := by
  intro M hM p e s m args below meth cd H locs A ls ad ca D hB hE hK hP hD hS hA hl Qc XC hQ hX
  obtain ⟨hdec, hln, htg⟩ := am_code_spec hM hc
  obtain ⟨hx, hb, hr, hml, hown, hts, hns, hlocks, hnoex⟩ := id hB
  have go : ∀ (pc' nc' : Nat) (st' : List Value), am_PW G sh TS NS cl EX l (μ, pc', nc', lo, st', h) Q → W p l e M.2.2.2.2.2 s m args below meth cd H locs nc' (6 * nc') (vx_MQ below Qc XC args s M.2.2.2.2.2.cells M.2.2.2.2.2.slots A) (F0 m pc' ls (st'.map (am_cv ad))) :=
    fun pc' nc' st' k => k M hM p e s m args below meth cd H locs A ls ad ca D hB hE hK hP hD hS hA hl Qc XC hQ hX
  obtain rfl : len = 1 := by simpa [am_ln] using hln
  dsimp only [am_op] at hF
  split at hF
  · rename_i j o r
    split at hF
    · rename_i n hso
      exact va_iald hx hb hK hP o 0 (am_W_get hso) rfl hF.1 hdec (go _ _ _ (hF.2.1 trivial))
    · exact hF.elim
  · exact hF.elim

set_option maxHeartbeats 1000000 in
theorem am_r_baload {G : am_G} {sh : List am_D} {TS NS : List Cond} {cl : List vw_C} {EX : (Nat → Prop) → State → Heap → Prop} {l : Launch} (hok : am_Ok G TS NS cl) (hsh : am_Sh cl sh) {μ pc len tg nc : Nat} {lo : List (Option Value)} {st : List Value} {h : am_S} {Q : am_Q} (hc : am_code G μ pc = some (.baload, len, tg))
    (hF : am_go (am_PW G sh TS NS cl EX l) (am_PW G sh TS NS cl EX l) (am_op G sh μ pc len tg nc lo st h (.baload)) Q) : am_PW G sh TS NS cl EX l (μ, pc, nc, lo, st, h) Q := by
  intro M hM p e s m args below meth cd H locs A ls ad ca D hB hE hK hP hD hS hA hl Qc XC hQ hX
  obtain ⟨hdec, hln, htg⟩ := am_code_spec hM hc
  obtain ⟨hx, hb, hr, hml, hown, hts, hns, hlocks, hnoex⟩ := id hB
  have go : ∀ (pc' nc' : Nat) (st' : List Value), am_PW G sh TS NS cl EX l (μ, pc', nc', lo, st', h) Q → W p l e M.2.2.2.2.2 s m args below meth cd H locs nc' (6 * nc') (vx_MQ below Qc XC args s M.2.2.2.2.2.cells M.2.2.2.2.2.slots A) (F0 m pc' ls (st'.map (am_cv ad))) :=
    fun pc' nc' st' k => k M hM p e s m args below meth cd H locs A ls ad ca D hB hE hK hP hD hS hA hl Qc XC hQ hX
  obtain rfl : len = 1 := by simpa [am_ln] using hln
  dsimp only [am_op] at hF
  split at hF
  · rename_i j o r
    split at hF
    · rename_i n hso
      exact va_zald hx hb hK hP o 1 (am_W_get hso) rfl hF.1 hdec (go _ _ _ (hF.2.1 trivial))
    · exact hF.elim
  · exact hF.elim

set_option maxHeartbeats 1000000 in
theorem am_r_iastore {G : am_G} {sh : List am_D} {TS NS : List Cond} {cl : List vw_C} {EX : (Nat → Prop) → State → Heap → Prop} {l : Launch} (hok : am_Ok G TS NS cl) (hsh : am_Sh cl sh) {μ pc len tg nc : Nat} {lo : List (Option Value)} {st : List Value} {h : am_S} {Q : am_Q} (hc : am_code G μ pc = some (.iastore, len, tg))
    (hF : am_go (am_PW G sh TS NS cl EX l) (am_PW G sh TS NS cl EX l) (am_op G sh μ pc len tg nc lo st h (.iastore)) Q) : am_PW G sh TS NS cl EX l (μ, pc, nc, lo, st, h) Q := by
  intro M hM p e s m args below meth cd H locs A ls ad ca D hB hE hK hP hD hS hA hl Qc XC hQ hX
  obtain ⟨hdec, hln, htg⟩ := am_code_spec hM hc
  obtain ⟨hx, hb, hr, hml, hown, hts, hns, hlocks, hnoex⟩ := id hB
  have go : ∀ (pc' nc' : Nat) (st' : List Value), am_PW G sh TS NS cl EX l (μ, pc', nc', lo, st', h) Q → W p l e M.2.2.2.2.2 s m args below meth cd H locs nc' (6 * nc') (vx_MQ below Qc XC args s M.2.2.2.2.2.cells M.2.2.2.2.2.slots A) (F0 m pc' ls (st'.map (am_cv ad))) :=
    fun pc' nc' st' k => k M hM p e s m args below meth cd H locs A ls ad ca D hB hE hK hP hD hS hA hl Qc XC hQ hX
  obtain rfl : len = 1 := by simpa [am_ln] using hln
  dsimp only [am_op] at hF
  split at hF
  · rename_i x j o r
    split at hF
    · rename_i n hso
      exact va_iast hx hb hK hP hD hS o 0 (am_W_get hso) rfl hF.1 hdec (fun H1 locs1 hP1 hD1 hS1 => hF.2.1 trivial M hM p e s m args below meth cd H1 locs1 A ls ad ca D hB hE hK (by rw [← am_W_row (h := h) hso]; exact hP1) (by rw [← am_W_row (h := h) hso]; exact hD1) hS1 hA hl Qc XC hQ hX)
    · exact hF.elim
  · exact hF.elim

set_option maxHeartbeats 1000000 in
theorem am_r_bastore {G : am_G} {sh : List am_D} {TS NS : List Cond} {cl : List vw_C} {EX : (Nat → Prop) → State → Heap → Prop} {l : Launch} (hok : am_Ok G TS NS cl) (hsh : am_Sh cl sh) {μ pc len tg nc : Nat} {lo : List (Option Value)} {st : List Value} {h : am_S} {Q : am_Q} (hc : am_code G μ pc = some (.bastore, len, tg))
    (hF : am_go (am_PW G sh TS NS cl EX l) (am_PW G sh TS NS cl EX l) (am_op G sh μ pc len tg nc lo st h (.bastore)) Q) : am_PW G sh TS NS cl EX l (μ, pc, nc, lo, st, h) Q := by
  intro M hM p e s m args below meth cd H locs A ls ad ca D hB hE hK hP hD hS hA hl Qc XC hQ hX
  obtain ⟨hdec, hln, htg⟩ := am_code_spec hM hc
  obtain ⟨hx, hb, hr, hml, hown, hts, hns, hlocks, hnoex⟩ := id hB
  have go : ∀ (pc' nc' : Nat) (st' : List Value), am_PW G sh TS NS cl EX l (μ, pc', nc', lo, st', h) Q → W p l e M.2.2.2.2.2 s m args below meth cd H locs nc' (6 * nc') (vx_MQ below Qc XC args s M.2.2.2.2.2.cells M.2.2.2.2.2.slots A) (F0 m pc' ls (st'.map (am_cv ad))) :=
    fun pc' nc' st' k => k M hM p e s m args below meth cd H locs A ls ad ca D hB hE hK hP hD hS hA hl Qc XC hQ hX
  obtain rfl : len = 1 := by simpa [am_ln] using hln
  dsimp only [am_op] at hF
  split at hF
  · rename_i x j o r
    split at hF
    · rename_i n hso
      have hnar : vp_nar .boolean x = x := by rcases hF.1.2 with rfl | rfl <;> decide
      refine va_zast hx hb hK hP hD hS o 1 (am_W_get hso) rfl hF.1.1 hdec (fun H1 locs1 hP1 hD1 hS1 => ?_)
      rw [hnar] at hP1 hD1
      exact hF.2.1 trivial M hM p e s m args below meth cd H1 locs1 A ls ad ca D hB hE hK (by rw [← am_W_row (h := h) hso]; exact hP1) (by rw [← am_W_row (h := h) hso]; exact hD1) hS1 hA hl Qc XC hQ hX
    · exact hF.elim
  · exact hF.elim

set_option maxHeartbeats 1000000 in
theorem am_r_arraylength {G : am_G} {sh : List am_D} {TS NS : List Cond} {cl : List vw_C} {EX : (Nat → Prop) → State → Heap → Prop} {l : Launch} (hok : am_Ok G TS NS cl) (hsh : am_Sh cl sh) {μ pc len tg nc : Nat} {lo : List (Option Value)} {st : List Value} {h : am_S} {Q : am_Q} (hc : am_code G μ pc = some (.arraylength, len, tg))
    (hF : am_go (am_PW G sh TS NS cl EX l) (am_PW G sh TS NS cl EX l) (am_op G sh μ pc len tg nc lo st h (.arraylength)) Q) : am_PW G sh TS NS cl EX l (μ, pc, nc, lo, st, h) Q := by
  intro M hM p e s m args below meth cd H locs A ls ad ca D hB hE hK hP hD hS hA hl Qc XC hQ hX
  obtain ⟨hdec, hln, htg⟩ := am_code_spec hM hc
  obtain ⟨hx, hb, hr, hml, hown, hts, hns, hlocks, hnoex⟩ := id hB
  have go : ∀ (pc' nc' : Nat) (st' : List Value), am_PW G sh TS NS cl EX l (μ, pc', nc', lo, st', h) Q → W p l e M.2.2.2.2.2 s m args below meth cd H locs nc' (6 * nc') (vx_MQ below Qc XC args s M.2.2.2.2.2.cells M.2.2.2.2.2.slots A) (F0 m pc' ls (st'.map (am_cv ad))) :=
    fun pc' nc' st' k => k M hM p e s m args below meth cd H locs A ls ad ca D hB hE hK hP hD hS hA hl Qc XC hQ hX
  obtain rfl : len = 1 := by simpa [am_ln] using hln
  dsimp only [am_op] at hF
  split at hF
  · rename_i o r
    split at hF
    · rename_i n hso
      exact va_alen hx hb hK hP o 0 (am_W_get hso) rfl rfl hdec (go _ _ _ (hF.2.1 trivial))
    · exact hF.elim
  · exact hF.elim

set_option maxHeartbeats 1000000 in
theorem am_r_ireturn {G : am_G} {sh : List am_D} {TS NS : List Cond} {cl : List vw_C} {EX : (Nat → Prop) → State → Heap → Prop} {l : Launch} (hok : am_Ok G TS NS cl) (hsh : am_Sh cl sh) {μ pc len tg nc : Nat} {lo : List (Option Value)} {st : List Value} {h : am_S} {Q : am_Q} (hc : am_code G μ pc = some (.ireturn, len, tg))
    (hF : am_go (am_PW G sh TS NS cl EX l) (am_PW G sh TS NS cl EX l) (am_op G sh μ pc len tg nc lo st h (.ireturn)) Q) : am_PW G sh TS NS cl EX l (μ, pc, nc, lo, st, h) Q := by
  intro M hM p e s m args below meth cd H locs A ls ad ca D hB hE hK hP hD hS hA hl Qc XC hQ hX
  obtain ⟨hdec, hln, htg⟩ := am_code_spec hM hc
  obtain ⟨hx, hb, hr, hml, hown, hts, hns, hlocks, hnoex⟩ := id hB
  have go : ∀ (pc' nc' : Nat) (st' : List Value), am_PW G sh TS NS cl EX l (μ, pc', nc', lo, st', h) Q → W p l e M.2.2.2.2.2 s m args below meth cd H locs nc' (6 * nc') (vx_MQ below Qc XC args s M.2.2.2.2.2.cells M.2.2.2.2.2.slots A) (F0 m pc' ls (st'.map (am_cv ad))) :=
    fun pc' nc' st' k => k M hM p e s m args below meth cd H locs A ls ad ca D hB hE hK hP hD hS hA hl Qc XC hQ hX
  obtain rfl : len = 1 := by simpa [am_ln] using hln
  dsimp only [am_op] at hF
  split at hF
  · rename_i x
    obtain ⟨⟨hz, hn⟩, hq⟩ := hF
    rw [am_nc_of hM] at hn
    rw [am_rt_of hM] at hz
    have hsl := (hok.2.1 μ M hM).2.2.2.2
    refine vx_ret (W.widen (k := M.2.2.2.2.2.cells) (n := M.2.2.2.2.2.slots) hn (by rw [hsl]; exact Nat.mul_le_mul_left 6 hn) ?_)
    rcases hz with hz | ⟨hz, hx01⟩
    · exact W.iret hx hb (hr.trans (am_rk_1 hz)) (fun t ht hW => hQ h (some (.int x)) t hq hW.alike (by rw [ht]; exact hP) hD (hS.F ht)) hS.2.2 hdec hlocks
    · have hnar : narrow .boolean (.int x) = .int x := by rcases hx01 with rfl | rfl <;> decide
      exact W.zret (ty := .boolean) hx hb (hr.trans (am_rk_2 hz)) hnar (fun t ht hW => hQ h (some (.int x)) t hq hW.alike (by rw [ht]; exact hP) hD (hS.F ht)) hS.2.2 hdec hlocks
  · exact hF.elim

set_option maxHeartbeats 1000000 in
theorem am_r_return {G : am_G} {sh : List am_D} {TS NS : List Cond} {cl : List vw_C} {EX : (Nat → Prop) → State → Heap → Prop} {l : Launch} (hok : am_Ok G TS NS cl) (hsh : am_Sh cl sh) {μ pc len tg nc : Nat} {lo : List (Option Value)} {st : List Value} {h : am_S} {Q : am_Q} (hc : am_code G μ pc = some (.return_, len, tg))
    (hF : am_go (am_PW G sh TS NS cl EX l) (am_PW G sh TS NS cl EX l) (am_op G sh μ pc len tg nc lo st h (.return_)) Q) : am_PW G sh TS NS cl EX l (μ, pc, nc, lo, st, h) Q := by
  intro M hM p e s m args below meth cd H locs A ls ad ca D hB hE hK hP hD hS hA hl Qc XC hQ hX
  obtain ⟨hdec, hln, htg⟩ := am_code_spec hM hc
  obtain ⟨hx, hb, hr, hml, hown, hts, hns, hlocks, hnoex⟩ := id hB
  have go : ∀ (pc' nc' : Nat) (st' : List Value), am_PW G sh TS NS cl EX l (μ, pc', nc', lo, st', h) Q → W p l e M.2.2.2.2.2 s m args below meth cd H locs nc' (6 * nc') (vx_MQ below Qc XC args s M.2.2.2.2.2.cells M.2.2.2.2.2.slots A) (F0 m pc' ls (st'.map (am_cv ad))) :=
    fun pc' nc' st' k => k M hM p e s m args below meth cd H locs A ls ad ca D hB hE hK hP hD hS hA hl Qc XC hQ hX
  obtain rfl : len = 1 := by simpa [am_ln] using hln
  dsimp only [am_op] at hF
  split at hF
  · obtain ⟨⟨hz, hn⟩, hq⟩ := hF
    rw [am_nc_of hM] at hn
    rw [am_rt_of hM] at hz
    have hsl := (hok.2.1 μ M hM).2.2.2.2
    refine vx_ret (W.widen (k := M.2.2.2.2.2.cells) (n := M.2.2.2.2.2.slots) hn (by rw [hsl]; exact Nat.mul_le_mul_left 6 hn) ?_)
    exact W.vret hx hb (hr.trans (am_rk_0 hz)) (fun t ht hW => hQ h none t hq hW.alike (by rw [ht]; exact hP) hD (hS.F ht)) hS.2.2 hdec hlocks
  · exact hF.elim

set_option maxHeartbeats 1000000 in
theorem am_r_new {G : am_G} {sh : List am_D} {TS NS : List Cond} {cl : List vw_C} {EX : (Nat → Prop) → State → Heap → Prop} {l : Launch} (hok : am_Ok G TS NS cl) (hsh : am_Sh cl sh) {μ pc len tg nc : Nat} {lo : List (Option Value)} {st : List Value} {h : am_S} {Q : am_Q} (hth : am_TH G TS NS EX l) {ix : Nat} (hc : am_code G μ pc = some (.new ix, len, tg))
    (hF : am_go (am_PW G sh TS NS cl EX l) (am_PW G sh TS NS cl EX l) (am_op G sh μ pc len tg nc lo st h (.new ix)) Q) : am_PW G sh TS NS cl EX l (μ, pc, nc, lo, st, h) Q := by
  intro M hM p e s m args below meth cd H locs A ls ad ca D hB hE hK hP hD hS hA hl Qc XC hQ hX
  obtain ⟨hdec, hln, htg⟩ := am_code_spec hM hc
  obtain ⟨hx, hb, hr, hml, hown, hts, hns, hlocks, hnoex⟩ := id hB
  have go : ∀ (pc' nc' : Nat) (st' : List Value), am_PW G sh TS NS cl EX l (μ, pc', nc', lo, st', h) Q → W p l e M.2.2.2.2.2 s m args below meth cd H locs nc' (6 * nc') (vx_MQ below Qc XC args s M.2.2.2.2.2.cells M.2.2.2.2.2.slots A) (F0 m pc' ls (st'.map (am_cv ad))) :=
    fun pc' nc' st' k => k M hM p e s m args below meth cd H locs A ls ad ca D hB hE hK hP hD hS hA hl Qc XC hQ hX
  obtain rfl : len = 3 := by simpa [am_ln] using hln
  dsimp only [am_op] at hF
  split at hF
  · rename_i E hE9
    obtain ⟨⟨hn, hct⟩, hq⟩ := hF
    rw [am_nc_of hM] at hn
    refine hth μ M pc E hM hE9 p e s m args below meth cd H locs A ls _ nc Qc XC hB hE hS hl.1 (by rw [am_ct_map]; exact hct) hn (fun t ha hz hk => hX h E t hq ha (hP.kept (fun k q hkq => hk q.1 (hP k q hkq).lt)) hD ⟨Nat.le_trans hS.1 hz, fun q h1 h2 => by rw [hk q (Nat.lt_of_lt_of_le h1 hS.1)]; exact hS.2.1 q h1 h2⟩)
  · exact hF.elim

theorem am_sw_get {f : am_C → Prop} {mk : Nat → am_C} {pc : Nat} {x lo : Int} : ∀ {offs : List Int} {j : Nat}, am_all f (am_sw mk pc x lo j offs) → ∀ {i : Nat} {off : Int}, offs[i]? = some off → x = lo + ((j + i : Nat) : Int) → f (mk ((pc : Int) + off).toNat)
  | [], _, _, _, _, h, _ => by simp at h
  | o :: r, j, ha, 0, off, h, hx => by
    have : o = off := by simpa using h
    subst this
    exact ha.1 hx
  | o :: r, j, ha, i + 1, off, h, hx => am_sw_get (j := j + 1) ha.2 (i := i) (by simpa using h) (by rw [hx]; congr 2; omega)
theorem am_swo_get {pc : Nat} : ∀ {offs : List Int}, am_swo pc offs = true → ∀ {i : Nat} {off : Int}, offs[i]? = some off → 0 ≤ (pc : Int) + off
  | [], _, _, _, h => by simp at h
  | o :: r, ha, 0, off, h => by
    have : o = off := by simpa using h
    subst this
    simp only [am_swo, Bool.and_eq_true, decide_eq_true_eq] at ha
    exact ha.1
  | o :: r, ha, i + 1, off, h => by
    simp only [am_swo, Bool.and_eq_true, decide_eq_true_eq] at ha
    exact am_swo_get ha.2 (i := i) (by simpa using h)

set_option maxHeartbeats 1000000 in
theorem am_r_tableswitch {G : am_G} {sh : List am_D} {TS NS : List Cond} {cl : List vw_C} {EX : (Nat → Prop) → State → Heap → Prop} {l : Launch} (hok : am_Ok G TS NS cl) (hsh : am_Sh cl sh) {μ pc len tg nc : Nat} {lo : List (Option Value)} {st : List Value} {h : am_S} {Q : am_Q} {dflt lw up : Int} {offs : Array Int} (hc : am_code G μ pc = some (.tableswitch dflt lw up offs, len, tg))
    (hF : am_go (am_PW G sh TS NS cl EX l) (am_PW G sh TS NS cl EX l) (am_op G sh μ pc len tg nc lo st h (.tableswitch dflt lw up offs)) Q) : am_PW G sh TS NS cl EX l (μ, pc, nc, lo, st, h) Q := by
  intro M hM p e s m args below meth cd H locs A ls ad ca D hB hE hK hP hD hS hA hl Qc XC hQ hX
  obtain ⟨hdec, hln, htg⟩ := am_code_spec hM hc
  obtain ⟨hx, hb, hr, hml, hown, hts, hns, hlocks, hnoex⟩ := id hB
  have go : ∀ (pc' nc' : Nat) (st' : List Value), am_PW G sh TS NS cl EX l (μ, pc', nc', lo, st', h) Q → W p l e M.2.2.2.2.2 s m args below meth cd H locs nc' (6 * nc') (vx_MQ below Qc XC args s M.2.2.2.2.2.cells M.2.2.2.2.2.slots A) (F0 m pc' ls (st'.map (am_cv ad))) :=
    fun pc' nc' st' k => k M hM p e s m args below meth cd H locs A ls ad ca D hB hE hK hP hD hS hA hl Qc XC hQ hX
  dsimp only [am_op] at hF
  split at hF
  · rename_i x r
    obtain ⟨⟨hsz, hof⟩, hd, hrest⟩ := hF
    by_cases hout : x.toInt < lw ∨ up < x.toInt
    · exact lv_tableOut hx hb hdec hout (am_nn_spec htg) (go _ _ _ (hd hout))
    · have h1 : ¬ x.toInt < lw := fun q => hout (Or.inl q)
      have h2 : ¬ up < x.toInt := fun q => hout (Or.inr q)
      have hlt : (x.toInt - lw).toNat < offs.size := by omega
      have hget : offs[(x.toInt - lw).toNat]? = some offs[(x.toInt - lw).toNat] := Array.getElem?_eq_getElem hlt
      have hgl : offs.toList[(x.toInt - lw).toNat]? = some offs[(x.toInt - lw).toNat] := by rw [Array.getElem?_toList]; exact hget
      have hnn := am_swo_get hof hgl
      have hgo := am_sw_get (j := 0) hrest hgl (by omega)
      exact lv_tableIn hx hb hdec h1 h2 hget (Int.toNat_of_nonneg hnn).symm (go _ _ _ hgo)
  · exact hF.elim

theorem am_ctr {ad : Nat → Nat} {r : List Value} {k n : Nat} (h : am_ct r ≤ 8) (hk : 8 + k ≤ n) : ((r.map (am_cv ad)).map fun v => v.category).sum + k ≤ n := by
  rw [am_ct_map]
  omega
theorem am_ofW {l : Launch} {y : MethodName} {ws ws' : List Cond} {rm : Room} {Pc : Array Value → State → Prop} {Qc : Array Value → State → Outcome → State → Prop} {XC : String → State → State → Prop} {mc ms : Nat} {free : Addr → Prop} {cc : ByteArray} {maxL : Nat} {ret : Option FieldType}
    (hy : plainFor y = true) (hw : ws = Cond.code y cc maxL ret :: ws')
    (body : ∀ p e s m args below meth c s₁, BodyLoose p l y (headSpec ws rm) cc maxL ret e s m args below meth c s₁ → c.maxLocals = maxL → (∀ x ∈ c.exceptionTable.toList, False) → Pc args s →
      W p l e (headSpec ws rm).room s m args below meth c s.heap [] 0 0 (vx_MQ below Qc XC args s mc ms free) (entryFrame m args maxL)) : vx_Met l y ws rm Pc Qc XC mc ms free := by
  refine MetFree.of_bodySF (code := cc) (maxLocals := maxL) (ret := ret) hy ?_ ?_
  · intro args s m h hn
    obtain ⟨meth, c, h1, h2, h3, h4, h5, h6, -, -⟩ := Cond.code_spec hn (atoms_spec (ws := ws) h _ (by rw [hw]; exact List.mem_cons_self))
    exact ⟨meth, c, h1, h2, h3, h4, h5, h6⟩
  · intro p e s m args below meth c s₁ B hml hP _
    have hh0 : s₁.heap = s.heap := by rw [B.state]; rfl
    have ht : ∀ x ∈ c.exceptionTable.toList, False := by
      obtain ⟨meth9, c9, h1, h2, -, -, -, -, h7, -⟩ := Cond.code_spec B.named (atoms_spec (ws := ws) B.pre _ (by rw [hw]; exact List.mem_cons_self))
      cases Option.some.inj (h1.symm.trans B.method)
      cases Option.some.inj (h2.symm.trans (Stand.of_body B).code)
      intro x hx
      rw [Array.isEmpty_iff.mp h7] at hx
      cases hx
    obtain ⟨t, a1, o, b1, b2, b3⟩ := body p e s m args below meth c s₁ B hml ht hP s₁ hh0 (Stand.of_body B)
    exact ⟨t, o, a1, b1, b2, b3⟩
/-- a method's contract out of its entry -/
theorem am_met {G : am_G} {sh : List am_D} {TS NS : List Cond} {cl : List vw_C} {EX : (Nat → Prop) → State → Heap → Prop} {l : Launch} (hok : am_Ok G TS NS cl) (hEX : am_EX EX) {μ : Nat} {M : am_M} (hM : am_m G μ = some M) {av : List Value} {h : am_S} {Q : am_Q} (hlen : av.length ≤ M.2.2.1) (hcat : ∀ v ∈ av, v.category = 1) (hPW : am_PW G sh TS NS cl EX l (μ, 0, 0, am_in M.2.2.1 av, [], h) Q) (ad : Nat → Nat) (ca : Nat → ClassId) (D : va_G) (sz : Nat) :
    vx_Met l M.1 (Cond.code M.1 M.2.1 M.2.2.1 M.2.2.2.1 :: TS) M.2.2.2.2.2 (va_Pc (av.map (am_cv ad)) (fun U => U.heap.size = sz ∧ va_P D cl (am_W sh ad ca h) U.heap ∧ va_K D cl (am_ty ca) U ∧ va_D (fun _ => True) (am_W sh ad ca h) ∧ (∀ w ∈ NS, va_Nw w U) ∧ EX (va_A (am_W sh ad ca h) sz) U U.heap))
      (fun _ st oc t => (∃ (h' : am_S) (r : Option Value), oc = .returned (r.map (am_cv ad)) ∧ Q h' (.inl r) ∧ va_P D cl (am_W sh ad ca h') t.heap ∧ va_D (va_A (am_W sh ad ca h) sz) (am_W sh ad ca h')) ∧ va_F (va_A (am_W sh ad ca h) sz) st t)
      (fun E st t => ∃ h' : am_S, Q h' (.inr E) ∧ va_P D cl (am_W sh ad ca h') t.heap ∧ va_D (va_A (am_W sh ad ca h) sz) (am_W sh ad ca h') ∧ va_F (va_A (am_W sh ad ca h) sz) st t)
      M.2.2.2.2.2.cells M.2.2.2.2.2.slots (va_A (am_W sh ad ca h) sz) := by
  refine am_ofW (cc := M.2.1) (maxL := M.2.2.1) (ret := M.2.2.2.1) (hok.2.1 μ M hM).1 rfl ?_
  intro p e s m args below meth cd s₁ B hml hnoex hv
  obtain ⟨rfl, hsz, hP, hK, hD0, hns, hE⟩ := hv
  have hts := atoms_spec (ws := Cond.code M.1 M.2.1 M.2.2.1 M.2.2.2.1 :: TS) B.pre
  have hcat' : ∀ v ∈ av.map (am_cv ad), v.category = 1 := fun v hv => by
    obtain ⟨w, hw, rfl⟩ := List.mem_map.mp hv
    rw [am_cv_cat]
    exact hcat w hw
  have hlen' : (lg_sl (av.map (am_cv ad))).length ≤ M.2.2.1 := by rw [am_sl1 hcat', List.length_map]; exact hlen
  have hl0 := lv_entry (av.map (am_cv ad)) (n := M.2.2.1) hlen'
  rw [lg_entry_eq]
  generalize (lg_sl (av.map (am_cv ad)) ++ List.replicate (M.2.2.1 - (lg_sl (av.map (am_cv ad))).length) Slot.unset).toArray = ls at hl0 ⊢
  have hl : am_lo ad ls M.2.2.1 (am_in M.2.2.1 av) := ⟨hl0.1, hl0.2.1, fun i v hi => by
    have h1 := am_in_get hi
    have h2 := am_args1 (k := 0) (i := i) (v := am_cv ad v) hcat' (by rw [List.getElem?_map, h1]; rfl)
    rw [Nat.zero_add] at h2
    exact hl0.2.2 _ h2⟩
  refine hPW M hM p e s m _ below meth cd s.heap [] (va_A (am_W sh ad ca h) sz) ls ad ca D ⟨B.exec, B.bytes, B.returns, hml, findClass_of_methodNamed B.named, fun w hw => hts w (List.mem_cons_of_mem _ hw), hns, B.notSynchronized, hnoex⟩ hE hK hP hD0.self va_S.rf (fun q hq => Or.inr (by rw [← hsz]; exact hq)) hl _ _ ?_ ?_
  · intro h' r t hq ha hP' hD' hF
    exact ⟨⟨h', r, rfl, hq, hP', hD'⟩, hF⟩
  · intro h' E t hq ha hP' hD' hF
    exact ⟨h', hq, hP', hD', hF⟩
/-- behind a call -/
theorem am_back {G : am_G} {sh : List am_D} {TS NS : List Cond} {cl : List vw_C} {EX : (Nat → Prop) → State → Heap → Prop} {l : Launch} (hok : am_Ok G TS NS cl) {μ μ' : Nat} {M M' : am_M} (hM : am_m G μ = some M) (hM' : am_m G μ' = some M') {pc nc : Nat} {lo : List (Option Value)} {rest : List Value} {h : am_S} {Q : am_Q}
    {p : Program} {e : Env} {s : State} {m : MethodId} {args : Array Value} {below : List Frame} {meth : Method} {cd : Code} {H : Heap} {locs : List Loc} {A : Nat → Prop} {ls : Array Slot} {ad : Nat → Nat} {ca : Nat → ClassId} {D : va_G}
    (hB : am_B TS NS M p s m args meth cd) (hE : EX A s s.heap) (hK : va_K D cl (am_ty ca) s) (hD : va_D A (am_W sh ad ca h)) (hS : va_S A s.heap H locs) (hA : ∀ q, s.heap.size ≤ q → A q) (hl : am_lo ad ls M.2.2.1 lo) {Qc : Array Value → State → Outcome → State → Prop} {XC : String → State → State → Prop}
    (hQ : ∀ (h' : am_S) (r : Option Value) (t : State), Q h' (.inl r) → s.vm.Alike t.vm → va_P D cl (am_W sh ad ca h') t.heap → va_D A (am_W sh ad ca h') → va_F A s t → Qc args s (.returned (r.map (am_cv ad))) t)
    (hX : ∀ (h' : am_S) (E : String) (t : State), Q h' (.inr E) → s.vm.Alike t.vm → va_P D cl (am_W sh ad ca h') t.heap → va_D A (am_W sh ad ca h') → va_F A s t → XC E s t)
    (hn : nc + M'.2.2.2.2.2.cells ≤ M.2.2.2.2.2.cells) {st0 : List Value} {a : Array Value}
    (hr : vx_Run p l e M.2.2.2.2.2 s m args below meth cd H locs nc (6 * nc) M'.2.2.2.2.2.cells M'.2.2.2.2.2.slots (F0 m pc ls st0) (rest.map (am_cv ad))
      ((fun (_ : Array Value) st oc t => (∃ (h' : am_S) (r : Option Value), oc = .returned (r.map (am_cv ad)) ∧ am_k Q (fun h' r => am_PW G sh TS NS cl EX l (μ, pc + 3, nc + am_nc G μ', lo, r.toList ++ rest, h') Q) h' (.inl r) ∧ va_P D cl (am_W sh ad ca h') t.heap ∧ va_D (va_A (am_W sh ad ca h) H.size) (am_W sh ad ca h')) ∧ va_F (va_A (am_W sh ad ca h) H.size) st t) a)
      (fun E st t => ∃ h' : am_S, am_k Q (fun h' r => am_PW G sh TS NS cl EX l (μ, pc + 3, nc + am_nc G μ', lo, r.toList ++ rest, h') Q) h' (.inr E) ∧ va_P D cl (am_W sh ad ca h') t.heap ∧ va_D (va_A (am_W sh ad ca h) H.size) (am_W sh ad ca h') ∧ va_F (va_A (am_W sh ad ca h) H.size) st t)
      (va_A (am_W sh ad ca h) H.size)) :
    W p l e M.2.2.2.2.2 s m args below meth cd H locs nc (6 * nc) (vx_MQ below Qc XC args s M.2.2.2.2.2.cells M.2.2.2.2.2.slots A) (F0 m pc ls st0) := by
  have hAA : ∀ q, va_A (am_W sh ad ca h) H.size q → A q := fun q hq => by
    rcases hq with ⟨k, e9, hk⟩ | hq
    · exact hD.2 k (q, e9) hk
    · exact hA q (Nat.le_trans hS.1 hq)
  have hsl := (hok.2.1 μ M hM).2.2.2.2
  have hsl' := (hok.2.1 μ' M' hM').2.2.2.2
  intro T hT X
  rcases hr T hT X with ⟨v, st₀, t, T', L, h0, X', hL, e1, e2, ⟨⟨h', r, hv, hPW, hP', hD'⟩, hF⟩, st⟩ | ⟨q, st₀, t, T', L, E, ce, h0, X', hL, e1, e2, ⟨h', hq, hP', hD', hF⟩, hce, hcv, hcl, st⟩
  · cases hv
    obtain ⟨k1, k2, k3⟩ := vx_keep h0 e1 hS (fun q _ z => hAA q z) hAA hL hF
    have X2 : Stand p l e M.2.2.2.2.2 s m args below meth cd T' (locs ++ L) (nc + am_nc G μ') (6 * (nc + am_nc G μ')) := by
      rw [am_nc_of hM', Nat.mul_add, ← hsl']
      exact X'
    obtain ⟨t2, a1, b1⟩ := hPW M hM p e s m args below meth cd T'.heap (locs ++ L) A ls ad ca D hB hE hK (by rw [e1]; exact hP') (hD'.weaken (fun _ _ _ z => hAA _ z)) k3 hA hl Qc XC hQ hX T' rfl X2
    refine ⟨t2, st t2 ?_, b1⟩
    have hst : (r.map (am_cv ad)).toList ++ rest.map (am_cv ad) = (r.toList ++ rest).map (am_cv ad) := by cases r <;> rfl
    show Steps p.tables e below (T'.setTop { (F0 m pc ls st0) with pc := pc + 3, stack := (r.map (am_cv ad)).toList ++ rest.map (am_cv ad) }) t2
    rw [hst]
    exact a1
  · obtain ⟨k1, k2, k3⟩ := vx_keep h0 e1 hS (fun q _ z => hAA q z) hAA hL hF
    obtain ⟨t2, a1, b1⟩ := vx_out (Qc := Qc) (XC := XC) (free := A) (pc := pc) (ls := ls) (rest := rest.map (am_cv ad)) (mc := M.2.2.2.2.2.cells) (ms := M.2.2.2.2.2.slots) (fun x hx => (hB.2.2.2.2.2.2.2.2 x hx).elim) hB.2.2.2.2.2.2.2.1 (show T'.heap[q]? = some ce by rw [e1]; exact hce) hcv hcl
      (fun t9 ht9 ha9 => hX h' E t9 hq ha9 (by rw [ht9, e1]; exact hP') (hD'.weaken (fun _ _ _ z => hAA _ z)) (k3.F ht9)) k3.2.2 hn (by rw [hsl, hsl', ← Nat.mul_add]; exact Nat.mul_le_mul_left 6 hn) T' rfl X'
    exact ⟨t2, st.trans a1, b1⟩
theorem am_pre {G : am_G} {sh : List am_D} {TS NS : List Cond} {cl : List vw_C} {EX : (Nat → Prop) → State → Heap → Prop} {l : Launch} (hEX : am_EX EX) {M' : am_M} {av : List Value} {h : am_S} {s : State} {H : Heap} {locs : List Loc} {A : Nat → Prop} {ad : Nat → Nat} {ca : Nat → ClassId} {D : va_G} (hNS : ∀ w ∈ NS, ∀ {u U : State}, u.WarmedH U.vm → va_Nw w u → va_Nw w U)
    (hE : EX A s s.heap) (hns : ∀ w ∈ NS, va_Nw w s) (hK : va_K D cl (am_ty ca) s) (hP : va_P D cl (am_W sh ad ca h) H) (hD : va_D A (am_W sh ad ca h)) (hS : va_S A s.heap H locs) (hA : ∀ q, s.heap.size ≤ q → A q) :
    PreS s H (va_Pc (av.map (am_cv ad)) (fun U => U.heap.size = H.size ∧ va_P D cl (am_W sh ad ca h) U.heap ∧ va_K D cl (am_ty ca) U ∧ va_D (fun _ => True) (am_W sh ad ca h) ∧ (∀ w ∈ NS, va_Nw w U) ∧ EX (va_A (am_W sh ad ca h) H.size) U U.heap)) (av.map (am_cv ad)) := by
  have hAA : ∀ q, va_A (am_W sh ad ca h) H.size q → A q := fun q hq => by
    rcases hq with ⟨k, e9, hk⟩ | hq
    · exact hD.2 k (q, e9) hk
    · exact hA q (Nat.le_trans hS.1 hq)
  refine ⟨fun a U g mk q => ?_, fun U hU hW => ⟨rfl, by rw [hU], by rw [hU]; exact hP, va_K.moved hW.alike hK, hD.weaken (fun _ _ _ _ => trivial), fun w hw => hNS w hw hW (hns w hw), hEX A _ s U s.heap U.heap hE hW (fun a h1 h2 => by rw [hU]; exact hS.2.1 a h1 h2) hAA⟩⟩
  obtain ⟨q0, q1, q2, q3, q4, q5, q6⟩ := q
  exact ⟨q0, q1, q2, va_K.moved (u := U) (U := U.calling g mk a) (Vm.Alike.refl U.vm) q3, q4, fun w hw => hNS w hw (u := U) (U := U.calling g mk a) (State.WarmedH.refl U) (q5 w hw), hEX _ _ U (U.calling g mk a) U.heap U.heap q6 (State.WarmedH.refl U) (fun _ _ _ => rfl) (fun _ z => z)⟩

set_option maxHeartbeats 1000000 in
theorem am_r_invokevirtual {G : am_G} {sh : List am_D} {TS NS : List Cond} {cl : List vw_C} {EX : (Nat → Prop) → State → Heap → Prop} {l : Launch} (hok : am_Ok G TS NS cl) (hsh : am_Sh cl sh) {μ pc len tg nc : Nat} {lo : List (Option Value)} {st : List Value} {h : am_S} {Q : am_Q} (hEX : am_EX EX) (hNS : ∀ w ∈ NS, ∀ {u U : State}, u.WarmedH U.vm → va_Nw w u → va_Nw w U) {ix : Nat} (hc : am_code G μ pc = some (.invokevirtual ix, len, tg))
    (hF : am_go (am_PW G sh TS NS cl EX l) (am_PW G sh TS NS cl EX l) (am_op G sh μ pc len tg nc lo st h (.invokevirtual ix)) Q) : am_PW G sh TS NS cl EX l (μ, pc, nc, lo, st, h) Q := by
  intro M hM p e s m args below meth cd H locs A ls ad ca D hB hE hK hP hD hS hA hl Qc XC hQ hX
  obtain ⟨hdec, hln, htg⟩ := am_code_spec hM hc
  obtain ⟨hx, hb, hr, hml, hown, hts, hns, hlocks, hnoex⟩ := id hB
  have go : ∀ (pc' nc' : Nat) (st' : List Value), am_PW G sh TS NS cl EX l (μ, pc', nc', lo, st', h) Q → W p l e M.2.2.2.2.2 s m args below meth cd H locs nc' (6 * nc') (vx_MQ below Qc XC args s M.2.2.2.2.2.cells M.2.2.2.2.2.slots A) (F0 m pc' ls (st'.map (am_cv ad))) :=
    fun pc' nc' st' k => k M hM p e s m args below meth cd H locs A ls ad ca D hB hE hK hP hD hS hA hl Qc XC hQ hX
  obtain rfl : len = 3 := by simpa [am_ln] using hln
  dsimp only [am_op] at hF
  split at hF
  · rename_i μ' n hcal
    obtain ⟨M', hM', hlk, hinst, hsel, hdesc, hfr, hlo, T9, N9, hcl9⟩ := hok.2.2.2.1 μ M ix μ' n hM hcal
    cases hpp : am_pp (n + 1) st [] with
    | none => simp only [am_inv, hpp] at hF; exact hF.elim
    | some q =>
      obtain ⟨av, rest⟩ := q
      simp only [am_inv, hpp] at hF
      obtain ⟨⟨hrc, hct, hnl, hn⟩, hPW⟩ := hF
      obtain ⟨pre, rfl, hav, hpl, hpc⟩ := am_pp_spec hpp
      rw [List.append_nil] at hav
      subst hav
      rw [am_nc_of hM', am_nc_of hM] at hn
      rw [am_ml_of hM'] at hnl
      rw [am_ml_of hM'] at hPW
      have hcat : ∀ v ∈ pre.reverse, v.category = 1 := fun v hv => hpc v (List.mem_reverse.mp hv)
      have hmet := am_met hok hEX hM' (by rw [List.length_reverse, hpl]; exact hnl) hcat hPW ad ca D H.size
      have hmok := hok.2.1 μ' M' hM'
      have hmok0 := hok.2.1 μ M hM
      have hpar : ∀ sig, parseMethodDescriptor M'.1.desc = some sig → n = sig.parameters.length := fun sig h9 => by
        rw [h9] at hdesc
        exact (Option.some.inj hdesc).symm
      have hcb : CallB M.2.2.2.2.2 s args M.1.cls ix M'.1 M'.2.1 M'.2.2.1 M'.2.2.2.1 (Cond.code M'.1 M'.2.1 M'.2.2.1 M'.2.2.2.1 :: TS) M'.2.2.2.2.2 M'.2.2.2.2.2.cells M'.2.2.2.2.2.slots n := by
        refine ⟨rfl, rfl, hfr, hlo, fun w hw a' U hW => ?_, List.mem_cons_self, hts _ hmok.2.1, hts _ hmok.2.2.1, hmok.2.2.2.1, hpar, hts _ hlk⟩
        rcases List.mem_cons.mp hw with rfl | hw
        · exact word_at hW (good_of_word (hok.1 _ hmok.2.1)) (hts _ hmok.2.1)
        · exact word_at hW (good_of_word (hok.1 _ hw)) (hts w hw)
      have hps := am_pre (l := l) (G := G) (TS := TS) (M' := M') hEX (av := pre.reverse) hNS hE hns hK hP hD hS hA
      have hf : nc + M'.2.2.2.2.2.cells ≤ M.2.2.2.2.2.cells ∧ 6 * nc + M'.2.2.2.2.2.slots ≤ M.2.2.2.2.2.slots := ⟨hn, by rw [hmok.2.2.2.2, hmok0.2.2.2.2, ← Nat.mul_add]; exact Nat.mul_le_mul_left 6 hn⟩
      have hst8 : ((rest.map (am_cv ad)).map fun v => v.category).sum ≤ 8 := by rw [am_ct_map]; exact hct
      have hrc := hrc (by omega)
      rw [am_oc_of hM'] at hrc
      obtain ⟨o, ps, hpr⟩ : ∃ o ps, pre.reverse = .ref o :: ps := by
        cases hz : pre.reverse with
        | nil => rw [hz] at hrc; exact hrc.elim
        | cons v ps =>
          rw [hz] at hrc
          cases v with
          | ref o => exact ⟨o, ps, rfl⟩
          | _ => exact hrc.elim
      rw [hpr] at hrc hmet hps
      have hpre : pre = ps.reverse ++ [.ref o] := by rw [← List.reverse_reverse pre, hpr]; simp
      simp only [am_rc] at hrc
      split at hrc
      · rename_i ci fs hso
        subst hrc
        have hlen : ps.length = n := by rw [hpre] at hpl; simpa using hpl
        have hrec := va_recv hK hP hcl9 (am_W_get hso)
        refine am_back hok hM hM' hB hE hK hD hS hA hl hQ hX hn (a := (Value.ref (ad o) :: ps.map (am_cv ad)).toArray) (rest := rest) (vx_runV (C := M'.1.cls) (b := ad o) (As := ps.map (am_cv ad)) (rest := rest.map (am_cv ad)) ⟨hx, hb, hml, hown, hts⟩ hmet ⟨hcb, hts _ hinst, hts _ hsel⟩ ⟨hps.1, hrec, hps.2⟩ rfl (by rw [List.length_map]; exact hlen) hl.1 ?_ (lv_room hst8) hdec hf)
        rw [hpre]
        simp [am_cv]
      · exact hrc.elim
  · exact hF.elim

set_option maxHeartbeats 1000000 in
theorem am_r_invokestatic {G : am_G} {sh : List am_D} {TS NS : List Cond} {cl : List vw_C} {EX : (Nat → Prop) → State → Heap → Prop} {l : Launch} (hok : am_Ok G TS NS cl) (hsh : am_Sh cl sh) {μ pc len tg nc : Nat} {lo : List (Option Value)} {st : List Value} {h : am_S} {Q : am_Q} (hEX : am_EX EX) (hNS : ∀ w ∈ NS, ∀ {u U : State}, u.WarmedH U.vm → va_Nw w u → va_Nw w U) {ix : Nat} (hc : am_code G μ pc = some (.invokestatic ix, len, tg))
    (hF : am_go (am_PW G sh TS NS cl EX l) (am_PW G sh TS NS cl EX l) (am_op G sh μ pc len tg nc lo st h (.invokestatic ix)) Q) : am_PW G sh TS NS cl EX l (μ, pc, nc, lo, st, h) Q := by
  intro M hM p e s m args below meth cd H locs A ls ad ca D hB hE hK hP hD hS hA hl Qc XC hQ hX
  obtain ⟨hdec, hln, htg⟩ := am_code_spec hM hc
  obtain ⟨hx, hb, hr, hml, hown, hts, hns, hlocks, hnoex⟩ := id hB
  have go : ∀ (pc' nc' : Nat) (st' : List Value), am_PW G sh TS NS cl EX l (μ, pc', nc', lo, st', h) Q → W p l e M.2.2.2.2.2 s m args below meth cd H locs nc' (6 * nc') (vx_MQ below Qc XC args s M.2.2.2.2.2.cells M.2.2.2.2.2.slots A) (F0 m pc' ls (st'.map (am_cv ad))) :=
    fun pc' nc' st' k => k M hM p e s m args below meth cd H locs A ls ad ca D hB hE hK hP hD hS hA hl Qc XC hQ hX
  obtain rfl : len = 3 := by simpa [am_ln] using hln
  dsimp only [am_op] at hF
  split at hF
  · rename_i μ' n hcal
    obtain ⟨M', hM', hlk, hstat, hdesc, hfr, hlo⟩ := hok.2.2.2.2.1 μ M ix μ' n hM hcal
    cases hpp : am_pp n st [] with
    | none => simp only [am_inv, hpp] at hF; exact hF.elim
    | some q =>
      obtain ⟨av, rest⟩ := q
      simp only [am_inv, hpp] at hF
      obtain ⟨⟨hrc, hct, hnl, hn⟩, hPW⟩ := hF
      obtain ⟨pre, rfl, hav, hpl, hpc⟩ := am_pp_spec hpp
      rw [List.append_nil] at hav
      subst hav
      rw [am_nc_of hM', am_nc_of hM] at hn
      rw [am_ml_of hM'] at hnl
      rw [am_ml_of hM'] at hPW
      have hcat : ∀ v ∈ pre.reverse, v.category = 1 := fun v hv => hpc v (List.mem_reverse.mp hv)
      have hmet := am_met hok hEX hM' (by rw [List.length_reverse, hpl]; exact hnl) hcat hPW ad ca D H.size
      have hmok := hok.2.1 μ' M' hM'
      have hmok0 := hok.2.1 μ M hM
      have hpar : ∀ sig, parseMethodDescriptor M'.1.desc = some sig → n = sig.parameters.length := fun sig h9 => by
        rw [h9] at hdesc
        exact (Option.some.inj hdesc).symm
      have hcb : CallB M.2.2.2.2.2 s args M.1.cls ix M'.1 M'.2.1 M'.2.2.1 M'.2.2.2.1 (Cond.code M'.1 M'.2.1 M'.2.2.1 M'.2.2.2.1 :: TS) M'.2.2.2.2.2 M'.2.2.2.2.2.cells M'.2.2.2.2.2.slots n := by
        refine ⟨rfl, rfl, hfr, hlo, fun w hw a' U hW => ?_, List.mem_cons_self, hts _ hmok.2.1, hts _ hmok.2.2.1, hmok.2.2.2.1, hpar, hts _ hlk⟩
        rcases List.mem_cons.mp hw with rfl | hw
        · exact word_at hW (good_of_word (hok.1 _ hmok.2.1)) (hts _ hmok.2.1)
        · exact word_at hW (good_of_word (hok.1 _ hw)) (hts w hw)
      have hps := am_pre (l := l) (G := G) (TS := TS) (M' := M') hEX (av := pre.reverse) hNS hE hns hK hP hD hS hA
      have hf : nc + M'.2.2.2.2.2.cells ≤ M.2.2.2.2.2.cells ∧ 6 * nc + M'.2.2.2.2.2.slots ≤ M.2.2.2.2.2.slots := ⟨hn, by rw [hmok.2.2.2.2, hmok0.2.2.2.2, ← Nat.mul_add]; exact Nat.mul_le_mul_left 6 hn⟩
      have hst8 : ((rest.map (am_cv ad)).map fun v => v.category).sum ≤ 8 := by rw [am_ct_map]; exact hct
      refine am_back hok hM hM' hB hE hK hD hS hA hl hQ hX hn (a := (pre.reverse.map (am_cv ad)).toArray) (rest := rest) (vx_runS (As := pre.reverse.map (am_cv ad)) (rest := rest.map (am_cv ad)) ⟨hx, hb, hml, hown, hts⟩ hmet ⟨hcb, hts _ hstat⟩ hps rfl (by rw [List.length_map, List.length_reverse]; exact hpl) hl.1 ?_ (lv_room hst8) hdec hf)
      simp [List.map_reverse]
  · rename_i a9 b9 hcal
    obtain ⟨k1, k2, k3, k4, k5, k6⟩ := hok.2.2.2.2.2.1 μ M ix a9 b9 hM hcal
    split at hF
    · have hcn := hF.1.2
      rw [am_nc_of hM] at hcn
      exact va_mmax hx hb (hml.trans hl.1.symm) hown (hts _ k1) (hts _ k2) (hts _ k3) (hts _ k4) k5 (am_ctr hF.1.1 (by omega)) hcn (by rw [(hok.2.1 μ M hM).2.2.2.2]; exact Nat.mul_le_mul_left 6 hcn) hdec (go _ _ _ (hF.2.1 trivial))
    · exact hF.elim
  · rename_i a9 b9 hcal
    obtain ⟨k1, k2, k3, k4, k5, k6⟩ := hok.2.2.2.2.2.2.1 μ M ix a9 b9 hM hcal
    split at hF
    · have hcn := hF.1.2
      rw [am_nc_of hM] at hcn
      exact va_mmin hx hb (hml.trans hl.1.symm) hown (hts _ k1) (hts _ k2) (hts _ k3) (hts _ k4) k5 (am_ctr hF.1.1 (by omega)) hcn (by rw [(hok.2.1 μ M hM).2.2.2.2]; exact Nat.mul_le_mul_left 6 hcn) hdec (go _ _ _ (hF.2.1 trivial))
    · exact hF.elim
  · rename_i a9 b9 hcal
    obtain ⟨k1, k2, k3, k4, k5, k6⟩ := hok.2.2.2.2.2.2.2.1 μ M ix a9 b9 hM hcal
    split at hF
    · have hcn := hF.1.2
      rw [am_nc_of hM] at hcn
      exact va_mmin_long hx hb (hml.trans hl.1.symm) hown (hts _ k1) (hts _ k2) (hts _ k3) (hts _ k4) k5 (am_ctr hF.1.1 (by omega)) hcn (by rw [(hok.2.1 μ M hM).2.2.2.2]; exact Nat.mul_le_mul_left 6 hcn) hdec (go _ _ _ (hF.2.1 trivial))
    · exact hF.elim
  · exact hF.elim

set_option maxHeartbeats 4000000 in
theorem am_sound {G : am_G} {sh : List am_D} {TS NS : List Cond} {cl : List vw_C} {EX : (Nat → Prop) → State → Heap → Prop} {l : Launch} (hok : am_Ok G TS NS cl) (hsh : am_Sh cl sh) (hEX : am_EX EX) (hNS : ∀ w ∈ NS, ∀ {u U : State}, u.WarmedH U.vm → va_Nw w u → va_Nw w U) (hth : am_TH G TS NS EX l) (c : am_C) (Q : am_Q) (hF : am_go (am_PW G sh TS NS cl EX l) (am_PW G sh TS NS cl EX l) (am_step G sh c) Q) : am_PW G sh TS NS cl EX l c Q := by
  obtain ⟨μ, pc, nc, lo, st, h⟩ := c
  cases hc : am_code G μ pc with
  | none => simp only [am_step, hc] at hF; exact hF.elim
  | some z =>
    obtain ⟨i, len, tg⟩ := z
    simp only [am_step, hc] at hF
    cases i with
    | iconst v => exact am_r_iconst hok hsh hc hF
    | bipush v => exact am_r_bipush hok hsh hc hF
    | sipush v => exact am_r_sipush hok hsh hc hF
    | lconst v => exact am_r_lconst hok hsh hc hF
    | ldc ix => exact am_r_ldc hok hsh hc hF
    | ldc2_w ix => exact am_r_ldc2 hok hsh hc hF
    | iload_n k => exact am_r_iload_n hok hsh hc hF
    | iload k => exact am_r_iload hok hsh hc hF
    | istore_n k => exact am_r_istore_n hok hsh hc hF
    | istore k => exact am_r_istore hok hsh hc hF
    | lload_n k => exact am_r_lload_n hok hsh hc hF
    | lload k => exact am_r_lload hok hsh hc hF
    | lstore_n k => exact am_r_lstore_n hok hsh hc hF
    | lstore k => exact am_r_lstore hok hsh hc hF
    | aload_n k => exact am_r_aload_n hok hsh hc hF
    | aload k => exact am_r_aload hok hsh hc hF
    | astore_n k => exact am_r_astore_n hok hsh hc hF
    | astore k => exact am_r_astore hok hsh hc hF
    | iinc k v => exact am_r_iinc hok hsh hc hF
    | iadd => exact am_r_iadd hok hsh hc hF
    | isub => exact am_r_isub hok hsh hc hF
    | imul => exact am_r_imul hok hsh hc hF
    | iand => exact am_r_iand hok hsh hc hF
    | ixor => exact am_r_ixor hok hsh hc hF
    | ladd => exact am_r_ladd hok hsh hc hF
    | irem => exact am_r_irem hok hsh hc hF
    | i2l => exact am_r_i2l hok hsh hc hF
    | l2i => exact am_r_l2i hok hsh hc hF
    | dup => exact am_r_dup hok hsh hc hF
    | pop => exact am_r_pop hok hsh hc hF
    | dup2 => exact am_r_dup2 hok hsh hc hF
    | dup_x1 => exact am_r_dup_x1 hok hsh hc hF
    | goto off => exact am_r_goto hok hsh hc hF
    | ifCond cc off => exact am_r_ifCond hok hsh hc hF
    | if_icmp cc off => exact am_r_if_icmp hok hsh hc hF
    | getfield ix => exact am_r_getfield hok hsh hc hF
    | putfield ix => exact am_r_putfield hok hsh hc hF
    | iaload => exact am_r_iaload hok hsh hc hF
    | baload => exact am_r_baload hok hsh hc hF
    | iastore => exact am_r_iastore hok hsh hc hF
    | bastore => exact am_r_bastore hok hsh hc hF
    | arraylength => exact am_r_arraylength hok hsh hc hF
    | ireturn => exact am_r_ireturn hok hsh hc hF
    | return_ => exact am_r_return hok hsh hc hF
    | new ix => exact am_r_new hok hsh hth hc hF
    | tableswitch d lw up offs => exact am_r_tableswitch hok hsh hc hF
    | invokevirtual ix => exact am_r_invokevirtual hok hsh hEX hNS hc hF
    | invokestatic ix => exact am_r_invokestatic hok hsh hEX hNS hc hF
    | _ => exact hF.elim
theorem am_AW.sound {G : am_G} {sh : List am_D} {TS NS : List Cond} {cl : List vw_C} {EX : (Nat → Prop) → State → Heap → Prop} {l : Launch} (hok : am_Ok G TS NS cl) (hsh : am_Sh cl sh) (hEX : am_EX EX) (hNS : ∀ w ∈ NS, ∀ {u U : State}, u.WarmedH U.vm → va_Nw w u → va_Nw w U) (hth : am_TH G TS NS EX l) {c : am_C} {Q : am_Q} (h : am_AW G sh c Q) : am_PW G sh TS NS cl EX l c Q :=
  h _ (am_PW_mono G sh TS NS cl EX l) (am_sound hok hsh hEX hNS hth)
end
section
/-! TABLES of the abstract machine for this system, laid by a program (wip/whole/mk04.py) out of the Statement's words. Classes: 0 Groups, 1 Told, 2 Twins, 3 Walk, 4 TermNet, 5 TermNetModel, 6 Math, 7 Arrays. -/
theorem tn_lk {β : Type} {k : Nat × Nat} {v : β} : ∀ {l : List ((Nat × Nat) × β)}, l.lookup k = some v → (k, v) ∈ l
  | [], h => by simp at h
  | (a, b) :: l, h => by
    simp only [List.lookup] at h
    split at h
    · rename_i e
      cases h
      have := eq_of_beq e
      subst this
      exact List.mem_cons_self
    · exact List.mem_cons_of_mem _ (tn_lk h)
def tn_TS : List Cond := lw_tbl.filter goodWord
theorem tn_in {w : Cond} (i : Nat) (h : lw_tbl[i]? = some w) (g : goodWord w = true) : w ∈ tn_TS := List.mem_filter.mpr ⟨List.mem_of_getElem? h, g⟩
def tn_R0 : String := "TermNet$Groups"
def tn_T0 : u_T := fun k => match k with
  | 0 => ("TermNet$Groups", "told", "LTermNet$Told;", true)
  | 1 => ("TermNet$Groups", "leader", "[I", true)
  | 2 => ("TermNet$Groups", "ring", "[I", true)
  | 3 => ("TermNet$Groups", "shape", "[I", true)
  | 4 => ("TermNet$Groups", "trail", "[I", true)
  | _ => ("TermNet$Groups", "merges", "I", false)
def tn_ty0 : Nat → FieldType := fun k => match k with
  | 0 => .object "TermNet$Told"
  | 1 => .array .int
  | 2 => .array .int
  | 3 => .array .int
  | 4 => .array .int
  | _ => .int
theorem tn_nm0 : ∀ a, a < 6 → ∀ b, b < 6 → a ≠ b → (tn_T0 a).2.1 ≠ (tn_T0 b).2.1 := by decide +kernel
theorem tn_to0 : ∀ k, k < 6 → parseFieldDescriptor (tn_T0 k).2.2.1 = some (tn_ty0 k) := by decide +kernel
theorem tn_iw0 : ∀ w ∈ u_ws tn_R0 tn_T0 6, w ∈ tn_TS := fun w h => List.mem_filter.mpr ⟨(by decide +kernel : ∀ w ∈ u_ws tn_R0 tn_T0 6, w ∈ lw_tbl) w h, (by decide +kernel : ∀ w ∈ u_ws tn_R0 tn_T0 6, goodWord w = true) w h⟩
def tn_R1 : String := "TermNet$Told"
def tn_T1 : u_T := fun k => match k with
  | 0 => ("TermNet$Told", "partsOfSign", "[I", true)
  | 1 => ("TermNet$Told", "signOf", "[I", true)
  | 2 => ("TermNet$Told", "parts", "[I", true)
  | 3 => ("TermNet$Told", "signs", "I", false)
  | _ => ("TermNet$Told", "terms", "I", false)
def tn_ty1 : Nat → FieldType := fun k => match k with
  | 0 => .array .int
  | 1 => .array .int
  | 2 => .array .int
  | 3 => .int
  | _ => .int
theorem tn_nm1 : ∀ a, a < 5 → ∀ b, b < 5 → a ≠ b → (tn_T1 a).2.1 ≠ (tn_T1 b).2.1 := by decide +kernel
theorem tn_to1 : ∀ k, k < 5 → parseFieldDescriptor (tn_T1 k).2.2.1 = some (tn_ty1 k) := by decide +kernel
theorem tn_iw1 : ∀ w ∈ u_ws tn_R1 tn_T1 5, w ∈ tn_TS := fun w h => List.mem_filter.mpr ⟨(by decide +kernel : ∀ w ∈ u_ws tn_R1 tn_T1 5, w ∈ lw_tbl) w h, (by decide +kernel : ∀ w ∈ u_ws tn_R1 tn_T1 5, goodWord w = true) w h⟩
def tn_R2 : String := "TermNet$Twins"
def tn_T2 : u_T := fun k => match k with
  | 0 => ("TermNet$Twins", "groups", "LTermNet$Groups;", true)
  | 1 => ("TermNet$Twins", "first", "[I", true)
  | 2 => ("TermNet$Twins", "next", "[I", true)
  | _ => ("TermNet$Twins", "print", "[I", true)
def tn_ty2 : Nat → FieldType := fun k => match k with
  | 0 => .object "TermNet$Groups"
  | 1 => .array .int
  | 2 => .array .int
  | _ => .array .int
theorem tn_nm2 : ∀ a, a < 4 → ∀ b, b < 4 → a ≠ b → (tn_T2 a).2.1 ≠ (tn_T2 b).2.1 := by decide +kernel
theorem tn_to2 : ∀ k, k < 4 → parseFieldDescriptor (tn_T2 k).2.2.1 = some (tn_ty2 k) := by decide +kernel
theorem tn_iw2 : ∀ w ∈ u_ws tn_R2 tn_T2 4, w ∈ tn_TS := fun w h => List.mem_filter.mpr ⟨(by decide +kernel : ∀ w ∈ u_ws tn_R2 tn_T2 4, w ∈ lw_tbl) w h, (by decide +kernel : ∀ w ∈ u_ws tn_R2 tn_T2 4, goodWord w = true) w h⟩
def tn_R3 : String := "TermNet$Walk"
def tn_T3 : u_T := fun k => match k with
  | 0 => ("TermNet$Walk", "groups", "LTermNet$Groups;", true)
  | 1 => ("TermNet$Walk", "state", "[I", true)
  | 2 => ("TermNet$Walk", "partsTried", "[I", true)
  | 3 => ("TermNet$Walk", "path", "[I", true)
  | 4 => ("TermNet$Walk", "order", "[I", true)
  | 5 => ("TermNet$Walk", "value", "[I", true)
  | 6 => ("TermNet$Walk", "pathLength", "I", false)
  | _ => ("TermNet$Walk", "ordered", "I", false)
def tn_ty3 : Nat → FieldType := fun k => match k with
  | 0 => .object "TermNet$Groups"
  | 1 => .array .int
  | 2 => .array .int
  | 3 => .array .int
  | 4 => .array .int
  | 5 => .array .int
  | 6 => .int
  | _ => .int
theorem tn_nm3 : ∀ a, a < 8 → ∀ b, b < 8 → a ≠ b → (tn_T3 a).2.1 ≠ (tn_T3 b).2.1 := by decide +kernel
theorem tn_to3 : ∀ k, k < 8 → parseFieldDescriptor (tn_T3 k).2.2.1 = some (tn_ty3 k) := by decide +kernel
theorem tn_iw3 : ∀ w ∈ u_ws tn_R3 tn_T3 8, w ∈ tn_TS := fun w h => List.mem_filter.mpr ⟨(by decide +kernel : ∀ w ∈ u_ws tn_R3 tn_T3 8, w ∈ lw_tbl) w h, (by decide +kernel : ∀ w ∈ u_ws tn_R3 tn_T3 8, goodWord w = true) w h⟩
def tn_R4 : String := "TermNet"
def tn_T4 : u_T := fun k => match k with
  | 0 => ("TermNet", "told", "LTermNet$Told;", true)
  | 1 => ("TermNet", "groups", "LTermNet$Groups;", true)
  | 2 => ("TermNet", "walk", "LTermNet$Walk;", true)
  | 3 => ("TermNet", "twins", "LTermNet$Twins;", true)
  | 4 => ("TermNet", "pointTerms", "[I", true)
  | 5 => ("TermNet", "pointMerges", "[I", true)
  | 6 => ("TermNet", "pointEquations", "[I", true)
  | 7 => ("TermNet", "points", "I", false)
  | _ => ("TermNet", "equations", "I", false)
def tn_ty4 : Nat → FieldType := fun k => match k with
  | 0 => .object "TermNet$Told"
  | 1 => .object "TermNet$Groups"
  | 2 => .object "TermNet$Walk"
  | 3 => .object "TermNet$Twins"
  | 4 => .array .int
  | 5 => .array .int
  | 6 => .array .int
  | 7 => .int
  | _ => .int
theorem tn_nm4 : ∀ a, a < 9 → ∀ b, b < 9 → a ≠ b → (tn_T4 a).2.1 ≠ (tn_T4 b).2.1 := by decide +kernel
theorem tn_to4 : ∀ k, k < 9 → parseFieldDescriptor (tn_T4 k).2.2.1 = some (tn_ty4 k) := by decide +kernel
theorem tn_iw4 : ∀ w ∈ u_ws tn_R4 tn_T4 9, w ∈ tn_TS := fun w h => List.mem_filter.mpr ⟨(by decide +kernel : ∀ w ∈ u_ws tn_R4 tn_T4 9, w ∈ lw_tbl) w h, (by decide +kernel : ∀ w ∈ u_ws tn_R4 tn_T4 9, goodWord w = true) w h⟩
def tn_R5 : String := "TermNetModel"
def tn_T5 : u_T := fun k => match k with
  | 0 => ("TermNetModel", "arity", "[I", true)
  | 1 => ("TermNetModel", "sign", "[I", true)
  | 2 => ("TermNetModel", "parts", "[I", true)
  | 3 => ("TermNetModel", "signs", "I", false)
  | 4 => ("TermNetModel", "terms", "I", false)
  | 5 => ("TermNetModel", "points", "I", false)
  | 6 => ("TermNetModel", "equations", "I", false)
  | 7 => ("TermNetModel", "thrown", "I", false)
  | 8 => ("TermNetModel", "least", "[I", true)
  | 9 => ("TermNetModel", "tried", "[I", true)
  | 10 => ("TermNetModel", "hadTerms", "[I", true)
  | 11 => ("TermNetModel", "hadEquations", "[I", true)
  | 12 => ("TermNetModel", "had", "[I", true)
  | 13 => ("TermNetModel", "known", "[I", true)
  | 14 => ("TermNetModel", "sizes", "[I", true)
  | 15 => ("TermNetModel", "depths", "[I", true)
  | 16 => ("TermNetModel", "ready", "[Z", true)
  | _ => ("TermNetModel", "in", "[Z", true)
def tn_ty5 : Nat → FieldType := fun k => match k with
  | 0 => .array .int
  | 1 => .array .int
  | 2 => .array .int
  | 3 => .int
  | 4 => .int
  | 5 => .int
  | 6 => .int
  | 7 => .int
  | 8 => .array .int
  | 9 => .array .int
  | 10 => .array .int
  | 11 => .array .int
  | 12 => .array .int
  | 13 => .array .int
  | 14 => .array .int
  | 15 => .array .int
  | 16 => .array .boolean
  | _ => .array .boolean
theorem tn_nm5 : ∀ a, a < 18 → ∀ b, b < 18 → a ≠ b → (tn_T5 a).2.1 ≠ (tn_T5 b).2.1 := by decide +kernel
theorem tn_to5 : ∀ k, k < 18 → parseFieldDescriptor (tn_T5 k).2.2.1 = some (tn_ty5 k) := by decide +kernel
theorem tn_iw5 : ∀ w ∈ u_ws tn_R5 tn_T5 18, w ∈ tn_TS := fun w h => List.mem_filter.mpr ⟨(by decide +kernel : ∀ w ∈ u_ws tn_R5 tn_T5 18, w ∈ lw_tbl) w h, (by decide +kernel : ∀ w ∈ u_ws tn_R5 tn_T5 18, goodWord w = true) w h⟩
def tn_R6 : String := "java/lang/Math"
def tn_R7 : String := "java/util/Arrays"
abbrev tn_cl : List vw_C := [(tn_R0, tn_T0, 6), (tn_R1, tn_T1, 5), (tn_R2, tn_T2, 4), (tn_R3, tn_T3, 8), (tn_R4, tn_T4, 9), (tn_R5, tn_T5, 18)]
def tn_cn : Nat → String := fun c => match c with
  | 0 => tn_R0
  | 1 => tn_R1
  | 2 => tn_R2
  | 3 => tn_R3
  | 4 => tn_R4
  | 5 => tn_R5
  | 6 => tn_R6
  | _ => tn_R7
def tn_NS : List Cond := [.fieldLinkNest "TermNet$Groups" 32 "TermNet$Told" "signOf" "[I" "TermNet", .fieldLinkNest "TermNet$Twins" 67 "TermNet$Told" "signOf" "[I" "TermNet", .fieldLinkNest "TermNet" 134 "TermNet$Told" "signOf" "[I" "TermNet", .fieldLinkNest "TermNet" 65 "TermNet$Told" "signs" "I" "TermNet", .fieldLinkNest "TermNet" 115 "TermNet$Told" "terms" "I" "TermNet", .fieldLinkNest "TermNet$Groups" 48 "TermNet$Told" "terms" "I" "TermNet", .fieldLinkNest "TermNet$Twins" 63 "TermNet$Groups" "told" "LTermNet$Told;" "TermNet", .fieldLinkNest "TermNet" 104 "TermNet$Groups" "merges" "I" "TermNet", .fieldLinkNest "TermNet$Twins" 37 "TermNet$Walk" "order" "[I" "TermNet", .fieldLinkNest "TermNet$Twins" 31 "TermNet$Walk" "ordered" "I" "TermNet"]
theorem tn_NS_warm : ∀ w ∈ tn_NS, ∀ {u U : State}, u.WarmedH U.vm → va_Nw w u → va_Nw w U := by
  intro w hw u U hW h
  simp only [tn_NS, List.mem_cons, List.not_mem_nil, or_false] at hw
  rcases hw with rfl | rfl | rfl | rfl | rfl | rfl | rfl | rfl | rfl | rfl <;> exact va_Nw.warmF hW h
theorem tn_NS_in : ∀ w ∈ tn_NS, w ∈ lw_tbl := by decide +kernel
/-- 0: TermNet$Groups.knownGroups()I -/
def tn_m0 : am_M := (⟨tn_R0, "knownGroups", "()I"⟩, prog_2_method_8_code, 3, (some .int), 0, { frames := 0, cells := 0, slots := 0, locals := 0 })
/-- 1: TermNet$Groups.found(I)V -/
def tn_m1 : am_M := (⟨tn_R0, "found", "(I)V"⟩, prog_2_method_2_code, 2, none, 0, { frames := 0, cells := 0, slots := 0, locals := 0 })
/-- 2: TermNet$Groups.joinToTwin(I)V -/
def tn_m2 : am_M := (⟨tn_R0, "joinToTwin", "(I)V"⟩, prog_2_method_16_code, 3, none, 0, { frames := 2, cells := 0, slots := 0, locals := 48 })
/-- 3: TermNet$Groups.areTwins(II)Z -/
def tn_m3 : am_M := (⟨tn_R0, "areTwins", "(II)Z"⟩, prog_2_method_17_code, 4, (some .boolean), 0, { frames := 1, cells := 0, slots := 0, locals := 22 })
/-- 4: TermNet$Groups.join(II)V -/
def tn_m4 : am_M := (⟨tn_R0, "join", "(II)V"⟩, prog_2_method_9_code, 5, none, 0, { frames := 1, cells := 0, slots := 0, locals := 24 })
/-- 5: TermNet$Groups.leadRing(II)V -/
def tn_m5 : am_M := (⟨tn_R0, "leadRing", "(II)V"⟩, prog_2_method_14_code, 5, none, 0, { frames := 0, cells := 0, slots := 0, locals := 0 })
/-- 6: TermNet$Groups.swapLinks(II)V -/
def tn_m6 : am_M := (⟨tn_R0, "swapLinks", "(II)V"⟩, prog_2_method_15_code, 4, none, 0, { frames := 0, cells := 0, slots := 0, locals := 0 })
/-- 7: TermNet$Groups.settle(I)Z -/
def tn_m7 : am_M := (⟨tn_R0, "settle", "(I)Z"⟩, prog_2_method_10_code, 3, (some .boolean), 0, { frames := 3, cells := 0, slots := 0, locals := 72 })
/-- 8: TermNet$Groups.joinParts(I)Z -/
def tn_m8 : am_M := (⟨tn_R0, "joinParts", "(I)Z"⟩, prog_2_method_11_code, 5, (some .boolean), 0, { frames := 2, cells := 0, slots := 0, locals := 48 })
/-- 9: TermNet$Groups.shapeOf(I)I -/
def tn_m9 : am_M := (⟨tn_R0, "shapeOf", "(I)I"⟩, prog_2_method_4_code, 2, (some .int), 0, { frames := 0, cells := 0, slots := 0, locals := 0 })
/-- 10: TermNet$Groups.leaderOf(I)I -/
def tn_m10 : am_M := (⟨tn_R0, "leaderOf", "(I)I"⟩, prog_2_method_3_code, 2, (some .int), 0, { frames := 0, cells := 0, slots := 0, locals := 0 })
/-- 11: TermNet$Groups.partsOf(I)I -/
def tn_m11 : am_M := (⟨tn_R0, "partsOf", "(I)I"⟩, prog_2_method_6_code, 3, (some .int), 0, { frames := 1, cells := 0, slots := 0, locals := 21 })
/-- 12: TermNet$Groups.partLeader(II)I -/
def tn_m12 : am_M := (⟨tn_R0, "partLeader", "(II)I"⟩, prog_2_method_7_code, 3, (some .int), 0, { frames := 1, cells := 0, slots := 0, locals := 22 })
/-- 13: TermNet$Groups.undoTo(I)V -/
def tn_m13 : am_M := (⟨tn_R0, "undoTo", "(I)V"⟩, prog_2_method_12_code, 3, none, 0, { frames := 2, cells := 0, slots := 0, locals := 46 })
/-- 14: TermNet$Groups.undo(I)V -/
def tn_m14 : am_M := (⟨tn_R0, "undo", "(I)V"⟩, prog_2_method_13_code, 3, none, 0, { frames := 1, cells := 0, slots := 0, locals := 24 })
/-- 15: TermNet$Groups.isKnown(I)Z -/
def tn_m15 : am_M := (⟨tn_R0, "isKnown", "(I)Z"⟩, prog_2_method_5_code, 2, (some .boolean), 0, { frames := 1, cells := 0, slots := 0, locals := 21 })
/-- 16: TermNet$Told.addSign(I)I -/
def tn_m16 : am_M := (⟨tn_R1, "addSign", "(I)I"⟩, prog_3_method_4_code, 2, (some .int), 1, { frames := 0, cells := 0, slots := 0, locals := 0 })
/-- 17: TermNet$Told.addUnknown()I -/
def tn_m17 : am_M := (⟨tn_R1, "addUnknown", "()I"⟩, prog_3_method_5_code, 1, (some .int), 1, { frames := 0, cells := 0, slots := 0, locals := 0 })
/-- 18: TermNet$Told.canBeTerm(IIII)Z -/
def tn_m18 : am_M := (⟨tn_R1, "canBeTerm", "(IIII)Z"⟩, prog_3_method_3_code, 6, (some .boolean), 1, { frames := 1, cells := 0, slots := 0, locals := 21 })
/-- 19: TermNet$Told.isTerm(I)Z -/
def tn_m19 : am_M := (⟨tn_R1, "isTerm", "(I)Z"⟩, prog_3_method_2_code, 2, (some .boolean), 1, { frames := 0, cells := 0, slots := 0, locals := 0 })
/-- 20: TermNet$Told.addTerm(IIII)I -/
def tn_m20 : am_M := (⟨tn_R1, "addTerm", "(IIII)I"⟩, prog_3_method_6_code, 5, (some .int), 1, { frames := 0, cells := 0, slots := 0, locals := 0 })
/-- 21: TermNet$Told.partsOfTerm(I)I -/
def tn_m21 : am_M := (⟨tn_R1, "partsOfTerm", "(I)I"⟩, prog_3_method_7_code, 2, (some .int), 1, { frames := 0, cells := 0, slots := 0, locals := 0 })
/-- 22: TermNet$Told.partOfTerm(II)I -/
def tn_m22 : am_M := (⟨tn_R1, "partOfTerm", "(II)I"⟩, prog_3_method_8_code, 3, (some .int), 1, { frames := 0, cells := 0, slots := 0, locals := 0 })
/-- 23: TermNet$Twins.joinAll(LTermNet$Walk;)V -/
def tn_m23 : am_M := (⟨tn_R2, "joinAll", "(LTermNet$Walk;)V"⟩, prog_4_method_2_code, 4, none, 2, { frames := 3, cells := 0, slots := 0, locals := 72 })
/-- 24: TermNet$Twins.printOf(I)I -/
def tn_m24 : am_M := (⟨tn_R2, "printOf", "(I)I"⟩, prog_4_method_3_code, 4, (some .int), 2, { frames := 2, cells := 0, slots := 0, locals := 44 })
/-- 25: TermNet$Twins.joinOrKeep(II)V -/
def tn_m25 : am_M := (⟨tn_R2, "joinOrKeep", "(II)V"⟩, prog_4_method_4_code, 5, none, 2, { frames := 2, cells := 0, slots := 0, locals := 48 })
/-- 26: TermNet$Walk.overAll(I)Z -/
def tn_m26 : am_M := (⟨tn_R3, "overAll", "(I)Z"⟩, prog_5_method_2_code, 3, (some .boolean), 3, { frames := 4, cells := 0, slots := 0, locals := 88 })
/-- 27: TermNet$Walk.begin()V -/
def tn_m27 : am_M := (⟨tn_R3, "begin", "()V"⟩, prog_5_method_10_code, 1, none, 3, { frames := 1, cells := 0, slots := 0, locals := 23 })
/-- 28: TermNet$Walk.reach(I)Z -/
def tn_m28 : am_M := (⟨tn_R3, "reach", "(I)Z"⟩, prog_5_method_11_code, 4, (some .boolean), 3, { frames := 3, cells := 0, slots := 0, locals := 65 })
/-- 29: TermNet$Walk.enter(I)Z -/
def tn_m29 : am_M := (⟨tn_R3, "enter", "(I)Z"⟩, prog_5_method_13_code, 2, (some .boolean), 3, { frames := 0, cells := 0, slots := 0, locals := 0 })
/-- 30: TermNet$Walk.goOn(I)Z -/
def tn_m30 : am_M := (⟨tn_R3, "goOn", "(I)Z"⟩, prog_5_method_12_code, 2, (some .boolean), 3, { frames := 2, cells := 0, slots := 0, locals := 44 })
/-- 31: TermNet$Walk.sizeBelow(I)I -/
def tn_m31 : am_M := (⟨tn_R3, "sizeBelow", "(I)I"⟩, prog_5_method_3_code, 3, (some .int), 3, { frames := 5, cells := 0, slots := 0, locals := 109 })
/-- 32: TermNet$Walk.overTree(I)V -/
def tn_m32 : am_M := (⟨tn_R3, "overTree", "(I)V"⟩, prog_5_method_9_code, 2, none, 3, { frames := 4, cells := 0, slots := 0, locals := 88 })
/-- 33: TermNet$Walk.sizeOver(I)I -/
def tn_m33 : am_M := (⟨tn_R3, "sizeOver", "(I)I"⟩, prog_5_method_4_code, 5, (some .int), 3, { frames := 2, cells := 0, slots := 0, locals := 44 })
/-- 34: TermNet$Walk.depthBelow(I)I -/
def tn_m34 : am_M := (⟨tn_R3, "depthBelow", "(I)I"⟩, prog_5_method_5_code, 3, (some .int), 3, { frames := 5, cells := 0, slots := 0, locals := 109 })
/-- 35: TermNet$Walk.depthOver(I)I -/
def tn_m35 : am_M := (⟨tn_R3, "depthOver", "(I)I"⟩, prog_5_method_6_code, 4, (some .int), 3, { frames := 2, cells := 0, slots := 0, locals := 44 })
/-- 36: TermNet$Walk.findsBelow(II)Z -/
def tn_m36 : am_M := (⟨tn_R3, "findsBelow", "(II)Z"⟩, prog_5_method_8_code, 3, (some .boolean), 3, { frames := 5, cells := 0, slots := 0, locals := 109 })
/-- 37: TermNet$Walk.unknownsBelow(I)I -/
def tn_m37 : am_M := (⟨tn_R3, "unknownsBelow", "(I)I"⟩, prog_5_method_7_code, 4, (some .int), 3, { frames := 5, cells := 0, slots := 0, locals := 109 })
/-- 38: TermNet.count(I)I -/
def tn_m38 : am_M := (⟨tn_R4, "count", "(I)I"⟩, prog_1_method_16_code, 2, (some .int), 4, { frames := 1, cells := 0, slots := 0, locals := 22 })
/-- 39: TermNet.sign(I)I -/
def tn_m39 : am_M := (⟨tn_R4, "sign", "(I)I"⟩, prog_1_method_2_code, 2, (some .int), 4, { frames := 6, cells := 1, slots := 6, locals := 90 })
/-- 40: TermNet.unknown()I -/
def tn_m40 : am_M := (⟨tn_R4, "unknown", "()I"⟩, prog_1_method_3_code, 2, (some .int), 4, { frames := 7, cells := 1, slots := 6, locals := 110 })
/-- 41: TermNet.refuseWhenFull()V -/
def tn_m41 : am_M := (⟨tn_R4, "refuseWhenFull", "()V"⟩, prog_1_method_18_code, 1, none, 4, { frames := 6, cells := 1, slots := 6, locals := 90 })
/-- 42: TermNet.term(IIII)I -/
def tn_m42 : am_M := (⟨tn_R4, "term", "(IIII)I"⟩, prog_1_method_4_code, 6, (some .int), 4, { frames := 7, cells := 1, slots := 6, locals := 110 })
/-- 43: TermNet.equal(II)Z -/
def tn_m43 : am_M := (⟨tn_R4, "equal", "(II)Z"⟩, prog_1_method_5_code, 4, (some .boolean), 4, { frames := 7, cells := 2, slots := 12, locals := 111 })
/-- 44: TermNet.refuseUnlessTerm(I)V -/
def tn_m44 : am_M := (⟨tn_R4, "refuseUnlessTerm", "(I)V"⟩, prog_1_method_17_code, 2, none, 4, { frames := 6, cells := 1, slots := 6, locals := 90 })
/-- 45: TermNet.same(II)Z -/
def tn_m45 : am_M := (⟨tn_R4, "same", "(II)Z"⟩, prog_1_method_6_code, 3, (some .boolean), 4, { frames := 7, cells := 2, slots := 12, locals := 111 })
/-- 46: TermNet.top(I)I -/
def tn_m46 : am_M := (⟨tn_R4, "top", "(I)I"⟩, prog_1_method_7_code, 2, (some .int), 4, { frames := 7, cells := 1, slots := 6, locals := 111 })
/-- 47: TermNet.part(II)I -/
def tn_m47 : am_M := (⟨tn_R4, "part", "(II)I"⟩, prog_1_method_8_code, 3, (some .int), 4, { frames := 7, cells := 2, slots := 12, locals := 111 })
/-- 48: TermNet.least(I)I -/
def tn_m48 : am_M := (⟨tn_R4, "least", "(I)I"⟩, prog_1_method_9_code, 2, (some .int), 4, { frames := 7, cells := 1, slots := 6, locals := 111 })
/-- 49: TermNet.size(I)I -/
def tn_m49 : am_M := (⟨tn_R4, "size", "(I)I"⟩, prog_1_method_10_code, 2, (some .int), 4, { frames := 7, cells := 1, slots := 6, locals := 131 })
/-- 50: TermNet.depth(I)I -/
def tn_m50 : am_M := (⟨tn_R4, "depth", "(I)I"⟩, prog_1_method_11_code, 2, (some .int), 4, { frames := 7, cells := 1, slots := 6, locals := 131 })
/-- 51: TermNet.inside(II)Z -/
def tn_m51 : am_M := (⟨tn_R4, "inside", "(II)Z"⟩, prog_1_method_12_code, 3, (some .boolean), 4, { frames := 7, cells := 2, slots := 12, locals := 131 })
/-- 52: TermNet.unknowns(I)I -/
def tn_m52 : am_M := (⟨tn_R4, "unknowns", "(I)I"⟩, prog_1_method_13_code, 2, (some .int), 4, { frames := 7, cells := 1, slots := 6, locals := 132 })
/-- 53: TermNet.mark()I -/
def tn_m53 : am_M := (⟨tn_R4, "mark", "()I"⟩, prog_1_method_14_code, 1, (some .int), 4, { frames := 6, cells := 1, slots := 6, locals := 90 })
/-- 54: TermNet.back()I -/
def tn_m54 : am_M := (⟨tn_R4, "back", "()I"⟩, prog_1_method_15_code, 1, (some .int), 4, { frames := 6, cells := 1, slots := 6, locals := 90 })
/-- 55: TermNetModel.thrown()I -/
def tn_m55 : am_M := (⟨tn_R5, "thrown", "()I"⟩, prog_7_method_2_code, 1, (some .int), 5, { frames := 0, cells := 0, slots := 0, locals := 0 })
/-- 56: TermNetModel.sign(I)I -/
def tn_m56 : am_M := (⟨tn_R5, "sign", "(I)I"⟩, prog_7_method_4_code, 2, (some .int), 5, { frames := 0, cells := 0, slots := 0, locals := 0 })
/-- 57: TermNetModel.unknown()I -/
def tn_m57 : am_M := (⟨tn_R5, "unknown", "()I"⟩, prog_7_method_6_code, 1, (some .int), 5, { frames := 3, cells := 0, slots := 0, locals := 77 })
/-- 58: TermNetModel.add(IIII)I -/
def tn_m58 : am_M := (⟨tn_R5, "add", "(IIII)I"⟩, prog_7_method_5_code, 6, (some .int), 5, { frames := 2, cells := 0, slots := 0, locals := 52 })
/-- 59: TermNetModel.close([I)Z -/
def tn_m59 : am_M := (⟨tn_R5, "close", "([I)Z"⟩, prog_7_method_9_code, 7, (some .boolean), 5, { frames := 1, cells := 0, slots := 0, locals := 26 })
/-- 60: TermNetModel.join([III)V -/
def tn_m60 : am_M := (⟨tn_R5, "join", "([III)V"⟩, prog_7_method_8_code, 7, none, 5, { frames := 0, cells := 0, slots := 0, locals := 0 })
/-- 61: TermNetModel.term(IIII)I -/
def tn_m61 : am_M := (⟨tn_R5, "term", "(IIII)I"⟩, prog_7_method_7_code, 6, (some .int), 5, { frames := 3, cells := 0, slots := 0, locals := 77 })
/-- 62: TermNetModel.isTerm(I)Z -/
def tn_m62 : am_M := (⟨tn_R5, "isTerm", "(I)Z"⟩, prog_7_method_3_code, 2, (some .boolean), 5, { frames := 0, cells := 0, slots := 0, locals := 0 })
/-- 63: TermNetModel.equal(II)Z -/
def tn_m63 : am_M := (⟨tn_R5, "equal", "(II)Z"⟩, prog_7_method_11_code, 4, (some .boolean), 5, { frames := 2, cells := 0, slots := 0, locals := 52 })
/-- 64: TermNetModel.look([I)Z -/
def tn_m64 : am_M := (⟨tn_R5, "look", "([I)Z"⟩, prog_7_method_10_code, 12, (some .boolean), 5, { frames := 0, cells := 0, slots := 0, locals := 0 })
/-- 65: TermNetModel.same(II)Z -/
def tn_m65 : am_M := (⟨tn_R5, "same", "(II)Z"⟩, prog_7_method_12_code, 3, (some .boolean), 5, { frames := 1, cells := 0, slots := 0, locals := 21 })
/-- 66: TermNetModel.top(I)I -/
def tn_m66 : am_M := (⟨tn_R5, "top", "(I)I"⟩, prog_7_method_13_code, 4, (some .int), 5, { frames := 1, cells := 0, slots := 0, locals := 31 })
/-- 67: TermNetModel.part(II)I -/
def tn_m67 : am_M := (⟨tn_R5, "part", "(II)I"⟩, prog_7_method_14_code, 5, (some .int), 5, { frames := 1, cells := 0, slots := 0, locals := 31 })
/-- 68: TermNetModel.least(I)I -/
def tn_m68 : am_M := (⟨tn_R5, "least", "(I)I"⟩, prog_7_method_15_code, 2, (some .int), 5, { frames := 1, cells := 0, slots := 0, locals := 21 })
/-- 69: TermNetModel.size(I)I -/
def tn_m69 : am_M := (⟨tn_R5, "size", "(I)I"⟩, prog_7_method_16_code, 3, (some .int), 5, { frames := 1, cells := 0, slots := 0, locals := 31 })
/-- 70: TermNetModel.depth(I)I -/
def tn_m70 : am_M := (⟨tn_R5, "depth", "(I)I"⟩, prog_7_method_17_code, 3, (some .int), 5, { frames := 1, cells := 0, slots := 0, locals := 31 })
/-- 71: TermNetModel.inside(II)Z -/
def tn_m71 : am_M := (⟨tn_R5, "inside", "(II)Z"⟩, prog_7_method_19_code, 3, (some .boolean), 5, { frames := 2, cells := 0, slots := 0, locals := 58 })
/-- 72: TermNetModel.go(I)V -/
def tn_m72 : am_M := (⟨tn_R5, "go", "(I)V"⟩, prog_7_method_18_code, 8, none, 5, { frames := 1, cells := 0, slots := 0, locals := 31 })
/-- 73: TermNetModel.unknowns(I)I -/
def tn_m73 : am_M := (⟨tn_R5, "unknowns", "(I)I"⟩, prog_7_method_20_code, 4, (some .int), 5, { frames := 2, cells := 0, slots := 0, locals := 58 })
/-- 74: TermNetModel.mark()I -/
def tn_m74 : am_M := (⟨tn_R5, "mark", "()I"⟩, prog_7_method_21_code, 2, (some .int), 5, { frames := 0, cells := 0, slots := 0, locals := 0 })
/-- 75: TermNetModel.back()I -/
def tn_m75 : am_M := (⟨tn_R5, "back", "()I"⟩, prog_7_method_22_code, 2, (some .int), 5, { frames := 0, cells := 0, slots := 0, locals := 0 })
/-- 76: TermNetModel.count(I)I -/
def tn_m76 : am_M := (⟨tn_R5, "count", "(I)I"⟩, prog_7_method_23_code, 6, (some .int), 5, { frames := 1, cells := 0, slots := 0, locals := 31 })
/-- 77: java/lang/Math.floorMod(II)I -/
def tn_m77 : am_M := (⟨tn_R6, "floorMod", "(II)I"⟩, prog_11_method_50_code, 3, (some .int), 6, { frames := 0, cells := 0, slots := 0, locals := 0 })
/-- 78: java/util/Arrays.fill([II)V -/
def tn_m78 : am_M := (⟨tn_R7, "fill", "([II)V"⟩, prog_15_method_103_code, 4, none, 7, { frames := 0, cells := 0, slots := 0, locals := 0 })
def tn_M : List am_M := [tn_m0, tn_m1, tn_m2, tn_m3, tn_m4, tn_m5, tn_m6, tn_m7, tn_m8, tn_m9, tn_m10, tn_m11, tn_m12, tn_m13, tn_m14, tn_m15, tn_m16, tn_m17, tn_m18, tn_m19, tn_m20, tn_m21, tn_m22, tn_m23, tn_m24, tn_m25, tn_m26, tn_m27, tn_m28, tn_m29, tn_m30, tn_m31, tn_m32, tn_m33, tn_m34, tn_m35, tn_m36, tn_m37, tn_m38, tn_m39, tn_m40, tn_m41, tn_m42, tn_m43, tn_m44, tn_m45, tn_m46, tn_m47, tn_m48, tn_m49, tn_m50, tn_m51, tn_m52, tn_m53, tn_m54, tn_m55, tn_m56, tn_m57, tn_m58, tn_m59, tn_m60, tn_m61, tn_m62, tn_m63, tn_m64, tn_m65, tn_m66, tn_m67, tn_m68, tn_m69, tn_m70, tn_m71, tn_m72, tn_m73, tn_m74, tn_m75, tn_m76, tn_m77, tn_m78]
def tn_fl : List ((Nat × Nat) × (Nat × Nat)) := [((0, 15), (0, 2)), ((0, 18), (0, 3)), ((0, 21), (0, 4)), ((0, 24), (0, 5)), ((0, 28), (0, 0)), ((0, 32), (1, 1)), ((0, 48), (1, 4)), ((0, 9), (0, 1)), ((1, 15), (1, 1)), ((1, 18), (1, 2)), ((1, 21), (1, 3)), ((1, 25), (1, 4)), ((1, 9), (1, 0)), ((2, 11), (2, 1)), ((2, 15), (2, 2)), ((2, 18), (2, 3)), ((2, 21), (2, 0)), ((2, 31), (3, 7)), ((2, 37), (3, 4)), ((2, 63), (0, 0)), ((2, 67), (1, 1)), ((3, 15), (3, 2)), ((3, 18), (3, 3)), ((3, 21), (3, 4)), ((3, 24), (3, 5)), ((3, 27), (3, 6)), ((3, 31), (3, 7)), ((3, 34), (3, 0)), ((3, 9), (3, 1)), ((4, 10), (4, 0)), ((4, 104), (0, 5)), ((4, 115), (1, 4)), ((4, 134), (1, 1)), ((4, 21), (4, 1)), ((4, 30), (4, 2)), ((4, 37), (4, 3)), ((4, 41), (4, 4)), ((4, 45), (4, 5)), ((4, 48), (4, 6)), ((4, 51), (4, 7)), ((4, 55), (4, 8)), ((4, 65), (1, 3)), ((5, 13), (5, 1)), ((5, 16), (5, 2)), ((5, 19), (5, 8)), ((5, 22), (5, 9)), ((5, 25), (5, 10)), ((5, 28), (5, 11)), ((5, 31), (5, 12)), ((5, 34), (5, 13)), ((5, 37), (5, 14)), ((5, 40), (5, 15)), ((5, 43), (5, 16)), ((5, 47), (5, 17)), ((5, 50), (5, 7)), ((5, 54), (5, 4)), ((5, 57), (5, 3)), ((5, 80), (5, 6)), ((5, 87), (5, 5)), ((5, 9), (5, 0))]
def tn_ca : List ((Nat × Nat) × (Nat × Nat × Nat)) := [((2, 70), (0, 4, 2)), ((2, 77), (0, 3, 2)), ((3, 41), (0, 21, 1)), ((3, 44), (0, 22, 2)), ((4, 51), (4, 0, 0)), ((4, 56), (3, 0, 0)), ((4, 59), (0, 5, 2)), ((4, 63), (0, 6, 2)), ((7, 66), (0, 8, 1)), ((8, 37), (0, 9, 1)), ((8, 41), (0, 21, 1)), ((8, 44), (0, 22, 2)), ((8, 70), (0, 4, 2)), ((11, 37), (0, 9, 1)), ((11, 41), (0, 21, 1)), ((12, 37), (0, 9, 1)), ((12, 44), (0, 22, 2)), ((13, 73), (0, 14, 1)), ((14, 59), (0, 5, 2)), ((14, 63), (0, 6, 2)), ((15, 37), (0, 9, 1)), ((18, 28), (0, 19, 1)), ((23, 25), (2, 78, 2)), ((23, 40), (0, 24, 1)), ((23, 44), (0, 15, 1)), ((23, 50), (0, 9, 1)), ((23, 53), (2, 77, 2)), ((23, 59), (0, 25, 2)), ((24, 44), (0, 15, 1)), ((24, 50), (0, 9, 1)), ((24, 72), (0, 11, 1)), ((24, 76), (0, 12, 2)), ((25, 79), (0, 3, 2)), ((25, 83), (0, 4, 2)), ((26, 38), (0, 27, 0)), ((26, 41), (0, 10, 1)), ((26, 47), (0, 28, 1)), ((27, 82), (2, 78, 2)), ((28, 88), (0, 29, 1)), ((28, 91), (0, 30, 1)), ((30, 58), (0, 11, 1)), ((30, 61), (0, 12, 2)), ((30, 88), (0, 29, 1)), ((31, 41), (0, 10, 1)), ((31, 51), (0, 32, 1)), ((31, 55), (0, 33, 1)), ((32, 38), (0, 27, 0)), ((32, 41), (0, 10, 1)), ((32, 47), (0, 28, 1)), ((33, 58), (0, 11, 1)), ((33, 61), (0, 12, 2)), ((33, 67), (5, 0, 0)), ((34, 41), (0, 10, 1)), ((34, 51), (0, 32, 1)), ((34, 73), (0, 35, 1)), ((35, 58), (0, 11, 1)), ((35, 61), (0, 12, 2)), ((35, 76), (3, 0, 0)), ((36, 41), (0, 10, 1)), ((36, 51), (0, 32, 1)), ((37, 51), (0, 32, 1)), ((37, 79), (0, 15, 1)), ((38, 169), (0, 0, 0)), ((39, 73), (0, 16, 1)), ((40, 77), (0, 41, 0)), ((40, 80), (0, 17, 0)), ((40, 84), (0, 1, 1)), ((42, 77), (0, 41, 0)), ((42, 84), (0, 1, 1)), ((42, 88), (0, 18, 4)), ((42, 94), (0, 20, 4)), ((42, 98), (0, 2, 1)), ((43, 101), (0, 44, 1)), ((43, 107), (0, 4, 2)), ((43, 111), (0, 7, 1)), ((43, 118), (0, 26, 1)), ((43, 121), (0, 13, 1)), ((43, 124), (0, 23, 1)), ((44, 172), (0, 19, 1)), ((45, 101), (0, 44, 1)), ((45, 128), (0, 10, 1)), ((46, 101), (0, 44, 1)), ((46, 131), (0, 15, 1)), ((46, 137), (0, 9, 1)), ((47, 101), (0, 44, 1)), ((47, 140), (0, 11, 1)), ((47, 148), (0, 12, 2)), ((48, 101), (0, 44, 1)), ((48, 128), (0, 10, 1)), ((49, 101), (0, 44, 1)), ((49, 152), (0, 31, 1)), ((50, 101), (0, 44, 1)), ((50, 155), (0, 34, 1)), ((51, 101), (0, 44, 1)), ((51, 131), (0, 15, 1)), ((51, 158), (0, 36, 2)), ((52, 101), (0, 44, 1)), ((52, 162), (0, 37, 1)), ((54, 121), (0, 13, 1)), ((57, 64), (0, 58, 4)), ((58, 60), (0, 59, 1)), ((59, 72), (0, 60, 3)), ((61, 64), (0, 58, 4)), ((61, 68), (0, 62, 1)), ((63, 60), (0, 59, 1)), ((63, 68), (0, 62, 1)), ((63, 72), (0, 60, 3)), ((63, 77), (0, 64, 1)), ((65, 68), (0, 62, 1)), ((66, 68), (0, 62, 1)), ((66, 77), (0, 64, 1)), ((67, 68), (0, 62, 1)), ((67, 77), (0, 64, 1)), ((68, 68), (0, 62, 1)), ((69, 68), (0, 62, 1)), ((69, 77), (0, 64, 1)), ((70, 68), (0, 62, 1)), ((70, 77), (0, 64, 1)), ((71, 68), (0, 62, 1)), ((71, 83), (0, 72, 1)), ((72, 77), (0, 64, 1)), ((73, 68), (0, 62, 1)), ((73, 83), (0, 72, 1)), ((76, 77), (0, 64, 1))]
def tn_ki : List ((Nat × Nat) × Int32) := [((2, 75), 1000003), ((5, 76), 1000000000)]
def tn_kl : List ((Nat × Nat) × Int64) := [((3, 65), 1000000000)]
def tn_tw : List ((Nat × Nat) × String) := [((39, 9), "java/lang/IllegalArgumentException"), ((39, 31), "java/lang/IndexOutOfBoundsException"), ((41, 13), "java/lang/IndexOutOfBoundsException"), ((42, 15), "java/lang/IllegalArgumentException"), ((44, 11), "java/lang/IllegalArgumentException"), ((47, 21), "java/util/NoSuchElementException"), ((53, 9), "java/lang/IndexOutOfBoundsException"), ((54, 7), "java/util/NoSuchElementException")]
def tn_G : am_G := (tn_M, tn_fl, tn_ca, tn_ki, tn_kl, tn_tw)
def tn_okM (M : am_M) : Prop := (plainFor M.1 = true ∧ Cond.code M.1 M.2.1 M.2.2.1 M.2.2.2.1 ∈ tn_TS ∧ Cond.initialized M.1.cls ∈ tn_TS ∧ (M.1.cls ≠ "java/lang/invoke/MethodHandle" ∧ M.1.cls ≠ "java/lang/invoke/VarHandle") ∧ M.2.2.2.2.2.slots = 6 * M.2.2.2.2.2.cells) ∧ M.1.cls = tn_cn M.2.2.2.2.1
theorem tn_o0 : tn_okM tn_m0 := ⟨⟨by decide +kernel, tn_in 188 (by decide +kernel) (by decide +kernel), tn_in 25 (by decide +kernel) (by decide +kernel), by decide +kernel, rfl⟩, rfl⟩
theorem tn_o1 : tn_okM tn_m1 := ⟨⟨by decide +kernel, tn_in 305 (by decide +kernel) (by decide +kernel), tn_in 25 (by decide +kernel) (by decide +kernel), by decide +kernel, rfl⟩, rfl⟩
theorem tn_o2 : tn_okM tn_m2 := ⟨⟨by decide +kernel, tn_in 329 (by decide +kernel) (by decide +kernel), tn_in 25 (by decide +kernel) (by decide +kernel), by decide +kernel, rfl⟩, rfl⟩
theorem tn_o3 : tn_okM tn_m3 := ⟨⟨by decide +kernel, tn_in 333 (by decide +kernel) (by decide +kernel), tn_in 25 (by decide +kernel) (by decide +kernel), by decide +kernel, rfl⟩, rfl⟩
theorem tn_o4 : tn_okM tn_m4 := ⟨⟨by decide +kernel, tn_in 345 (by decide +kernel) (by decide +kernel), tn_in 25 (by decide +kernel) (by decide +kernel), by decide +kernel, rfl⟩, rfl⟩
theorem tn_o5 : tn_okM tn_m5 := ⟨⟨by decide +kernel, tn_in 355 (by decide +kernel) (by decide +kernel), tn_in 25 (by decide +kernel) (by decide +kernel), by decide +kernel, rfl⟩, rfl⟩
theorem tn_o6 : tn_okM tn_m6 := ⟨⟨by decide +kernel, tn_in 359 (by decide +kernel) (by decide +kernel), tn_in 25 (by decide +kernel) (by decide +kernel), by decide +kernel, rfl⟩, rfl⟩
theorem tn_o7 : tn_okM tn_m7 := ⟨⟨by decide +kernel, tn_in 377 (by decide +kernel) (by decide +kernel), tn_in 25 (by decide +kernel) (by decide +kernel), by decide +kernel, rfl⟩, rfl⟩
theorem tn_o8 : tn_okM tn_m8 := ⟨⟨by decide +kernel, tn_in 381 (by decide +kernel) (by decide +kernel), tn_in 25 (by decide +kernel) (by decide +kernel), by decide +kernel, rfl⟩, rfl⟩
theorem tn_o9 : tn_okM tn_m9 := ⟨⟨by decide +kernel, tn_in 385 (by decide +kernel) (by decide +kernel), tn_in 25 (by decide +kernel) (by decide +kernel), by decide +kernel, rfl⟩, rfl⟩
theorem tn_o10 : tn_okM tn_m10 := ⟨⟨by decide +kernel, tn_in 400 (by decide +kernel) (by decide +kernel), tn_in 25 (by decide +kernel) (by decide +kernel), by decide +kernel, rfl⟩, rfl⟩
theorem tn_o11 : tn_okM tn_m11 := ⟨⟨by decide +kernel, tn_in 416 (by decide +kernel) (by decide +kernel), tn_in 25 (by decide +kernel) (by decide +kernel), by decide +kernel, rfl⟩, rfl⟩
theorem tn_o12 : tn_okM tn_m12 := ⟨⟨by decide +kernel, tn_in 420 (by decide +kernel) (by decide +kernel), tn_in 25 (by decide +kernel) (by decide +kernel), by decide +kernel, rfl⟩, rfl⟩
theorem tn_o13 : tn_okM tn_m13 := ⟨⟨by decide +kernel, tn_in 424 (by decide +kernel) (by decide +kernel), tn_in 25 (by decide +kernel) (by decide +kernel), by decide +kernel, rfl⟩, rfl⟩
theorem tn_o14 : tn_okM tn_m14 := ⟨⟨by decide +kernel, tn_in 428 (by decide +kernel) (by decide +kernel), tn_in 25 (by decide +kernel) (by decide +kernel), by decide +kernel, rfl⟩, rfl⟩
theorem tn_o15 : tn_okM tn_m15 := ⟨⟨by decide +kernel, tn_in 441 (by decide +kernel) (by decide +kernel), tn_in 25 (by decide +kernel) (by decide +kernel), by decide +kernel, rfl⟩, rfl⟩
theorem tn_o16 : tn_okM tn_m16 := ⟨⟨by decide +kernel, tn_in 285 (by decide +kernel) (by decide +kernel), tn_in 24 (by decide +kernel) (by decide +kernel), by decide +kernel, rfl⟩, rfl⟩
theorem tn_o17 : tn_okM tn_m17 := ⟨⟨by decide +kernel, tn_in 301 (by decide +kernel) (by decide +kernel), tn_in 24 (by decide +kernel) (by decide +kernel), by decide +kernel, rfl⟩, rfl⟩
theorem tn_o18 : tn_okM tn_m18 := ⟨⟨by decide +kernel, tn_in 316 (by decide +kernel) (by decide +kernel), tn_in 24 (by decide +kernel) (by decide +kernel), by decide +kernel, rfl⟩, rfl⟩
theorem tn_o19 : tn_okM tn_m19 := ⟨⟨by decide +kernel, tn_in 320 (by decide +kernel) (by decide +kernel), tn_in 24 (by decide +kernel) (by decide +kernel), by decide +kernel, rfl⟩, rfl⟩
theorem tn_o20 : tn_okM tn_m20 := ⟨⟨by decide +kernel, tn_in 325 (by decide +kernel) (by decide +kernel), tn_in 24 (by decide +kernel) (by decide +kernel), by decide +kernel, rfl⟩, rfl⟩
theorem tn_o21 : tn_okM tn_m21 := ⟨⟨by decide +kernel, tn_in 337 (by decide +kernel) (by decide +kernel), tn_in 24 (by decide +kernel) (by decide +kernel), by decide +kernel, rfl⟩, rfl⟩
theorem tn_o22 : tn_okM tn_m22 := ⟨⟨by decide +kernel, tn_in 341 (by decide +kernel) (by decide +kernel), tn_in 24 (by decide +kernel) (by decide +kernel), by decide +kernel, rfl⟩, rfl⟩
theorem tn_o23 : tn_okM tn_m23 := ⟨⟨by decide +kernel, tn_in 432 (by decide +kernel) (by decide +kernel), tn_in 27 (by decide +kernel) (by decide +kernel), by decide +kernel, rfl⟩, rfl⟩
theorem tn_o24 : tn_okM tn_m24 := ⟨⟨by decide +kernel, tn_in 437 (by decide +kernel) (by decide +kernel), tn_in 27 (by decide +kernel) (by decide +kernel), by decide +kernel, rfl⟩, rfl⟩
theorem tn_o25 : tn_okM tn_m25 := ⟨⟨by decide +kernel, tn_in 452 (by decide +kernel) (by decide +kernel), tn_in 27 (by decide +kernel) (by decide +kernel), by decide +kernel, rfl⟩, rfl⟩
theorem tn_o26 : tn_okM tn_m26 := ⟨⟨by decide +kernel, tn_in 389 (by decide +kernel) (by decide +kernel), tn_in 26 (by decide +kernel) (by decide +kernel), by decide +kernel, rfl⟩, rfl⟩
theorem tn_o27 : tn_okM tn_m27 := ⟨⟨by decide +kernel, tn_in 393 (by decide +kernel) (by decide +kernel), tn_in 26 (by decide +kernel) (by decide +kernel), by decide +kernel, rfl⟩, rfl⟩
theorem tn_o28 : tn_okM tn_m28 := ⟨⟨by decide +kernel, tn_in 404 (by decide +kernel) (by decide +kernel), tn_in 26 (by decide +kernel) (by decide +kernel), by decide +kernel, rfl⟩, rfl⟩
theorem tn_o29 : tn_okM tn_m29 := ⟨⟨by decide +kernel, tn_in 408 (by decide +kernel) (by decide +kernel), tn_in 26 (by decide +kernel) (by decide +kernel), by decide +kernel, rfl⟩, rfl⟩
theorem tn_o30 : tn_okM tn_m30 := ⟨⟨by decide +kernel, tn_in 412 (by decide +kernel) (by decide +kernel), tn_in 26 (by decide +kernel) (by decide +kernel), by decide +kernel, rfl⟩, rfl⟩
theorem tn_o31 : tn_okM tn_m31 := ⟨⟨by decide +kernel, tn_in 515 (by decide +kernel) (by decide +kernel), tn_in 26 (by decide +kernel) (by decide +kernel), by decide +kernel, rfl⟩, rfl⟩
theorem tn_o32 : tn_okM tn_m32 := ⟨⟨by decide +kernel, tn_in 519 (by decide +kernel) (by decide +kernel), tn_in 26 (by decide +kernel) (by decide +kernel), by decide +kernel, rfl⟩, rfl⟩
theorem tn_o33 : tn_okM tn_m33 := ⟨⟨by decide +kernel, tn_in 523 (by decide +kernel) (by decide +kernel), tn_in 26 (by decide +kernel) (by decide +kernel), by decide +kernel, rfl⟩, rfl⟩
theorem tn_o34 : tn_okM tn_m34 := ⟨⟨by decide +kernel, tn_in 538 (by decide +kernel) (by decide +kernel), tn_in 26 (by decide +kernel) (by decide +kernel), by decide +kernel, rfl⟩, rfl⟩
theorem tn_o35 : tn_okM tn_m35 := ⟨⟨by decide +kernel, tn_in 542 (by decide +kernel) (by decide +kernel), tn_in 26 (by decide +kernel) (by decide +kernel), by decide +kernel, rfl⟩, rfl⟩
theorem tn_o36 : tn_okM tn_m36 := ⟨⟨by decide +kernel, tn_in 554 (by decide +kernel) (by decide +kernel), tn_in 26 (by decide +kernel) (by decide +kernel), by decide +kernel, rfl⟩, rfl⟩
theorem tn_o37 : tn_okM tn_m37 := ⟨⟨by decide +kernel, tn_in 565 (by decide +kernel) (by decide +kernel), tn_in 26 (by decide +kernel) (by decide +kernel), by decide +kernel, rfl⟩, rfl⟩
theorem tn_o38 : tn_okM tn_m38 := ⟨⟨by decide +kernel, tn_in 184 (by decide +kernel) (by decide +kernel), tn_in 23 (by decide +kernel) (by decide +kernel), by decide +kernel, rfl⟩, rfl⟩
theorem tn_o39 : tn_okM tn_m39 := ⟨⟨by decide +kernel, tn_in 197 (by decide +kernel) (by decide +kernel), tn_in 23 (by decide +kernel) (by decide +kernel), by decide +kernel, rfl⟩, rfl⟩
theorem tn_o40 : tn_okM tn_m40 := ⟨⟨by decide +kernel, tn_in 292 (by decide +kernel) (by decide +kernel), tn_in 23 (by decide +kernel) (by decide +kernel), by decide +kernel, rfl⟩, rfl⟩
theorem tn_o41 : tn_okM tn_m41 := ⟨⟨by decide +kernel, tn_in 296 (by decide +kernel) (by decide +kernel), tn_in 23 (by decide +kernel) (by decide +kernel), by decide +kernel, rfl⟩, rfl⟩
theorem tn_o42 : tn_okM tn_m42 := ⟨⟨by decide +kernel, tn_in 312 (by decide +kernel) (by decide +kernel), tn_in 23 (by decide +kernel) (by decide +kernel), by decide +kernel, rfl⟩, rfl⟩
theorem tn_o43 : tn_okM tn_m43 := ⟨⟨by decide +kernel, tn_in 366 (by decide +kernel) (by decide +kernel), tn_in 23 (by decide +kernel) (by decide +kernel), by decide +kernel, rfl⟩, rfl⟩
theorem tn_o44 : tn_okM tn_m44 := ⟨⟨by decide +kernel, tn_in 370 (by decide +kernel) (by decide +kernel), tn_in 23 (by decide +kernel) (by decide +kernel), by decide +kernel, rfl⟩, rfl⟩
theorem tn_o45 : tn_okM tn_m45 := ⟨⟨by decide +kernel, tn_in 461 (by decide +kernel) (by decide +kernel), tn_in 23 (by decide +kernel) (by decide +kernel), by decide +kernel, rfl⟩, rfl⟩
theorem tn_o46 : tn_okM tn_m46 := ⟨⟨by decide +kernel, tn_in 469 (by decide +kernel) (by decide +kernel), tn_in 23 (by decide +kernel) (by decide +kernel), by decide +kernel, rfl⟩, rfl⟩
theorem tn_o47 : tn_okM tn_m47 := ⟨⟨by decide +kernel, tn_in 479 (by decide +kernel) (by decide +kernel), tn_in 23 (by decide +kernel) (by decide +kernel), by decide +kernel, rfl⟩, rfl⟩
theorem tn_o48 : tn_okM tn_m48 := ⟨⟨by decide +kernel, tn_in 504 (by decide +kernel) (by decide +kernel), tn_in 23 (by decide +kernel) (by decide +kernel), by decide +kernel, rfl⟩, rfl⟩
theorem tn_o49 : tn_okM tn_m49 := ⟨⟨by decide +kernel, tn_in 511 (by decide +kernel) (by decide +kernel), tn_in 23 (by decide +kernel) (by decide +kernel), by decide +kernel, rfl⟩, rfl⟩
theorem tn_o50 : tn_okM tn_m50 := ⟨⟨by decide +kernel, tn_in 534 (by decide +kernel) (by decide +kernel), tn_in 23 (by decide +kernel) (by decide +kernel), by decide +kernel, rfl⟩, rfl⟩
theorem tn_o51 : tn_okM tn_m51 := ⟨⟨by decide +kernel, tn_in 550 (by decide +kernel) (by decide +kernel), tn_in 23 (by decide +kernel) (by decide +kernel), by decide +kernel, rfl⟩, rfl⟩
theorem tn_o52 : tn_okM tn_m52 := ⟨⟨by decide +kernel, tn_in 561 (by decide +kernel) (by decide +kernel), tn_in 23 (by decide +kernel) (by decide +kernel), by decide +kernel, rfl⟩, rfl⟩
theorem tn_o53 : tn_okM tn_m53 := ⟨⟨by decide +kernel, tn_in 573 (by decide +kernel) (by decide +kernel), tn_in 23 (by decide +kernel) (by decide +kernel), by decide +kernel, rfl⟩, rfl⟩
theorem tn_o54 : tn_okM tn_m54 := ⟨⟨by decide +kernel, tn_in 581 (by decide +kernel) (by decide +kernel), tn_in 23 (by decide +kernel) (by decide +kernel), by decide +kernel, rfl⟩, rfl⟩
theorem tn_o55 : tn_okM tn_m55 := ⟨⟨by decide +kernel, tn_in 648 (by decide +kernel) (by decide +kernel), tn_in 28 (by decide +kernel) (by decide +kernel), by decide +kernel, rfl⟩, rfl⟩
theorem tn_o56 : tn_okM tn_m56 := ⟨⟨by decide +kernel, tn_in 652 (by decide +kernel) (by decide +kernel), tn_in 28 (by decide +kernel) (by decide +kernel), by decide +kernel, rfl⟩, rfl⟩
theorem tn_o57 : tn_okM tn_m57 := ⟨⟨by decide +kernel, tn_in 656 (by decide +kernel) (by decide +kernel), tn_in 28 (by decide +kernel) (by decide +kernel), by decide +kernel, rfl⟩, rfl⟩
theorem tn_o58 : tn_okM tn_m58 := ⟨⟨by decide +kernel, tn_in 660 (by decide +kernel) (by decide +kernel), tn_in 28 (by decide +kernel) (by decide +kernel), by decide +kernel, rfl⟩, rfl⟩
theorem tn_o59 : tn_okM tn_m59 := ⟨⟨by decide +kernel, tn_in 664 (by decide +kernel) (by decide +kernel), tn_in 28 (by decide +kernel) (by decide +kernel), by decide +kernel, rfl⟩, rfl⟩
theorem tn_o60 : tn_okM tn_m60 := ⟨⟨by decide +kernel, tn_in 668 (by decide +kernel) (by decide +kernel), tn_in 28 (by decide +kernel) (by decide +kernel), by decide +kernel, rfl⟩, rfl⟩
theorem tn_o61 : tn_okM tn_m61 := ⟨⟨by decide +kernel, tn_in 672 (by decide +kernel) (by decide +kernel), tn_in 28 (by decide +kernel) (by decide +kernel), by decide +kernel, rfl⟩, rfl⟩
theorem tn_o62 : tn_okM tn_m62 := ⟨⟨by decide +kernel, tn_in 676 (by decide +kernel) (by decide +kernel), tn_in 28 (by decide +kernel) (by decide +kernel), by decide +kernel, rfl⟩, rfl⟩
theorem tn_o63 : tn_okM tn_m63 := ⟨⟨by decide +kernel, tn_in 680 (by decide +kernel) (by decide +kernel), tn_in 28 (by decide +kernel) (by decide +kernel), by decide +kernel, rfl⟩, rfl⟩
theorem tn_o64 : tn_okM tn_m64 := ⟨⟨by decide +kernel, tn_in 684 (by decide +kernel) (by decide +kernel), tn_in 28 (by decide +kernel) (by decide +kernel), by decide +kernel, rfl⟩, rfl⟩
theorem tn_o65 : tn_okM tn_m65 := ⟨⟨by decide +kernel, tn_in 689 (by decide +kernel) (by decide +kernel), tn_in 28 (by decide +kernel) (by decide +kernel), by decide +kernel, rfl⟩, rfl⟩
theorem tn_o66 : tn_okM tn_m66 := ⟨⟨by decide +kernel, tn_in 693 (by decide +kernel) (by decide +kernel), tn_in 28 (by decide +kernel) (by decide +kernel), by decide +kernel, rfl⟩, rfl⟩
theorem tn_o67 : tn_okM tn_m67 := ⟨⟨by decide +kernel, tn_in 697 (by decide +kernel) (by decide +kernel), tn_in 28 (by decide +kernel) (by decide +kernel), by decide +kernel, rfl⟩, rfl⟩
theorem tn_o68 : tn_okM tn_m68 := ⟨⟨by decide +kernel, tn_in 701 (by decide +kernel) (by decide +kernel), tn_in 28 (by decide +kernel) (by decide +kernel), by decide +kernel, rfl⟩, rfl⟩
theorem tn_o69 : tn_okM tn_m69 := ⟨⟨by decide +kernel, tn_in 705 (by decide +kernel) (by decide +kernel), tn_in 28 (by decide +kernel) (by decide +kernel), by decide +kernel, rfl⟩, rfl⟩
theorem tn_o70 : tn_okM tn_m70 := ⟨⟨by decide +kernel, tn_in 709 (by decide +kernel) (by decide +kernel), tn_in 28 (by decide +kernel) (by decide +kernel), by decide +kernel, rfl⟩, rfl⟩
theorem tn_o71 : tn_okM tn_m71 := ⟨⟨by decide +kernel, tn_in 713 (by decide +kernel) (by decide +kernel), tn_in 28 (by decide +kernel) (by decide +kernel), by decide +kernel, rfl⟩, rfl⟩
theorem tn_o72 : tn_okM tn_m72 := ⟨⟨by decide +kernel, tn_in 717 (by decide +kernel) (by decide +kernel), tn_in 28 (by decide +kernel) (by decide +kernel), by decide +kernel, rfl⟩, rfl⟩
theorem tn_o73 : tn_okM tn_m73 := ⟨⟨by decide +kernel, tn_in 721 (by decide +kernel) (by decide +kernel), tn_in 28 (by decide +kernel) (by decide +kernel), by decide +kernel, rfl⟩, rfl⟩
theorem tn_o74 : tn_okM tn_m74 := ⟨⟨by decide +kernel, tn_in 725 (by decide +kernel) (by decide +kernel), tn_in 28 (by decide +kernel) (by decide +kernel), by decide +kernel, rfl⟩, rfl⟩
theorem tn_o75 : tn_okM tn_m75 := ⟨⟨by decide +kernel, tn_in 729 (by decide +kernel) (by decide +kernel), tn_in 28 (by decide +kernel) (by decide +kernel), by decide +kernel, rfl⟩, rfl⟩
theorem tn_o76 : tn_okM tn_m76 := ⟨⟨by decide +kernel, tn_in 733 (by decide +kernel) (by decide +kernel), tn_in 28 (by decide +kernel) (by decide +kernel), by decide +kernel, rfl⟩, rfl⟩
theorem tn_o77 : tn_okM tn_m77 := ⟨⟨by decide +kernel, tn_in 448 (by decide +kernel) (by decide +kernel), tn_in 34 (by decide +kernel) (by decide +kernel), by decide +kernel, rfl⟩, rfl⟩
theorem tn_o78 : tn_okM tn_m78 := ⟨⟨by decide +kernel, tn_in 396 (by decide +kernel) (by decide +kernel), tn_in 35 (by decide +kernel) (by decide +kernel), by decide +kernel, rfl⟩, rfl⟩
set_option maxRecDepth 20000 in
theorem tn_oM : ∀ M ∈ tn_M, tn_okM M := List.forall_mem_cons.mpr ⟨tn_o0, List.forall_mem_cons.mpr ⟨tn_o1, List.forall_mem_cons.mpr ⟨tn_o2, List.forall_mem_cons.mpr ⟨tn_o3, List.forall_mem_cons.mpr ⟨tn_o4, List.forall_mem_cons.mpr ⟨tn_o5, List.forall_mem_cons.mpr ⟨tn_o6, List.forall_mem_cons.mpr ⟨tn_o7, List.forall_mem_cons.mpr ⟨tn_o8, List.forall_mem_cons.mpr ⟨tn_o9, List.forall_mem_cons.mpr ⟨tn_o10, List.forall_mem_cons.mpr ⟨tn_o11, List.forall_mem_cons.mpr ⟨tn_o12, List.forall_mem_cons.mpr ⟨tn_o13, List.forall_mem_cons.mpr ⟨tn_o14, List.forall_mem_cons.mpr ⟨tn_o15, List.forall_mem_cons.mpr ⟨tn_o16, List.forall_mem_cons.mpr ⟨tn_o17, List.forall_mem_cons.mpr ⟨tn_o18, List.forall_mem_cons.mpr ⟨tn_o19, List.forall_mem_cons.mpr ⟨tn_o20, List.forall_mem_cons.mpr ⟨tn_o21, List.forall_mem_cons.mpr ⟨tn_o22, List.forall_mem_cons.mpr ⟨tn_o23, List.forall_mem_cons.mpr ⟨tn_o24, List.forall_mem_cons.mpr ⟨tn_o25, List.forall_mem_cons.mpr ⟨tn_o26, List.forall_mem_cons.mpr ⟨tn_o27, List.forall_mem_cons.mpr ⟨tn_o28, List.forall_mem_cons.mpr ⟨tn_o29, List.forall_mem_cons.mpr ⟨tn_o30, List.forall_mem_cons.mpr ⟨tn_o31, List.forall_mem_cons.mpr ⟨tn_o32, List.forall_mem_cons.mpr ⟨tn_o33, List.forall_mem_cons.mpr ⟨tn_o34, List.forall_mem_cons.mpr ⟨tn_o35, List.forall_mem_cons.mpr ⟨tn_o36, List.forall_mem_cons.mpr ⟨tn_o37, List.forall_mem_cons.mpr ⟨tn_o38, List.forall_mem_cons.mpr ⟨tn_o39, List.forall_mem_cons.mpr ⟨tn_o40, List.forall_mem_cons.mpr ⟨tn_o41, List.forall_mem_cons.mpr ⟨tn_o42, List.forall_mem_cons.mpr ⟨tn_o43, List.forall_mem_cons.mpr ⟨tn_o44, List.forall_mem_cons.mpr ⟨tn_o45, List.forall_mem_cons.mpr ⟨tn_o46, List.forall_mem_cons.mpr ⟨tn_o47, List.forall_mem_cons.mpr ⟨tn_o48, List.forall_mem_cons.mpr ⟨tn_o49, List.forall_mem_cons.mpr ⟨tn_o50, List.forall_mem_cons.mpr ⟨tn_o51, List.forall_mem_cons.mpr ⟨tn_o52, List.forall_mem_cons.mpr ⟨tn_o53, List.forall_mem_cons.mpr ⟨tn_o54, List.forall_mem_cons.mpr ⟨tn_o55, List.forall_mem_cons.mpr ⟨tn_o56, List.forall_mem_cons.mpr ⟨tn_o57, List.forall_mem_cons.mpr ⟨tn_o58, List.forall_mem_cons.mpr ⟨tn_o59, List.forall_mem_cons.mpr ⟨tn_o60, List.forall_mem_cons.mpr ⟨tn_o61, List.forall_mem_cons.mpr ⟨tn_o62, List.forall_mem_cons.mpr ⟨tn_o63, List.forall_mem_cons.mpr ⟨tn_o64, List.forall_mem_cons.mpr ⟨tn_o65, List.forall_mem_cons.mpr ⟨tn_o66, List.forall_mem_cons.mpr ⟨tn_o67, List.forall_mem_cons.mpr ⟨tn_o68, List.forall_mem_cons.mpr ⟨tn_o69, List.forall_mem_cons.mpr ⟨tn_o70, List.forall_mem_cons.mpr ⟨tn_o71, List.forall_mem_cons.mpr ⟨tn_o72, List.forall_mem_cons.mpr ⟨tn_o73, List.forall_mem_cons.mpr ⟨tn_o74, List.forall_mem_cons.mpr ⟨tn_o75, List.forall_mem_cons.mpr ⟨tn_o76, List.forall_mem_cons.mpr ⟨tn_o77, List.forall_mem_cons.mpr ⟨tn_o78, fun _ h => absurd h List.not_mem_nil⟩⟩⟩⟩⟩⟩⟩⟩⟩⟩⟩⟩⟩⟩⟩⟩⟩⟩⟩⟩⟩⟩⟩⟩⟩⟩⟩⟩⟩⟩⟩⟩⟩⟩⟩⟩⟩⟩⟩⟩⟩⟩⟩⟩⟩⟩⟩⟩⟩⟩⟩⟩⟩⟩⟩⟩⟩⟩⟩⟩⟩⟩⟩⟩⟩⟩⟩⟩⟩⟩⟩⟩⟩⟩⟩⟩⟩⟩⟩
theorem tn_mM {μ : Nat} {M : am_M} (h : am_m tn_G μ = some M) : tn_okM M := tn_oM M (List.mem_of_getElem? h)
def tn_okF (q : (Nat × Nat) × (Nat × Nat)) : Prop := ∃ (C : String) (T : u_T) (N : Nat) (ty : Nat → FieldType), tn_cl[q.2.1]? = some (C, T, N) ∧ q.2.2 < N ∧ (T q.2.2).1 = C ∧ (∀ w ∈ u_ws C T N, w ∈ tn_TS) ∧ (∀ j, j < N → parseFieldDescriptor (T j).2.2.1 = some (ty j)) ∧ (∀ a, a < N → ∀ b, b < N → a ≠ b → (T a).2.1 ≠ (T b).2.1) ∧
    (Cond.fieldLink (tn_cn q.1.1) q.1.2 C (T q.2.2).2.1 (T q.2.2).2.2.1 ∈ tn_TS ∨ ∃ host, Cond.fieldLinkNest (tn_cn q.1.1) q.1.2 C (T q.2.2).2.1 (T q.2.2).2.2.1 host ∈ tn_NS)
theorem tn_f0 : tn_okF ((0, 15), (0, 2)) := ⟨tn_R0, tn_T0, 6, tn_ty0, rfl, by decide, rfl, tn_iw0, tn_to0, tn_nm0, Or.inl (tn_in 83 (by decide +kernel) (by decide +kernel))⟩
theorem tn_f1 : tn_okF ((0, 18), (0, 3)) := ⟨tn_R0, tn_T0, 6, tn_ty0, rfl, by decide, rfl, tn_iw0, tn_to0, tn_nm0, Or.inl (tn_in 84 (by decide +kernel) (by decide +kernel))⟩
theorem tn_f2 : tn_okF ((0, 21), (0, 4)) := ⟨tn_R0, tn_T0, 6, tn_ty0, rfl, by decide, rfl, tn_iw0, tn_to0, tn_nm0, Or.inl (tn_in 85 (by decide +kernel) (by decide +kernel))⟩
theorem tn_f3 : tn_okF ((0, 24), (0, 5)) := ⟨tn_R0, tn_T0, 6, tn_ty0, rfl, by decide, rfl, tn_iw0, tn_to0, tn_nm0, Or.inl (tn_in 86 (by decide +kernel) (by decide +kernel))⟩
theorem tn_f4 : tn_okF ((0, 28), (0, 0)) := ⟨tn_R0, tn_T0, 6, tn_ty0, rfl, by decide, rfl, tn_iw0, tn_to0, tn_nm0, Or.inl (tn_in 80 (by decide +kernel) (by decide +kernel))⟩
theorem tn_f5 : tn_okF ((0, 32), (1, 1)) := ⟨tn_R1, tn_T1, 5, tn_ty1, rfl, by decide, rfl, tn_iw1, tn_to1, tn_nm1, Or.inr ⟨"TermNet", by decide +kernel⟩⟩
theorem tn_f6 : tn_okF ((0, 48), (1, 4)) := ⟨tn_R1, tn_T1, 5, tn_ty1, rfl, by decide, rfl, tn_iw1, tn_to1, tn_nm1, Or.inr ⟨"TermNet", by decide +kernel⟩⟩
theorem tn_f7 : tn_okF ((0, 9), (0, 1)) := ⟨tn_R0, tn_T0, 6, tn_ty0, rfl, by decide, rfl, tn_iw0, tn_to0, tn_nm0, Or.inl (tn_in 82 (by decide +kernel) (by decide +kernel))⟩
theorem tn_f8 : tn_okF ((1, 15), (1, 1)) := ⟨tn_R1, tn_T1, 5, tn_ty1, rfl, by decide, rfl, tn_iw1, tn_to1, tn_nm1, Or.inl (tn_in 52 (by decide +kernel) (by decide +kernel))⟩
theorem tn_f9 : tn_okF ((1, 18), (1, 2)) := ⟨tn_R1, tn_T1, 5, tn_ty1, rfl, by decide, rfl, tn_iw1, tn_to1, tn_nm1, Or.inl (tn_in 56 (by decide +kernel) (by decide +kernel))⟩
theorem tn_f10 : tn_okF ((1, 21), (1, 3)) := ⟨tn_R1, tn_T1, 5, tn_ty1, rfl, by decide, rfl, tn_iw1, tn_to1, tn_nm1, Or.inl (tn_in 57 (by decide +kernel) (by decide +kernel))⟩
theorem tn_f11 : tn_okF ((1, 25), (1, 4)) := ⟨tn_R1, tn_T1, 5, tn_ty1, rfl, by decide, rfl, tn_iw1, tn_to1, tn_nm1, Or.inl (tn_in 59 (by decide +kernel) (by decide +kernel))⟩
theorem tn_f12 : tn_okF ((1, 9), (1, 0)) := ⟨tn_R1, tn_T1, 5, tn_ty1, rfl, by decide, rfl, tn_iw1, tn_to1, tn_nm1, Or.inl (tn_in 51 (by decide +kernel) (by decide +kernel))⟩
theorem tn_f13 : tn_okF ((2, 11), (2, 1)) := ⟨tn_R2, tn_T2, 4, tn_ty2, rfl, by decide, rfl, tn_iw2, tn_to2, tn_nm2, Or.inl (tn_in 141 (by decide +kernel) (by decide +kernel))⟩
theorem tn_f14 : tn_okF ((2, 15), (2, 2)) := ⟨tn_R2, tn_T2, 4, tn_ty2, rfl, by decide, rfl, tn_iw2, tn_to2, tn_nm2, Or.inl (tn_in 142 (by decide +kernel) (by decide +kernel))⟩
theorem tn_f15 : tn_okF ((2, 18), (2, 3)) := ⟨tn_R2, tn_T2, 4, tn_ty2, rfl, by decide, rfl, tn_iw2, tn_to2, tn_nm2, Or.inl (tn_in 143 (by decide +kernel) (by decide +kernel))⟩
theorem tn_f16 : tn_okF ((2, 21), (2, 0)) := ⟨tn_R2, tn_T2, 4, tn_ty2, rfl, by decide, rfl, tn_iw2, tn_to2, tn_nm2, Or.inl (tn_in 140 (by decide +kernel) (by decide +kernel))⟩
theorem tn_f17 : tn_okF ((2, 31), (3, 7)) := ⟨tn_R3, tn_T3, 8, tn_ty3, rfl, by decide, rfl, tn_iw3, tn_to3, tn_nm3, Or.inr ⟨"TermNet", by decide +kernel⟩⟩
theorem tn_f18 : tn_okF ((2, 37), (3, 4)) := ⟨tn_R3, tn_T3, 8, tn_ty3, rfl, by decide, rfl, tn_iw3, tn_to3, tn_nm3, Or.inr ⟨"TermNet", by decide +kernel⟩⟩
theorem tn_f19 : tn_okF ((2, 63), (0, 0)) := ⟨tn_R0, tn_T0, 6, tn_ty0, rfl, by decide, rfl, tn_iw0, tn_to0, tn_nm0, Or.inr ⟨"TermNet", by decide +kernel⟩⟩
theorem tn_f20 : tn_okF ((2, 67), (1, 1)) := ⟨tn_R1, tn_T1, 5, tn_ty1, rfl, by decide, rfl, tn_iw1, tn_to1, tn_nm1, Or.inr ⟨"TermNet", by decide +kernel⟩⟩
theorem tn_f21 : tn_okF ((3, 15), (3, 2)) := ⟨tn_R3, tn_T3, 8, tn_ty3, rfl, by decide, rfl, tn_iw3, tn_to3, tn_nm3, Or.inl (tn_in 109 (by decide +kernel) (by decide +kernel))⟩
theorem tn_f22 : tn_okF ((3, 18), (3, 3)) := ⟨tn_R3, tn_T3, 8, tn_ty3, rfl, by decide, rfl, tn_iw3, tn_to3, tn_nm3, Or.inl (tn_in 110 (by decide +kernel) (by decide +kernel))⟩
theorem tn_f23 : tn_okF ((3, 21), (3, 4)) := ⟨tn_R3, tn_T3, 8, tn_ty3, rfl, by decide, rfl, tn_iw3, tn_to3, tn_nm3, Or.inl (tn_in 111 (by decide +kernel) (by decide +kernel))⟩
theorem tn_f24 : tn_okF ((3, 24), (3, 5)) := ⟨tn_R3, tn_T3, 8, tn_ty3, rfl, by decide, rfl, tn_iw3, tn_to3, tn_nm3, Or.inl (tn_in 113 (by decide +kernel) (by decide +kernel))⟩
theorem tn_f25 : tn_okF ((3, 27), (3, 6)) := ⟨tn_R3, tn_T3, 8, tn_ty3, rfl, by decide, rfl, tn_iw3, tn_to3, tn_nm3, Or.inl (tn_in 114 (by decide +kernel) (by decide +kernel))⟩
theorem tn_f26 : tn_okF ((3, 31), (3, 7)) := ⟨tn_R3, tn_T3, 8, tn_ty3, rfl, by decide, rfl, tn_iw3, tn_to3, tn_nm3, Or.inl (tn_in 115 (by decide +kernel) (by decide +kernel))⟩
theorem tn_f27 : tn_okF ((3, 34), (3, 0)) := ⟨tn_R3, tn_T3, 8, tn_ty3, rfl, by decide, rfl, tn_iw3, tn_to3, tn_nm3, Or.inl (tn_in 107 (by decide +kernel) (by decide +kernel))⟩
theorem tn_f28 : tn_okF ((3, 9), (3, 1)) := ⟨tn_R3, tn_T3, 8, tn_ty3, rfl, by decide, rfl, tn_iw3, tn_to3, tn_nm3, Or.inl (tn_in 108 (by decide +kernel) (by decide +kernel))⟩
theorem tn_f29 : tn_okF ((4, 10), (4, 0)) := ⟨tn_R4, tn_T4, 9, tn_ty4, rfl, by decide, rfl, tn_iw4, tn_to4, tn_nm4, Or.inl (tn_in 153 (by decide +kernel) (by decide +kernel))⟩
theorem tn_f30 : tn_okF ((4, 104), (0, 5)) := ⟨tn_R0, tn_T0, 6, tn_ty0, rfl, by decide, rfl, tn_iw0, tn_to0, tn_nm0, Or.inr ⟨"TermNet", by decide +kernel⟩⟩
theorem tn_f31 : tn_okF ((4, 115), (1, 4)) := ⟨tn_R1, tn_T1, 5, tn_ty1, rfl, by decide, rfl, tn_iw1, tn_to1, tn_nm1, Or.inr ⟨"TermNet", by decide +kernel⟩⟩
theorem tn_f32 : tn_okF ((4, 134), (1, 1)) := ⟨tn_R1, tn_T1, 5, tn_ty1, rfl, by decide, rfl, tn_iw1, tn_to1, tn_nm1, Or.inr ⟨"TermNet", by decide +kernel⟩⟩
theorem tn_f33 : tn_okF ((4, 21), (4, 1)) := ⟨tn_R4, tn_T4, 9, tn_ty4, rfl, by decide, rfl, tn_iw4, tn_to4, tn_nm4, Or.inl (tn_in 154 (by decide +kernel) (by decide +kernel))⟩
theorem tn_f34 : tn_okF ((4, 30), (4, 2)) := ⟨tn_R4, tn_T4, 9, tn_ty4, rfl, by decide, rfl, tn_iw4, tn_to4, tn_nm4, Or.inl (tn_in 155 (by decide +kernel) (by decide +kernel))⟩
theorem tn_f35 : tn_okF ((4, 37), (4, 3)) := ⟨tn_R4, tn_T4, 9, tn_ty4, rfl, by decide, rfl, tn_iw4, tn_to4, tn_nm4, Or.inl (tn_in 156 (by decide +kernel) (by decide +kernel))⟩
theorem tn_f36 : tn_okF ((4, 41), (4, 4)) := ⟨tn_R4, tn_T4, 9, tn_ty4, rfl, by decide, rfl, tn_iw4, tn_to4, tn_nm4, Or.inl (tn_in 157 (by decide +kernel) (by decide +kernel))⟩
theorem tn_f37 : tn_okF ((4, 45), (4, 5)) := ⟨tn_R4, tn_T4, 9, tn_ty4, rfl, by decide, rfl, tn_iw4, tn_to4, tn_nm4, Or.inl (tn_in 158 (by decide +kernel) (by decide +kernel))⟩
theorem tn_f38 : tn_okF ((4, 48), (4, 6)) := ⟨tn_R4, tn_T4, 9, tn_ty4, rfl, by decide, rfl, tn_iw4, tn_to4, tn_nm4, Or.inl (tn_in 159 (by decide +kernel) (by decide +kernel))⟩
theorem tn_f39 : tn_okF ((4, 51), (4, 7)) := ⟨tn_R4, tn_T4, 9, tn_ty4, rfl, by decide, rfl, tn_iw4, tn_to4, tn_nm4, Or.inl (tn_in 160 (by decide +kernel) (by decide +kernel))⟩
theorem tn_f40 : tn_okF ((4, 55), (4, 8)) := ⟨tn_R4, tn_T4, 9, tn_ty4, rfl, by decide, rfl, tn_iw4, tn_to4, tn_nm4, Or.inl (tn_in 161 (by decide +kernel) (by decide +kernel))⟩
theorem tn_f41 : tn_okF ((4, 65), (1, 3)) := ⟨tn_R1, tn_T1, 5, tn_ty1, rfl, by decide, rfl, tn_iw1, tn_to1, tn_nm1, Or.inr ⟨"TermNet", by decide +kernel⟩⟩
theorem tn_f42 : tn_okF ((5, 13), (5, 1)) := ⟨tn_R5, tn_T5, 18, tn_ty5, rfl, by decide, rfl, tn_iw5, tn_to5, tn_nm5, Or.inl (tn_in 590 (by decide +kernel) (by decide +kernel))⟩
theorem tn_f43 : tn_okF ((5, 16), (5, 2)) := ⟨tn_R5, tn_T5, 18, tn_ty5, rfl, by decide, rfl, tn_iw5, tn_to5, tn_nm5, Or.inl (tn_in 591 (by decide +kernel) (by decide +kernel))⟩
theorem tn_f44 : tn_okF ((5, 19), (5, 8)) := ⟨tn_R5, tn_T5, 18, tn_ty5, rfl, by decide, rfl, tn_iw5, tn_to5, tn_nm5, Or.inl (tn_in 597 (by decide +kernel) (by decide +kernel))⟩
theorem tn_f45 : tn_okF ((5, 22), (5, 9)) := ⟨tn_R5, tn_T5, 18, tn_ty5, rfl, by decide, rfl, tn_iw5, tn_to5, tn_nm5, Or.inl (tn_in 598 (by decide +kernel) (by decide +kernel))⟩
theorem tn_f46 : tn_okF ((5, 25), (5, 10)) := ⟨tn_R5, tn_T5, 18, tn_ty5, rfl, by decide, rfl, tn_iw5, tn_to5, tn_nm5, Or.inl (tn_in 599 (by decide +kernel) (by decide +kernel))⟩
theorem tn_f47 : tn_okF ((5, 28), (5, 11)) := ⟨tn_R5, tn_T5, 18, tn_ty5, rfl, by decide, rfl, tn_iw5, tn_to5, tn_nm5, Or.inl (tn_in 600 (by decide +kernel) (by decide +kernel))⟩
theorem tn_f48 : tn_okF ((5, 31), (5, 12)) := ⟨tn_R5, tn_T5, 18, tn_ty5, rfl, by decide, rfl, tn_iw5, tn_to5, tn_nm5, Or.inl (tn_in 601 (by decide +kernel) (by decide +kernel))⟩
theorem tn_f49 : tn_okF ((5, 34), (5, 13)) := ⟨tn_R5, tn_T5, 18, tn_ty5, rfl, by decide, rfl, tn_iw5, tn_to5, tn_nm5, Or.inl (tn_in 602 (by decide +kernel) (by decide +kernel))⟩
theorem tn_f50 : tn_okF ((5, 37), (5, 14)) := ⟨tn_R5, tn_T5, 18, tn_ty5, rfl, by decide, rfl, tn_iw5, tn_to5, tn_nm5, Or.inl (tn_in 603 (by decide +kernel) (by decide +kernel))⟩
theorem tn_f51 : tn_okF ((5, 40), (5, 15)) := ⟨tn_R5, tn_T5, 18, tn_ty5, rfl, by decide, rfl, tn_iw5, tn_to5, tn_nm5, Or.inl (tn_in 604 (by decide +kernel) (by decide +kernel))⟩
theorem tn_f52 : tn_okF ((5, 43), (5, 16)) := ⟨tn_R5, tn_T5, 18, tn_ty5, rfl, by decide, rfl, tn_iw5, tn_to5, tn_nm5, Or.inl (tn_in 605 (by decide +kernel) (by decide +kernel))⟩
theorem tn_f53 : tn_okF ((5, 47), (5, 17)) := ⟨tn_R5, tn_T5, 18, tn_ty5, rfl, by decide, rfl, tn_iw5, tn_to5, tn_nm5, Or.inl (tn_in 606 (by decide +kernel) (by decide +kernel))⟩
theorem tn_f54 : tn_okF ((5, 50), (5, 7)) := ⟨tn_R5, tn_T5, 18, tn_ty5, rfl, by decide, rfl, tn_iw5, tn_to5, tn_nm5, Or.inl (tn_in 596 (by decide +kernel) (by decide +kernel))⟩
theorem tn_f55 : tn_okF ((5, 54), (5, 4)) := ⟨tn_R5, tn_T5, 18, tn_ty5, rfl, by decide, rfl, tn_iw5, tn_to5, tn_nm5, Or.inl (tn_in 593 (by decide +kernel) (by decide +kernel))⟩
theorem tn_f56 : tn_okF ((5, 57), (5, 3)) := ⟨tn_R5, tn_T5, 18, tn_ty5, rfl, by decide, rfl, tn_iw5, tn_to5, tn_nm5, Or.inl (tn_in 592 (by decide +kernel) (by decide +kernel))⟩
theorem tn_f57 : tn_okF ((5, 80), (5, 6)) := ⟨tn_R5, tn_T5, 18, tn_ty5, rfl, by decide, rfl, tn_iw5, tn_to5, tn_nm5, Or.inl (tn_in 595 (by decide +kernel) (by decide +kernel))⟩
theorem tn_f58 : tn_okF ((5, 87), (5, 5)) := ⟨tn_R5, tn_T5, 18, tn_ty5, rfl, by decide, rfl, tn_iw5, tn_to5, tn_nm5, Or.inl (tn_in 594 (by decide +kernel) (by decide +kernel))⟩
theorem tn_f59 : tn_okF ((5, 9), (5, 0)) := ⟨tn_R5, tn_T5, 18, tn_ty5, rfl, by decide, rfl, tn_iw5, tn_to5, tn_nm5, Or.inl (tn_in 589 (by decide +kernel) (by decide +kernel))⟩
set_option maxRecDepth 20000 in
theorem tn_oF : ∀ q ∈ tn_fl, tn_okF q := List.forall_mem_cons.mpr ⟨tn_f0, List.forall_mem_cons.mpr ⟨tn_f1, List.forall_mem_cons.mpr ⟨tn_f2, List.forall_mem_cons.mpr ⟨tn_f3, List.forall_mem_cons.mpr ⟨tn_f4, List.forall_mem_cons.mpr ⟨tn_f5, List.forall_mem_cons.mpr ⟨tn_f6, List.forall_mem_cons.mpr ⟨tn_f7, List.forall_mem_cons.mpr ⟨tn_f8, List.forall_mem_cons.mpr ⟨tn_f9, List.forall_mem_cons.mpr ⟨tn_f10, List.forall_mem_cons.mpr ⟨tn_f11, List.forall_mem_cons.mpr ⟨tn_f12, List.forall_mem_cons.mpr ⟨tn_f13, List.forall_mem_cons.mpr ⟨tn_f14, List.forall_mem_cons.mpr ⟨tn_f15, List.forall_mem_cons.mpr ⟨tn_f16, List.forall_mem_cons.mpr ⟨tn_f17, List.forall_mem_cons.mpr ⟨tn_f18, List.forall_mem_cons.mpr ⟨tn_f19, List.forall_mem_cons.mpr ⟨tn_f20, List.forall_mem_cons.mpr ⟨tn_f21, List.forall_mem_cons.mpr ⟨tn_f22, List.forall_mem_cons.mpr ⟨tn_f23, List.forall_mem_cons.mpr ⟨tn_f24, List.forall_mem_cons.mpr ⟨tn_f25, List.forall_mem_cons.mpr ⟨tn_f26, List.forall_mem_cons.mpr ⟨tn_f27, List.forall_mem_cons.mpr ⟨tn_f28, List.forall_mem_cons.mpr ⟨tn_f29, List.forall_mem_cons.mpr ⟨tn_f30, List.forall_mem_cons.mpr ⟨tn_f31, List.forall_mem_cons.mpr ⟨tn_f32, List.forall_mem_cons.mpr ⟨tn_f33, List.forall_mem_cons.mpr ⟨tn_f34, List.forall_mem_cons.mpr ⟨tn_f35, List.forall_mem_cons.mpr ⟨tn_f36, List.forall_mem_cons.mpr ⟨tn_f37, List.forall_mem_cons.mpr ⟨tn_f38, List.forall_mem_cons.mpr ⟨tn_f39, List.forall_mem_cons.mpr ⟨tn_f40, List.forall_mem_cons.mpr ⟨tn_f41, List.forall_mem_cons.mpr ⟨tn_f42, List.forall_mem_cons.mpr ⟨tn_f43, List.forall_mem_cons.mpr ⟨tn_f44, List.forall_mem_cons.mpr ⟨tn_f45, List.forall_mem_cons.mpr ⟨tn_f46, List.forall_mem_cons.mpr ⟨tn_f47, List.forall_mem_cons.mpr ⟨tn_f48, List.forall_mem_cons.mpr ⟨tn_f49, List.forall_mem_cons.mpr ⟨tn_f50, List.forall_mem_cons.mpr ⟨tn_f51, List.forall_mem_cons.mpr ⟨tn_f52, List.forall_mem_cons.mpr ⟨tn_f53, List.forall_mem_cons.mpr ⟨tn_f54, List.forall_mem_cons.mpr ⟨tn_f55, List.forall_mem_cons.mpr ⟨tn_f56, List.forall_mem_cons.mpr ⟨tn_f57, List.forall_mem_cons.mpr ⟨tn_f58, List.forall_mem_cons.mpr ⟨tn_f59, fun _ h => absurd h List.not_mem_nil⟩⟩⟩⟩⟩⟩⟩⟩⟩⟩⟩⟩⟩⟩⟩⟩⟩⟩⟩⟩⟩⟩⟩⟩⟩⟩⟩⟩⟩⟩⟩⟩⟩⟩⟩⟩⟩⟩⟩⟩⟩⟩⟩⟩⟩⟩⟩⟩⟩⟩⟩⟩⟩⟩⟩⟩⟩⟩⟩⟩
def tn_okC (q : (Nat × Nat) × (Nat × Nat × Nat)) : Prop := ∃ M : am_M, am_m tn_G q.1.1 = some M ∧
  (q.2.1 = 0 → ∃ M' : am_M, am_m tn_G q.2.2.1 = some M' ∧ Cond.methodLink M.1.cls q.1.2 M'.1 ∈ tn_TS ∧ Cond.instanceMethod M'.1 ∈ tn_TS ∧ Cond.selects M'.1.cls M'.1 M'.1 ∈ tn_TS ∧ (parseMethodDescriptor M'.1.desc).map (fun d => d.parameters.length) = some q.2.2.2 ∧ M'.2.2.2.2.2.frames + 1 ≤ M.2.2.2.2.2.frames ∧ 8 + (M'.2.2.1 + 11) + M'.2.2.2.2.2.locals ≤ M.2.2.2.2.2.locals ∧ ∃ (T : u_T) (N : Nat), tn_cl[M'.2.2.2.2.1]? = some (M'.1.cls, T, N)) ∧
  (q.2.1 = 2 → ∃ M' : am_M, am_m tn_G q.2.2.1 = some M' ∧ Cond.methodLink M.1.cls q.1.2 M'.1 ∈ tn_TS ∧ Cond.static M'.1 ∈ tn_TS ∧ (parseMethodDescriptor M'.1.desc).map (fun d => d.parameters.length) = some q.2.2.2 ∧ M'.2.2.2.2.2.frames + 1 ≤ M.2.2.2.2.2.frames ∧ 8 + (M'.2.2.1 + 11) + M'.2.2.2.2.2.locals ≤ M.2.2.2.2.2.locals) ∧
  (q.2.1 = 3 → Cond.methodLink M.1.cls q.1.2 Lib.Math.max.name ∈ tn_TS ∧ Cond.static Lib.Math.max.name ∈ tn_TS ∧ Cond.initialized "java/lang/Math" ∈ tn_TS ∧ Cond.code Lib.Math.max.name Lib.Math.max.code 2 (some .int) ∈ tn_TS ∧ 1 ≤ M.2.2.2.2.2.frames ∧ 23 ≤ M.2.2.2.2.2.locals) ∧
  (q.2.1 = 4 → Cond.methodLink M.1.cls q.1.2 Lib.Math.min.name ∈ tn_TS ∧ Cond.static Lib.Math.min.name ∈ tn_TS ∧ Cond.initialized "java/lang/Math" ∈ tn_TS ∧ Cond.code Lib.Math.min.name Lib.Math.min.code 2 (some .int) ∈ tn_TS ∧ 1 ≤ M.2.2.2.2.2.frames ∧ 23 ≤ M.2.2.2.2.2.locals) ∧
  (q.2.1 = 5 → Cond.methodLink M.1.cls q.1.2 Lib.MathLoose.min_long.x ∈ tn_TS ∧ Cond.static Lib.MathLoose.min_long.x ∈ tn_TS ∧ Cond.initialized "java/lang/Math" ∈ tn_TS ∧ Cond.code Lib.MathLoose.min_long.x Lib.MathLoose.min_long.code 4 (some .long) ∈ tn_TS ∧ 1 ≤ M.2.2.2.2.2.frames ∧ 23 ≤ M.2.2.2.2.2.locals)
theorem tn_c0 : tn_okC ((2, 70), (0, 4, 2)) := ⟨tn_m2, rfl, (fun _ => ⟨tn_m4, rfl, tn_in 342 (by decide +kernel) (by decide +kernel), tn_in 343 (by decide +kernel) (by decide +kernel), tn_in 344 (by decide +kernel) (by decide +kernel), by decide +kernel, by decide, by decide, tn_T0, _, rfl⟩), (fun h => absurd h (by decide)), (fun h => absurd h (by decide)), (fun h => absurd h (by decide)), (fun h => absurd h (by decide))⟩
theorem tn_c1 : tn_okC ((2, 77), (0, 3, 2)) := ⟨tn_m2, rfl, (fun _ => ⟨tn_m3, rfl, tn_in 330 (by decide +kernel) (by decide +kernel), tn_in 331 (by decide +kernel) (by decide +kernel), tn_in 332 (by decide +kernel) (by decide +kernel), by decide +kernel, by decide, by decide, tn_T0, _, rfl⟩), (fun h => absurd h (by decide)), (fun h => absurd h (by decide)), (fun h => absurd h (by decide)), (fun h => absurd h (by decide))⟩
theorem tn_c2 : tn_okC ((3, 41), (0, 21, 1)) := ⟨tn_m3, rfl, (fun _ => ⟨tn_m21, rfl, tn_in 334 (by decide +kernel) (by decide +kernel), tn_in 335 (by decide +kernel) (by decide +kernel), tn_in 336 (by decide +kernel) (by decide +kernel), by decide +kernel, by decide, by decide, tn_T1, _, rfl⟩), (fun h => absurd h (by decide)), (fun h => absurd h (by decide)), (fun h => absurd h (by decide)), (fun h => absurd h (by decide))⟩
theorem tn_c3 : tn_okC ((3, 44), (0, 22, 2)) := ⟨tn_m3, rfl, (fun _ => ⟨tn_m22, rfl, tn_in 338 (by decide +kernel) (by decide +kernel), tn_in 339 (by decide +kernel) (by decide +kernel), tn_in 340 (by decide +kernel) (by decide +kernel), by decide +kernel, by decide, by decide, tn_T1, _, rfl⟩), (fun h => absurd h (by decide)), (fun h => absurd h (by decide)), (fun h => absurd h (by decide)), (fun h => absurd h (by decide))⟩
theorem tn_c4 : tn_okC ((4, 51), (4, 0, 0)) := ⟨tn_m4, rfl, (fun h => absurd h (by decide)), (fun h => absurd h (by decide)), (fun h => absurd h (by decide)), (fun _ => ⟨tn_in 346 (by decide +kernel) (by decide +kernel), tn_in 347 (by decide +kernel) (by decide +kernel), tn_in 34 (by decide +kernel) (by decide +kernel), tn_in 348 (by decide +kernel) (by decide +kernel), by decide, by decide⟩), (fun h => absurd h (by decide))⟩
theorem tn_c5 : tn_okC ((4, 56), (3, 0, 0)) := ⟨tn_m4, rfl, (fun h => absurd h (by decide)), (fun h => absurd h (by decide)), (fun _ => ⟨tn_in 349 (by decide +kernel) (by decide +kernel), tn_in 350 (by decide +kernel) (by decide +kernel), tn_in 34 (by decide +kernel) (by decide +kernel), tn_in 351 (by decide +kernel) (by decide +kernel), by decide, by decide⟩), (fun h => absurd h (by decide)), (fun h => absurd h (by decide))⟩
theorem tn_c6 : tn_okC ((4, 59), (0, 5, 2)) := ⟨tn_m4, rfl, (fun _ => ⟨tn_m5, rfl, tn_in 352 (by decide +kernel) (by decide +kernel), tn_in 354 (by decide +kernel) (by decide +kernel), tn_in 2 (by decide +kernel) (by decide +kernel), by decide +kernel, by decide, by decide, tn_T0, _, rfl⟩), (fun h => absurd h (by decide)), (fun h => absurd h (by decide)), (fun h => absurd h (by decide)), (fun h => absurd h (by decide))⟩
theorem tn_c7 : tn_okC ((4, 63), (0, 6, 2)) := ⟨tn_m4, rfl, (fun _ => ⟨tn_m6, rfl, tn_in 356 (by decide +kernel) (by decide +kernel), tn_in 358 (by decide +kernel) (by decide +kernel), tn_in 3 (by decide +kernel) (by decide +kernel), by decide +kernel, by decide, by decide, tn_T0, _, rfl⟩), (fun h => absurd h (by decide)), (fun h => absurd h (by decide)), (fun h => absurd h (by decide)), (fun h => absurd h (by decide))⟩
theorem tn_c8 : tn_okC ((7, 66), (0, 8, 1)) := ⟨tn_m7, rfl, (fun _ => ⟨tn_m8, rfl, tn_in 378 (by decide +kernel) (by decide +kernel), tn_in 380 (by decide +kernel) (by decide +kernel), tn_in 5 (by decide +kernel) (by decide +kernel), by decide +kernel, by decide, by decide, tn_T0, _, rfl⟩), (fun h => absurd h (by decide)), (fun h => absurd h (by decide)), (fun h => absurd h (by decide)), (fun h => absurd h (by decide))⟩
theorem tn_c9 : tn_okC ((8, 37), (0, 9, 1)) := ⟨tn_m8, rfl, (fun _ => ⟨tn_m9, rfl, tn_in 382 (by decide +kernel) (by decide +kernel), tn_in 383 (by decide +kernel) (by decide +kernel), tn_in 384 (by decide +kernel) (by decide +kernel), by decide +kernel, by decide, by decide, tn_T0, _, rfl⟩), (fun h => absurd h (by decide)), (fun h => absurd h (by decide)), (fun h => absurd h (by decide)), (fun h => absurd h (by decide))⟩
theorem tn_c10 : tn_okC ((8, 41), (0, 21, 1)) := ⟨tn_m8, rfl, (fun _ => ⟨tn_m21, rfl, tn_in 334 (by decide +kernel) (by decide +kernel), tn_in 335 (by decide +kernel) (by decide +kernel), tn_in 336 (by decide +kernel) (by decide +kernel), by decide +kernel, by decide, by decide, tn_T1, _, rfl⟩), (fun h => absurd h (by decide)), (fun h => absurd h (by decide)), (fun h => absurd h (by decide)), (fun h => absurd h (by decide))⟩
theorem tn_c11 : tn_okC ((8, 44), (0, 22, 2)) := ⟨tn_m8, rfl, (fun _ => ⟨tn_m22, rfl, tn_in 338 (by decide +kernel) (by decide +kernel), tn_in 339 (by decide +kernel) (by decide +kernel), tn_in 340 (by decide +kernel) (by decide +kernel), by decide +kernel, by decide, by decide, tn_T1, _, rfl⟩), (fun h => absurd h (by decide)), (fun h => absurd h (by decide)), (fun h => absurd h (by decide)), (fun h => absurd h (by decide))⟩
theorem tn_c12 : tn_okC ((8, 70), (0, 4, 2)) := ⟨tn_m8, rfl, (fun _ => ⟨tn_m4, rfl, tn_in 342 (by decide +kernel) (by decide +kernel), tn_in 343 (by decide +kernel) (by decide +kernel), tn_in 344 (by decide +kernel) (by decide +kernel), by decide +kernel, by decide, by decide, tn_T0, _, rfl⟩), (fun h => absurd h (by decide)), (fun h => absurd h (by decide)), (fun h => absurd h (by decide)), (fun h => absurd h (by decide))⟩
theorem tn_c13 : tn_okC ((11, 37), (0, 9, 1)) := ⟨tn_m11, rfl, (fun _ => ⟨tn_m9, rfl, tn_in 382 (by decide +kernel) (by decide +kernel), tn_in 383 (by decide +kernel) (by decide +kernel), tn_in 384 (by decide +kernel) (by decide +kernel), by decide +kernel, by decide, by decide, tn_T0, _, rfl⟩), (fun h => absurd h (by decide)), (fun h => absurd h (by decide)), (fun h => absurd h (by decide)), (fun h => absurd h (by decide))⟩
theorem tn_c14 : tn_okC ((11, 41), (0, 21, 1)) := ⟨tn_m11, rfl, (fun _ => ⟨tn_m21, rfl, tn_in 334 (by decide +kernel) (by decide +kernel), tn_in 335 (by decide +kernel) (by decide +kernel), tn_in 336 (by decide +kernel) (by decide +kernel), by decide +kernel, by decide, by decide, tn_T1, _, rfl⟩), (fun h => absurd h (by decide)), (fun h => absurd h (by decide)), (fun h => absurd h (by decide)), (fun h => absurd h (by decide))⟩
theorem tn_c15 : tn_okC ((12, 37), (0, 9, 1)) := ⟨tn_m12, rfl, (fun _ => ⟨tn_m9, rfl, tn_in 382 (by decide +kernel) (by decide +kernel), tn_in 383 (by decide +kernel) (by decide +kernel), tn_in 384 (by decide +kernel) (by decide +kernel), by decide +kernel, by decide, by decide, tn_T0, _, rfl⟩), (fun h => absurd h (by decide)), (fun h => absurd h (by decide)), (fun h => absurd h (by decide)), (fun h => absurd h (by decide))⟩
theorem tn_c16 : tn_okC ((12, 44), (0, 22, 2)) := ⟨tn_m12, rfl, (fun _ => ⟨tn_m22, rfl, tn_in 338 (by decide +kernel) (by decide +kernel), tn_in 339 (by decide +kernel) (by decide +kernel), tn_in 340 (by decide +kernel) (by decide +kernel), by decide +kernel, by decide, by decide, tn_T1, _, rfl⟩), (fun h => absurd h (by decide)), (fun h => absurd h (by decide)), (fun h => absurd h (by decide)), (fun h => absurd h (by decide))⟩
theorem tn_c17 : tn_okC ((13, 73), (0, 14, 1)) := ⟨tn_m13, rfl, (fun _ => ⟨tn_m14, rfl, tn_in 425 (by decide +kernel) (by decide +kernel), tn_in 427 (by decide +kernel) (by decide +kernel), tn_in 10 (by decide +kernel) (by decide +kernel), by decide +kernel, by decide, by decide, tn_T0, _, rfl⟩), (fun h => absurd h (by decide)), (fun h => absurd h (by decide)), (fun h => absurd h (by decide)), (fun h => absurd h (by decide))⟩
theorem tn_c18 : tn_okC ((14, 59), (0, 5, 2)) := ⟨tn_m14, rfl, (fun _ => ⟨tn_m5, rfl, tn_in 352 (by decide +kernel) (by decide +kernel), tn_in 354 (by decide +kernel) (by decide +kernel), tn_in 2 (by decide +kernel) (by decide +kernel), by decide +kernel, by decide, by decide, tn_T0, _, rfl⟩), (fun h => absurd h (by decide)), (fun h => absurd h (by decide)), (fun h => absurd h (by decide)), (fun h => absurd h (by decide))⟩
theorem tn_c19 : tn_okC ((14, 63), (0, 6, 2)) := ⟨tn_m14, rfl, (fun _ => ⟨tn_m6, rfl, tn_in 356 (by decide +kernel) (by decide +kernel), tn_in 358 (by decide +kernel) (by decide +kernel), tn_in 3 (by decide +kernel) (by decide +kernel), by decide +kernel, by decide, by decide, tn_T0, _, rfl⟩), (fun h => absurd h (by decide)), (fun h => absurd h (by decide)), (fun h => absurd h (by decide)), (fun h => absurd h (by decide))⟩
theorem tn_c20 : tn_okC ((15, 37), (0, 9, 1)) := ⟨tn_m15, rfl, (fun _ => ⟨tn_m9, rfl, tn_in 382 (by decide +kernel) (by decide +kernel), tn_in 383 (by decide +kernel) (by decide +kernel), tn_in 384 (by decide +kernel) (by decide +kernel), by decide +kernel, by decide, by decide, tn_T0, _, rfl⟩), (fun h => absurd h (by decide)), (fun h => absurd h (by decide)), (fun h => absurd h (by decide)), (fun h => absurd h (by decide))⟩
theorem tn_c21 : tn_okC ((18, 28), (0, 19, 1)) := ⟨tn_m18, rfl, (fun _ => ⟨tn_m19, rfl, tn_in 317 (by decide +kernel) (by decide +kernel), tn_in 318 (by decide +kernel) (by decide +kernel), tn_in 319 (by decide +kernel) (by decide +kernel), by decide +kernel, by decide, by decide, tn_T1, _, rfl⟩), (fun h => absurd h (by decide)), (fun h => absurd h (by decide)), (fun h => absurd h (by decide)), (fun h => absurd h (by decide))⟩
theorem tn_c22 : tn_okC ((23, 25), (2, 78, 2)) := ⟨tn_m23, rfl, (fun h => absurd h (by decide)), (fun _ => ⟨tn_m78, rfl, tn_in 433 (by decide +kernel) (by decide +kernel), tn_in 395 (by decide +kernel) (by decide +kernel), by decide +kernel, by decide, by decide⟩), (fun h => absurd h (by decide)), (fun h => absurd h (by decide)), (fun h => absurd h (by decide))⟩
theorem tn_c23 : tn_okC ((23, 40), (0, 24, 1)) := ⟨tn_m23, rfl, (fun _ => ⟨tn_m24, rfl, tn_in 434 (by decide +kernel) (by decide +kernel), tn_in 436 (by decide +kernel) (by decide +kernel), tn_in 11 (by decide +kernel) (by decide +kernel), by decide +kernel, by decide, by decide, tn_T2, _, rfl⟩), (fun h => absurd h (by decide)), (fun h => absurd h (by decide)), (fun h => absurd h (by decide)), (fun h => absurd h (by decide))⟩
theorem tn_c24 : tn_okC ((23, 44), (0, 15, 1)) := ⟨tn_m23, rfl, (fun _ => ⟨tn_m15, rfl, tn_in 438 (by decide +kernel) (by decide +kernel), tn_in 439 (by decide +kernel) (by decide +kernel), tn_in 440 (by decide +kernel) (by decide +kernel), by decide +kernel, by decide, by decide, tn_T0, _, rfl⟩), (fun h => absurd h (by decide)), (fun h => absurd h (by decide)), (fun h => absurd h (by decide)), (fun h => absurd h (by decide))⟩
theorem tn_c25 : tn_okC ((23, 50), (0, 9, 1)) := ⟨tn_m23, rfl, (fun _ => ⟨tn_m9, rfl, tn_in 442 (by decide +kernel) (by decide +kernel), tn_in 383 (by decide +kernel) (by decide +kernel), tn_in 384 (by decide +kernel) (by decide +kernel), by decide +kernel, by decide, by decide, tn_T0, _, rfl⟩), (fun h => absurd h (by decide)), (fun h => absurd h (by decide)), (fun h => absurd h (by decide)), (fun h => absurd h (by decide))⟩
theorem tn_c26 : tn_okC ((23, 53), (2, 77, 2)) := ⟨tn_m23, rfl, (fun h => absurd h (by decide)), (fun _ => ⟨tn_m77, rfl, tn_in 446 (by decide +kernel) (by decide +kernel), tn_in 447 (by decide +kernel) (by decide +kernel), by decide +kernel, by decide, by decide⟩), (fun h => absurd h (by decide)), (fun h => absurd h (by decide)), (fun h => absurd h (by decide))⟩
theorem tn_c27 : tn_okC ((23, 59), (0, 25, 2)) := ⟨tn_m23, rfl, (fun _ => ⟨tn_m25, rfl, tn_in 449 (by decide +kernel) (by decide +kernel), tn_in 451 (by decide +kernel) (by decide +kernel), tn_in 12 (by decide +kernel) (by decide +kernel), by decide +kernel, by decide, by decide, tn_T2, _, rfl⟩), (fun h => absurd h (by decide)), (fun h => absurd h (by decide)), (fun h => absurd h (by decide)), (fun h => absurd h (by decide))⟩
theorem tn_c28 : tn_okC ((24, 44), (0, 15, 1)) := ⟨tn_m24, rfl, (fun _ => ⟨tn_m15, rfl, tn_in 438 (by decide +kernel) (by decide +kernel), tn_in 439 (by decide +kernel) (by decide +kernel), tn_in 440 (by decide +kernel) (by decide +kernel), by decide +kernel, by decide, by decide, tn_T0, _, rfl⟩), (fun h => absurd h (by decide)), (fun h => absurd h (by decide)), (fun h => absurd h (by decide)), (fun h => absurd h (by decide))⟩
theorem tn_c29 : tn_okC ((24, 50), (0, 9, 1)) := ⟨tn_m24, rfl, (fun _ => ⟨tn_m9, rfl, tn_in 442 (by decide +kernel) (by decide +kernel), tn_in 383 (by decide +kernel) (by decide +kernel), tn_in 384 (by decide +kernel) (by decide +kernel), by decide +kernel, by decide, by decide, tn_T0, _, rfl⟩), (fun h => absurd h (by decide)), (fun h => absurd h (by decide)), (fun h => absurd h (by decide)), (fun h => absurd h (by decide))⟩
theorem tn_c30 : tn_okC ((24, 72), (0, 11, 1)) := ⟨tn_m24, rfl, (fun _ => ⟨tn_m11, rfl, tn_in 443 (by decide +kernel) (by decide +kernel), tn_in 414 (by decide +kernel) (by decide +kernel), tn_in 415 (by decide +kernel) (by decide +kernel), by decide +kernel, by decide, by decide, tn_T0, _, rfl⟩), (fun h => absurd h (by decide)), (fun h => absurd h (by decide)), (fun h => absurd h (by decide)), (fun h => absurd h (by decide))⟩
theorem tn_c31 : tn_okC ((24, 76), (0, 12, 2)) := ⟨tn_m24, rfl, (fun _ => ⟨tn_m12, rfl, tn_in 445 (by decide +kernel) (by decide +kernel), tn_in 418 (by decide +kernel) (by decide +kernel), tn_in 419 (by decide +kernel) (by decide +kernel), by decide +kernel, by decide, by decide, tn_T0, _, rfl⟩), (fun h => absurd h (by decide)), (fun h => absurd h (by decide)), (fun h => absurd h (by decide)), (fun h => absurd h (by decide))⟩
theorem tn_c32 : tn_okC ((25, 79), (0, 3, 2)) := ⟨tn_m25, rfl, (fun _ => ⟨tn_m3, rfl, tn_in 453 (by decide +kernel) (by decide +kernel), tn_in 331 (by decide +kernel) (by decide +kernel), tn_in 332 (by decide +kernel) (by decide +kernel), by decide +kernel, by decide, by decide, tn_T0, _, rfl⟩), (fun h => absurd h (by decide)), (fun h => absurd h (by decide)), (fun h => absurd h (by decide)), (fun h => absurd h (by decide))⟩
theorem tn_c33 : tn_okC ((25, 83), (0, 4, 2)) := ⟨tn_m25, rfl, (fun _ => ⟨tn_m4, rfl, tn_in 454 (by decide +kernel) (by decide +kernel), tn_in 343 (by decide +kernel) (by decide +kernel), tn_in 344 (by decide +kernel) (by decide +kernel), by decide +kernel, by decide, by decide, tn_T0, _, rfl⟩), (fun h => absurd h (by decide)), (fun h => absurd h (by decide)), (fun h => absurd h (by decide)), (fun h => absurd h (by decide))⟩
theorem tn_c34 : tn_okC ((26, 38), (0, 27, 0)) := ⟨tn_m26, rfl, (fun _ => ⟨tn_m27, rfl, tn_in 390 (by decide +kernel) (by decide +kernel), tn_in 392 (by decide +kernel) (by decide +kernel), tn_in 6 (by decide +kernel) (by decide +kernel), by decide +kernel, by decide, by decide, tn_T3, _, rfl⟩), (fun h => absurd h (by decide)), (fun h => absurd h (by decide)), (fun h => absurd h (by decide)), (fun h => absurd h (by decide))⟩
theorem tn_c35 : tn_okC ((26, 41), (0, 10, 1)) := ⟨tn_m26, rfl, (fun _ => ⟨tn_m10, rfl, tn_in 397 (by decide +kernel) (by decide +kernel), tn_in 398 (by decide +kernel) (by decide +kernel), tn_in 399 (by decide +kernel) (by decide +kernel), by decide +kernel, by decide, by decide, tn_T0, _, rfl⟩), (fun h => absurd h (by decide)), (fun h => absurd h (by decide)), (fun h => absurd h (by decide)), (fun h => absurd h (by decide))⟩
theorem tn_c36 : tn_okC ((26, 47), (0, 28, 1)) := ⟨tn_m26, rfl, (fun _ => ⟨tn_m28, rfl, tn_in 401 (by decide +kernel) (by decide +kernel), tn_in 403 (by decide +kernel) (by decide +kernel), tn_in 7 (by decide +kernel) (by decide +kernel), by decide +kernel, by decide, by decide, tn_T3, _, rfl⟩), (fun h => absurd h (by decide)), (fun h => absurd h (by decide)), (fun h => absurd h (by decide)), (fun h => absurd h (by decide))⟩
theorem tn_c37 : tn_okC ((27, 82), (2, 78, 2)) := ⟨tn_m27, rfl, (fun h => absurd h (by decide)), (fun _ => ⟨tn_m78, rfl, tn_in 394 (by decide +kernel) (by decide +kernel), tn_in 395 (by decide +kernel) (by decide +kernel), by decide +kernel, by decide, by decide⟩), (fun h => absurd h (by decide)), (fun h => absurd h (by decide)), (fun h => absurd h (by decide))⟩
theorem tn_c38 : tn_okC ((28, 88), (0, 29, 1)) := ⟨tn_m28, rfl, (fun _ => ⟨tn_m29, rfl, tn_in 405 (by decide +kernel) (by decide +kernel), tn_in 407 (by decide +kernel) (by decide +kernel), tn_in 8 (by decide +kernel) (by decide +kernel), by decide +kernel, by decide, by decide, tn_T3, _, rfl⟩), (fun h => absurd h (by decide)), (fun h => absurd h (by decide)), (fun h => absurd h (by decide)), (fun h => absurd h (by decide))⟩
theorem tn_c39 : tn_okC ((28, 91), (0, 30, 1)) := ⟨tn_m28, rfl, (fun _ => ⟨tn_m30, rfl, tn_in 409 (by decide +kernel) (by decide +kernel), tn_in 411 (by decide +kernel) (by decide +kernel), tn_in 9 (by decide +kernel) (by decide +kernel), by decide +kernel, by decide, by decide, tn_T3, _, rfl⟩), (fun h => absurd h (by decide)), (fun h => absurd h (by decide)), (fun h => absurd h (by decide)), (fun h => absurd h (by decide))⟩
theorem tn_c40 : tn_okC ((30, 58), (0, 11, 1)) := ⟨tn_m30, rfl, (fun _ => ⟨tn_m11, rfl, tn_in 413 (by decide +kernel) (by decide +kernel), tn_in 414 (by decide +kernel) (by decide +kernel), tn_in 415 (by decide +kernel) (by decide +kernel), by decide +kernel, by decide, by decide, tn_T0, _, rfl⟩), (fun h => absurd h (by decide)), (fun h => absurd h (by decide)), (fun h => absurd h (by decide)), (fun h => absurd h (by decide))⟩
theorem tn_c41 : tn_okC ((30, 61), (0, 12, 2)) := ⟨tn_m30, rfl, (fun _ => ⟨tn_m12, rfl, tn_in 417 (by decide +kernel) (by decide +kernel), tn_in 418 (by decide +kernel) (by decide +kernel), tn_in 419 (by decide +kernel) (by decide +kernel), by decide +kernel, by decide, by decide, tn_T0, _, rfl⟩), (fun h => absurd h (by decide)), (fun h => absurd h (by decide)), (fun h => absurd h (by decide)), (fun h => absurd h (by decide))⟩
theorem tn_c42 : tn_okC ((30, 88), (0, 29, 1)) := ⟨tn_m30, rfl, (fun _ => ⟨tn_m29, rfl, tn_in 405 (by decide +kernel) (by decide +kernel), tn_in 407 (by decide +kernel) (by decide +kernel), tn_in 8 (by decide +kernel) (by decide +kernel), by decide +kernel, by decide, by decide, tn_T3, _, rfl⟩), (fun h => absurd h (by decide)), (fun h => absurd h (by decide)), (fun h => absurd h (by decide)), (fun h => absurd h (by decide))⟩
theorem tn_c43 : tn_okC ((31, 41), (0, 10, 1)) := ⟨tn_m31, rfl, (fun _ => ⟨tn_m10, rfl, tn_in 397 (by decide +kernel) (by decide +kernel), tn_in 398 (by decide +kernel) (by decide +kernel), tn_in 399 (by decide +kernel) (by decide +kernel), by decide +kernel, by decide, by decide, tn_T0, _, rfl⟩), (fun h => absurd h (by decide)), (fun h => absurd h (by decide)), (fun h => absurd h (by decide)), (fun h => absurd h (by decide))⟩
theorem tn_c44 : tn_okC ((31, 51), (0, 32, 1)) := ⟨tn_m31, rfl, (fun _ => ⟨tn_m32, rfl, tn_in 516 (by decide +kernel) (by decide +kernel), tn_in 518 (by decide +kernel) (by decide +kernel), tn_in 13 (by decide +kernel) (by decide +kernel), by decide +kernel, by decide, by decide, tn_T3, _, rfl⟩), (fun h => absurd h (by decide)), (fun h => absurd h (by decide)), (fun h => absurd h (by decide)), (fun h => absurd h (by decide))⟩
theorem tn_c45 : tn_okC ((31, 55), (0, 33, 1)) := ⟨tn_m31, rfl, (fun _ => ⟨tn_m33, rfl, tn_in 520 (by decide +kernel) (by decide +kernel), tn_in 522 (by decide +kernel) (by decide +kernel), tn_in 14 (by decide +kernel) (by decide +kernel), by decide +kernel, by decide, by decide, tn_T3, _, rfl⟩), (fun h => absurd h (by decide)), (fun h => absurd h (by decide)), (fun h => absurd h (by decide)), (fun h => absurd h (by decide))⟩
theorem tn_c46 : tn_okC ((32, 38), (0, 27, 0)) := ⟨tn_m32, rfl, (fun _ => ⟨tn_m27, rfl, tn_in 390 (by decide +kernel) (by decide +kernel), tn_in 392 (by decide +kernel) (by decide +kernel), tn_in 6 (by decide +kernel) (by decide +kernel), by decide +kernel, by decide, by decide, tn_T3, _, rfl⟩), (fun h => absurd h (by decide)), (fun h => absurd h (by decide)), (fun h => absurd h (by decide)), (fun h => absurd h (by decide))⟩
theorem tn_c47 : tn_okC ((32, 41), (0, 10, 1)) := ⟨tn_m32, rfl, (fun _ => ⟨tn_m10, rfl, tn_in 397 (by decide +kernel) (by decide +kernel), tn_in 398 (by decide +kernel) (by decide +kernel), tn_in 399 (by decide +kernel) (by decide +kernel), by decide +kernel, by decide, by decide, tn_T0, _, rfl⟩), (fun h => absurd h (by decide)), (fun h => absurd h (by decide)), (fun h => absurd h (by decide)), (fun h => absurd h (by decide))⟩
theorem tn_c48 : tn_okC ((32, 47), (0, 28, 1)) := ⟨tn_m32, rfl, (fun _ => ⟨tn_m28, rfl, tn_in 401 (by decide +kernel) (by decide +kernel), tn_in 403 (by decide +kernel) (by decide +kernel), tn_in 7 (by decide +kernel) (by decide +kernel), by decide +kernel, by decide, by decide, tn_T3, _, rfl⟩), (fun h => absurd h (by decide)), (fun h => absurd h (by decide)), (fun h => absurd h (by decide)), (fun h => absurd h (by decide))⟩
theorem tn_c49 : tn_okC ((33, 58), (0, 11, 1)) := ⟨tn_m33, rfl, (fun _ => ⟨tn_m11, rfl, tn_in 413 (by decide +kernel) (by decide +kernel), tn_in 414 (by decide +kernel) (by decide +kernel), tn_in 415 (by decide +kernel) (by decide +kernel), by decide +kernel, by decide, by decide, tn_T0, _, rfl⟩), (fun h => absurd h (by decide)), (fun h => absurd h (by decide)), (fun h => absurd h (by decide)), (fun h => absurd h (by decide))⟩
theorem tn_c50 : tn_okC ((33, 61), (0, 12, 2)) := ⟨tn_m33, rfl, (fun _ => ⟨tn_m12, rfl, tn_in 417 (by decide +kernel) (by decide +kernel), tn_in 418 (by decide +kernel) (by decide +kernel), tn_in 419 (by decide +kernel) (by decide +kernel), by decide +kernel, by decide, by decide, tn_T0, _, rfl⟩), (fun h => absurd h (by decide)), (fun h => absurd h (by decide)), (fun h => absurd h (by decide)), (fun h => absurd h (by decide))⟩
theorem tn_c51 : tn_okC ((33, 67), (5, 0, 0)) := ⟨tn_m33, rfl, (fun h => absurd h (by decide)), (fun h => absurd h (by decide)), (fun h => absurd h (by decide)), (fun h => absurd h (by decide)), (fun _ => ⟨tn_in 525 (by decide +kernel) (by decide +kernel), tn_in 526 (by decide +kernel) (by decide +kernel), tn_in 34 (by decide +kernel) (by decide +kernel), tn_in 527 (by decide +kernel) (by decide +kernel), by decide, by decide⟩)⟩
theorem tn_c52 : tn_okC ((34, 41), (0, 10, 1)) := ⟨tn_m34, rfl, (fun _ => ⟨tn_m10, rfl, tn_in 397 (by decide +kernel) (by decide +kernel), tn_in 398 (by decide +kernel) (by decide +kernel), tn_in 399 (by decide +kernel) (by decide +kernel), by decide +kernel, by decide, by decide, tn_T0, _, rfl⟩), (fun h => absurd h (by decide)), (fun h => absurd h (by decide)), (fun h => absurd h (by decide)), (fun h => absurd h (by decide))⟩
theorem tn_c53 : tn_okC ((34, 51), (0, 32, 1)) := ⟨tn_m34, rfl, (fun _ => ⟨tn_m32, rfl, tn_in 516 (by decide +kernel) (by decide +kernel), tn_in 518 (by decide +kernel) (by decide +kernel), tn_in 13 (by decide +kernel) (by decide +kernel), by decide +kernel, by decide, by decide, tn_T3, _, rfl⟩), (fun h => absurd h (by decide)), (fun h => absurd h (by decide)), (fun h => absurd h (by decide)), (fun h => absurd h (by decide))⟩
theorem tn_c54 : tn_okC ((34, 73), (0, 35, 1)) := ⟨tn_m34, rfl, (fun _ => ⟨tn_m35, rfl, tn_in 539 (by decide +kernel) (by decide +kernel), tn_in 541 (by decide +kernel) (by decide +kernel), tn_in 15 (by decide +kernel) (by decide +kernel), by decide +kernel, by decide, by decide, tn_T3, _, rfl⟩), (fun h => absurd h (by decide)), (fun h => absurd h (by decide)), (fun h => absurd h (by decide)), (fun h => absurd h (by decide))⟩
theorem tn_c55 : tn_okC ((35, 58), (0, 11, 1)) := ⟨tn_m35, rfl, (fun _ => ⟨tn_m11, rfl, tn_in 413 (by decide +kernel) (by decide +kernel), tn_in 414 (by decide +kernel) (by decide +kernel), tn_in 415 (by decide +kernel) (by decide +kernel), by decide +kernel, by decide, by decide, tn_T0, _, rfl⟩), (fun h => absurd h (by decide)), (fun h => absurd h (by decide)), (fun h => absurd h (by decide)), (fun h => absurd h (by decide))⟩
theorem tn_c56 : tn_okC ((35, 61), (0, 12, 2)) := ⟨tn_m35, rfl, (fun _ => ⟨tn_m12, rfl, tn_in 417 (by decide +kernel) (by decide +kernel), tn_in 418 (by decide +kernel) (by decide +kernel), tn_in 419 (by decide +kernel) (by decide +kernel), by decide +kernel, by decide, by decide, tn_T0, _, rfl⟩), (fun h => absurd h (by decide)), (fun h => absurd h (by decide)), (fun h => absurd h (by decide)), (fun h => absurd h (by decide))⟩
theorem tn_c57 : tn_okC ((35, 76), (3, 0, 0)) := ⟨tn_m35, rfl, (fun h => absurd h (by decide)), (fun h => absurd h (by decide)), (fun _ => ⟨tn_in 543 (by decide +kernel) (by decide +kernel), tn_in 350 (by decide +kernel) (by decide +kernel), tn_in 34 (by decide +kernel) (by decide +kernel), tn_in 351 (by decide +kernel) (by decide +kernel), by decide, by decide⟩), (fun h => absurd h (by decide)), (fun h => absurd h (by decide))⟩
theorem tn_c58 : tn_okC ((36, 41), (0, 10, 1)) := ⟨tn_m36, rfl, (fun _ => ⟨tn_m10, rfl, tn_in 397 (by decide +kernel) (by decide +kernel), tn_in 398 (by decide +kernel) (by decide +kernel), tn_in 399 (by decide +kernel) (by decide +kernel), by decide +kernel, by decide, by decide, tn_T0, _, rfl⟩), (fun h => absurd h (by decide)), (fun h => absurd h (by decide)), (fun h => absurd h (by decide)), (fun h => absurd h (by decide))⟩
theorem tn_c59 : tn_okC ((36, 51), (0, 32, 1)) := ⟨tn_m36, rfl, (fun _ => ⟨tn_m32, rfl, tn_in 516 (by decide +kernel) (by decide +kernel), tn_in 518 (by decide +kernel) (by decide +kernel), tn_in 13 (by decide +kernel) (by decide +kernel), by decide +kernel, by decide, by decide, tn_T3, _, rfl⟩), (fun h => absurd h (by decide)), (fun h => absurd h (by decide)), (fun h => absurd h (by decide)), (fun h => absurd h (by decide))⟩
theorem tn_c60 : tn_okC ((37, 51), (0, 32, 1)) := ⟨tn_m37, rfl, (fun _ => ⟨tn_m32, rfl, tn_in 516 (by decide +kernel) (by decide +kernel), tn_in 518 (by decide +kernel) (by decide +kernel), tn_in 13 (by decide +kernel) (by decide +kernel), by decide +kernel, by decide, by decide, tn_T3, _, rfl⟩), (fun h => absurd h (by decide)), (fun h => absurd h (by decide)), (fun h => absurd h (by decide)), (fun h => absurd h (by decide))⟩
theorem tn_c61 : tn_okC ((37, 79), (0, 15, 1)) := ⟨tn_m37, rfl, (fun _ => ⟨tn_m15, rfl, tn_in 566 (by decide +kernel) (by decide +kernel), tn_in 439 (by decide +kernel) (by decide +kernel), tn_in 440 (by decide +kernel) (by decide +kernel), by decide +kernel, by decide, by decide, tn_T0, _, rfl⟩), (fun h => absurd h (by decide)), (fun h => absurd h (by decide)), (fun h => absurd h (by decide)), (fun h => absurd h (by decide))⟩
theorem tn_c62 : tn_okC ((38, 169), (0, 0, 0)) := ⟨tn_m38, rfl, (fun _ => ⟨tn_m0, rfl, tn_in 185 (by decide +kernel) (by decide +kernel), tn_in 186 (by decide +kernel) (by decide +kernel), tn_in 187 (by decide +kernel) (by decide +kernel), by decide +kernel, by decide, by decide, tn_T0, _, rfl⟩), (fun h => absurd h (by decide)), (fun h => absurd h (by decide)), (fun h => absurd h (by decide)), (fun h => absurd h (by decide))⟩
theorem tn_c63 : tn_okC ((39, 73), (0, 16, 1)) := ⟨tn_m39, rfl, (fun _ => ⟨tn_m16, rfl, tn_in 282 (by decide +kernel) (by decide +kernel), tn_in 283 (by decide +kernel) (by decide +kernel), tn_in 284 (by decide +kernel) (by decide +kernel), by decide +kernel, by decide, by decide, tn_T1, _, rfl⟩), (fun h => absurd h (by decide)), (fun h => absurd h (by decide)), (fun h => absurd h (by decide)), (fun h => absurd h (by decide))⟩
theorem tn_c64 : tn_okC ((40, 77), (0, 41, 0)) := ⟨tn_m40, rfl, (fun _ => ⟨tn_m41, rfl, tn_in 293 (by decide +kernel) (by decide +kernel), tn_in 295 (by decide +kernel) (by decide +kernel), tn_in 1 (by decide +kernel) (by decide +kernel), by decide +kernel, by decide, by decide, tn_T4, _, rfl⟩), (fun h => absurd h (by decide)), (fun h => absurd h (by decide)), (fun h => absurd h (by decide)), (fun h => absurd h (by decide))⟩
theorem tn_c65 : tn_okC ((40, 80), (0, 17, 0)) := ⟨tn_m40, rfl, (fun _ => ⟨tn_m17, rfl, tn_in 298 (by decide +kernel) (by decide +kernel), tn_in 299 (by decide +kernel) (by decide +kernel), tn_in 300 (by decide +kernel) (by decide +kernel), by decide +kernel, by decide, by decide, tn_T1, _, rfl⟩), (fun h => absurd h (by decide)), (fun h => absurd h (by decide)), (fun h => absurd h (by decide)), (fun h => absurd h (by decide))⟩
theorem tn_c66 : tn_okC ((40, 84), (0, 1, 1)) := ⟨tn_m40, rfl, (fun _ => ⟨tn_m1, rfl, tn_in 302 (by decide +kernel) (by decide +kernel), tn_in 303 (by decide +kernel) (by decide +kernel), tn_in 304 (by decide +kernel) (by decide +kernel), by decide +kernel, by decide, by decide, tn_T0, _, rfl⟩), (fun h => absurd h (by decide)), (fun h => absurd h (by decide)), (fun h => absurd h (by decide)), (fun h => absurd h (by decide))⟩
theorem tn_c67 : tn_okC ((42, 77), (0, 41, 0)) := ⟨tn_m42, rfl, (fun _ => ⟨tn_m41, rfl, tn_in 293 (by decide +kernel) (by decide +kernel), tn_in 295 (by decide +kernel) (by decide +kernel), tn_in 1 (by decide +kernel) (by decide +kernel), by decide +kernel, by decide, by decide, tn_T4, _, rfl⟩), (fun h => absurd h (by decide)), (fun h => absurd h (by decide)), (fun h => absurd h (by decide)), (fun h => absurd h (by decide))⟩
theorem tn_c68 : tn_okC ((42, 84), (0, 1, 1)) := ⟨tn_m42, rfl, (fun _ => ⟨tn_m1, rfl, tn_in 302 (by decide +kernel) (by decide +kernel), tn_in 303 (by decide +kernel) (by decide +kernel), tn_in 304 (by decide +kernel) (by decide +kernel), by decide +kernel, by decide, by decide, tn_T0, _, rfl⟩), (fun h => absurd h (by decide)), (fun h => absurd h (by decide)), (fun h => absurd h (by decide)), (fun h => absurd h (by decide))⟩
theorem tn_c69 : tn_okC ((42, 88), (0, 18, 4)) := ⟨tn_m42, rfl, (fun _ => ⟨tn_m18, rfl, tn_in 313 (by decide +kernel) (by decide +kernel), tn_in 314 (by decide +kernel) (by decide +kernel), tn_in 315 (by decide +kernel) (by decide +kernel), by decide +kernel, by decide, by decide, tn_T1, _, rfl⟩), (fun h => absurd h (by decide)), (fun h => absurd h (by decide)), (fun h => absurd h (by decide)), (fun h => absurd h (by decide))⟩
theorem tn_c70 : tn_okC ((42, 94), (0, 20, 4)) := ⟨tn_m42, rfl, (fun _ => ⟨tn_m20, rfl, tn_in 322 (by decide +kernel) (by decide +kernel), tn_in 323 (by decide +kernel) (by decide +kernel), tn_in 324 (by decide +kernel) (by decide +kernel), by decide +kernel, by decide, by decide, tn_T1, _, rfl⟩), (fun h => absurd h (by decide)), (fun h => absurd h (by decide)), (fun h => absurd h (by decide)), (fun h => absurd h (by decide))⟩
theorem tn_c71 : tn_okC ((42, 98), (0, 2, 1)) := ⟨tn_m42, rfl, (fun _ => ⟨tn_m2, rfl, tn_in 326 (by decide +kernel) (by decide +kernel), tn_in 327 (by decide +kernel) (by decide +kernel), tn_in 328 (by decide +kernel) (by decide +kernel), by decide +kernel, by decide, by decide, tn_T0, _, rfl⟩), (fun h => absurd h (by decide)), (fun h => absurd h (by decide)), (fun h => absurd h (by decide)), (fun h => absurd h (by decide))⟩
theorem tn_c72 : tn_okC ((43, 101), (0, 44, 1)) := ⟨tn_m43, rfl, (fun _ => ⟨tn_m44, rfl, tn_in 367 (by decide +kernel) (by decide +kernel), tn_in 369 (by decide +kernel) (by decide +kernel), tn_in 4 (by decide +kernel) (by decide +kernel), by decide +kernel, by decide, by decide, tn_T4, _, rfl⟩), (fun h => absurd h (by decide)), (fun h => absurd h (by decide)), (fun h => absurd h (by decide)), (fun h => absurd h (by decide))⟩
theorem tn_c73 : tn_okC ((43, 107), (0, 4, 2)) := ⟨tn_m43, rfl, (fun _ => ⟨tn_m4, rfl, tn_in 373 (by decide +kernel) (by decide +kernel), tn_in 343 (by decide +kernel) (by decide +kernel), tn_in 344 (by decide +kernel) (by decide +kernel), by decide +kernel, by decide, by decide, tn_T0, _, rfl⟩), (fun h => absurd h (by decide)), (fun h => absurd h (by decide)), (fun h => absurd h (by decide)), (fun h => absurd h (by decide))⟩
theorem tn_c74 : tn_okC ((43, 111), (0, 7, 1)) := ⟨tn_m43, rfl, (fun _ => ⟨tn_m7, rfl, tn_in 374 (by decide +kernel) (by decide +kernel), tn_in 375 (by decide +kernel) (by decide +kernel), tn_in 376 (by decide +kernel) (by decide +kernel), by decide +kernel, by decide, by decide, tn_T0, _, rfl⟩), (fun h => absurd h (by decide)), (fun h => absurd h (by decide)), (fun h => absurd h (by decide)), (fun h => absurd h (by decide))⟩
theorem tn_c75 : tn_okC ((43, 118), (0, 26, 1)) := ⟨tn_m43, rfl, (fun _ => ⟨tn_m26, rfl, tn_in 386 (by decide +kernel) (by decide +kernel), tn_in 387 (by decide +kernel) (by decide +kernel), tn_in 388 (by decide +kernel) (by decide +kernel), by decide +kernel, by decide, by decide, tn_T3, _, rfl⟩), (fun h => absurd h (by decide)), (fun h => absurd h (by decide)), (fun h => absurd h (by decide)), (fun h => absurd h (by decide))⟩
theorem tn_c76 : tn_okC ((43, 121), (0, 13, 1)) := ⟨tn_m43, rfl, (fun _ => ⟨tn_m13, rfl, tn_in 421 (by decide +kernel) (by decide +kernel), tn_in 422 (by decide +kernel) (by decide +kernel), tn_in 423 (by decide +kernel) (by decide +kernel), by decide +kernel, by decide, by decide, tn_T0, _, rfl⟩), (fun h => absurd h (by decide)), (fun h => absurd h (by decide)), (fun h => absurd h (by decide)), (fun h => absurd h (by decide))⟩
theorem tn_c77 : tn_okC ((43, 124), (0, 23, 1)) := ⟨tn_m43, rfl, (fun _ => ⟨tn_m23, rfl, tn_in 429 (by decide +kernel) (by decide +kernel), tn_in 430 (by decide +kernel) (by decide +kernel), tn_in 431 (by decide +kernel) (by decide +kernel), by decide +kernel, by decide, by decide, tn_T2, _, rfl⟩), (fun h => absurd h (by decide)), (fun h => absurd h (by decide)), (fun h => absurd h (by decide)), (fun h => absurd h (by decide))⟩
theorem tn_c78 : tn_okC ((44, 172), (0, 19, 1)) := ⟨tn_m44, rfl, (fun _ => ⟨tn_m19, rfl, tn_in 371 (by decide +kernel) (by decide +kernel), tn_in 318 (by decide +kernel) (by decide +kernel), tn_in 319 (by decide +kernel) (by decide +kernel), by decide +kernel, by decide, by decide, tn_T1, _, rfl⟩), (fun h => absurd h (by decide)), (fun h => absurd h (by decide)), (fun h => absurd h (by decide)), (fun h => absurd h (by decide))⟩
theorem tn_c79 : tn_okC ((45, 101), (0, 44, 1)) := ⟨tn_m45, rfl, (fun _ => ⟨tn_m44, rfl, tn_in 367 (by decide +kernel) (by decide +kernel), tn_in 369 (by decide +kernel) (by decide +kernel), tn_in 4 (by decide +kernel) (by decide +kernel), by decide +kernel, by decide, by decide, tn_T4, _, rfl⟩), (fun h => absurd h (by decide)), (fun h => absurd h (by decide)), (fun h => absurd h (by decide)), (fun h => absurd h (by decide))⟩
theorem tn_c80 : tn_okC ((45, 128), (0, 10, 1)) := ⟨tn_m45, rfl, (fun _ => ⟨tn_m10, rfl, tn_in 462 (by decide +kernel) (by decide +kernel), tn_in 398 (by decide +kernel) (by decide +kernel), tn_in 399 (by decide +kernel) (by decide +kernel), by decide +kernel, by decide, by decide, tn_T0, _, rfl⟩), (fun h => absurd h (by decide)), (fun h => absurd h (by decide)), (fun h => absurd h (by decide)), (fun h => absurd h (by decide))⟩
theorem tn_c81 : tn_okC ((46, 101), (0, 44, 1)) := ⟨tn_m46, rfl, (fun _ => ⟨tn_m44, rfl, tn_in 367 (by decide +kernel) (by decide +kernel), tn_in 369 (by decide +kernel) (by decide +kernel), tn_in 4 (by decide +kernel) (by decide +kernel), by decide +kernel, by decide, by decide, tn_T4, _, rfl⟩), (fun h => absurd h (by decide)), (fun h => absurd h (by decide)), (fun h => absurd h (by decide)), (fun h => absurd h (by decide))⟩
theorem tn_c82 : tn_okC ((46, 131), (0, 15, 1)) := ⟨tn_m46, rfl, (fun _ => ⟨tn_m15, rfl, tn_in 470 (by decide +kernel) (by decide +kernel), tn_in 439 (by decide +kernel) (by decide +kernel), tn_in 440 (by decide +kernel) (by decide +kernel), by decide +kernel, by decide, by decide, tn_T0, _, rfl⟩), (fun h => absurd h (by decide)), (fun h => absurd h (by decide)), (fun h => absurd h (by decide)), (fun h => absurd h (by decide))⟩
theorem tn_c83 : tn_okC ((46, 137), (0, 9, 1)) := ⟨tn_m46, rfl, (fun _ => ⟨tn_m9, rfl, tn_in 471 (by decide +kernel) (by decide +kernel), tn_in 383 (by decide +kernel) (by decide +kernel), tn_in 384 (by decide +kernel) (by decide +kernel), by decide +kernel, by decide, by decide, tn_T0, _, rfl⟩), (fun h => absurd h (by decide)), (fun h => absurd h (by decide)), (fun h => absurd h (by decide)), (fun h => absurd h (by decide))⟩
theorem tn_c84 : tn_okC ((47, 101), (0, 44, 1)) := ⟨tn_m47, rfl, (fun _ => ⟨tn_m44, rfl, tn_in 367 (by decide +kernel) (by decide +kernel), tn_in 369 (by decide +kernel) (by decide +kernel), tn_in 4 (by decide +kernel) (by decide +kernel), by decide +kernel, by decide, by decide, tn_T4, _, rfl⟩), (fun h => absurd h (by decide)), (fun h => absurd h (by decide)), (fun h => absurd h (by decide)), (fun h => absurd h (by decide))⟩
theorem tn_c85 : tn_okC ((47, 140), (0, 11, 1)) := ⟨tn_m47, rfl, (fun _ => ⟨tn_m11, rfl, tn_in 480 (by decide +kernel) (by decide +kernel), tn_in 414 (by decide +kernel) (by decide +kernel), tn_in 415 (by decide +kernel) (by decide +kernel), by decide +kernel, by decide, by decide, tn_T0, _, rfl⟩), (fun h => absurd h (by decide)), (fun h => absurd h (by decide)), (fun h => absurd h (by decide)), (fun h => absurd h (by decide))⟩
theorem tn_c86 : tn_okC ((47, 148), (0, 12, 2)) := ⟨tn_m47, rfl, (fun _ => ⟨tn_m12, rfl, tn_in 497 (by decide +kernel) (by decide +kernel), tn_in 418 (by decide +kernel) (by decide +kernel), tn_in 419 (by decide +kernel) (by decide +kernel), by decide +kernel, by decide, by decide, tn_T0, _, rfl⟩), (fun h => absurd h (by decide)), (fun h => absurd h (by decide)), (fun h => absurd h (by decide)), (fun h => absurd h (by decide))⟩
theorem tn_c87 : tn_okC ((48, 101), (0, 44, 1)) := ⟨tn_m48, rfl, (fun _ => ⟨tn_m44, rfl, tn_in 367 (by decide +kernel) (by decide +kernel), tn_in 369 (by decide +kernel) (by decide +kernel), tn_in 4 (by decide +kernel) (by decide +kernel), by decide +kernel, by decide, by decide, tn_T4, _, rfl⟩), (fun h => absurd h (by decide)), (fun h => absurd h (by decide)), (fun h => absurd h (by decide)), (fun h => absurd h (by decide))⟩
theorem tn_c88 : tn_okC ((48, 128), (0, 10, 1)) := ⟨tn_m48, rfl, (fun _ => ⟨tn_m10, rfl, tn_in 462 (by decide +kernel) (by decide +kernel), tn_in 398 (by decide +kernel) (by decide +kernel), tn_in 399 (by decide +kernel) (by decide +kernel), by decide +kernel, by decide, by decide, tn_T0, _, rfl⟩), (fun h => absurd h (by decide)), (fun h => absurd h (by decide)), (fun h => absurd h (by decide)), (fun h => absurd h (by decide))⟩
theorem tn_c89 : tn_okC ((49, 101), (0, 44, 1)) := ⟨tn_m49, rfl, (fun _ => ⟨tn_m44, rfl, tn_in 367 (by decide +kernel) (by decide +kernel), tn_in 369 (by decide +kernel) (by decide +kernel), tn_in 4 (by decide +kernel) (by decide +kernel), by decide +kernel, by decide, by decide, tn_T4, _, rfl⟩), (fun h => absurd h (by decide)), (fun h => absurd h (by decide)), (fun h => absurd h (by decide)), (fun h => absurd h (by decide))⟩
theorem tn_c90 : tn_okC ((49, 152), (0, 31, 1)) := ⟨tn_m49, rfl, (fun _ => ⟨tn_m31, rfl, tn_in 512 (by decide +kernel) (by decide +kernel), tn_in 513 (by decide +kernel) (by decide +kernel), tn_in 514 (by decide +kernel) (by decide +kernel), by decide +kernel, by decide, by decide, tn_T3, _, rfl⟩), (fun h => absurd h (by decide)), (fun h => absurd h (by decide)), (fun h => absurd h (by decide)), (fun h => absurd h (by decide))⟩
theorem tn_c91 : tn_okC ((50, 101), (0, 44, 1)) := ⟨tn_m50, rfl, (fun _ => ⟨tn_m44, rfl, tn_in 367 (by decide +kernel) (by decide +kernel), tn_in 369 (by decide +kernel) (by decide +kernel), tn_in 4 (by decide +kernel) (by decide +kernel), by decide +kernel, by decide, by decide, tn_T4, _, rfl⟩), (fun h => absurd h (by decide)), (fun h => absurd h (by decide)), (fun h => absurd h (by decide)), (fun h => absurd h (by decide))⟩
theorem tn_c92 : tn_okC ((50, 155), (0, 34, 1)) := ⟨tn_m50, rfl, (fun _ => ⟨tn_m34, rfl, tn_in 535 (by decide +kernel) (by decide +kernel), tn_in 536 (by decide +kernel) (by decide +kernel), tn_in 537 (by decide +kernel) (by decide +kernel), by decide +kernel, by decide, by decide, tn_T3, _, rfl⟩), (fun h => absurd h (by decide)), (fun h => absurd h (by decide)), (fun h => absurd h (by decide)), (fun h => absurd h (by decide))⟩
theorem tn_c93 : tn_okC ((51, 101), (0, 44, 1)) := ⟨tn_m51, rfl, (fun _ => ⟨tn_m44, rfl, tn_in 367 (by decide +kernel) (by decide +kernel), tn_in 369 (by decide +kernel) (by decide +kernel), tn_in 4 (by decide +kernel) (by decide +kernel), by decide +kernel, by decide, by decide, tn_T4, _, rfl⟩), (fun h => absurd h (by decide)), (fun h => absurd h (by decide)), (fun h => absurd h (by decide)), (fun h => absurd h (by decide))⟩
theorem tn_c94 : tn_okC ((51, 131), (0, 15, 1)) := ⟨tn_m51, rfl, (fun _ => ⟨tn_m15, rfl, tn_in 470 (by decide +kernel) (by decide +kernel), tn_in 439 (by decide +kernel) (by decide +kernel), tn_in 440 (by decide +kernel) (by decide +kernel), by decide +kernel, by decide, by decide, tn_T0, _, rfl⟩), (fun h => absurd h (by decide)), (fun h => absurd h (by decide)), (fun h => absurd h (by decide)), (fun h => absurd h (by decide))⟩
theorem tn_c95 : tn_okC ((51, 158), (0, 36, 2)) := ⟨tn_m51, rfl, (fun _ => ⟨tn_m36, rfl, tn_in 551 (by decide +kernel) (by decide +kernel), tn_in 552 (by decide +kernel) (by decide +kernel), tn_in 553 (by decide +kernel) (by decide +kernel), by decide +kernel, by decide, by decide, tn_T3, _, rfl⟩), (fun h => absurd h (by decide)), (fun h => absurd h (by decide)), (fun h => absurd h (by decide)), (fun h => absurd h (by decide))⟩
theorem tn_c96 : tn_okC ((52, 101), (0, 44, 1)) := ⟨tn_m52, rfl, (fun _ => ⟨tn_m44, rfl, tn_in 367 (by decide +kernel) (by decide +kernel), tn_in 369 (by decide +kernel) (by decide +kernel), tn_in 4 (by decide +kernel) (by decide +kernel), by decide +kernel, by decide, by decide, tn_T4, _, rfl⟩), (fun h => absurd h (by decide)), (fun h => absurd h (by decide)), (fun h => absurd h (by decide)), (fun h => absurd h (by decide))⟩
theorem tn_c97 : tn_okC ((52, 162), (0, 37, 1)) := ⟨tn_m52, rfl, (fun _ => ⟨tn_m37, rfl, tn_in 562 (by decide +kernel) (by decide +kernel), tn_in 563 (by decide +kernel) (by decide +kernel), tn_in 564 (by decide +kernel) (by decide +kernel), by decide +kernel, by decide, by decide, tn_T3, _, rfl⟩), (fun h => absurd h (by decide)), (fun h => absurd h (by decide)), (fun h => absurd h (by decide)), (fun h => absurd h (by decide))⟩
theorem tn_c98 : tn_okC ((54, 121), (0, 13, 1)) := ⟨tn_m54, rfl, (fun _ => ⟨tn_m13, rfl, tn_in 421 (by decide +kernel) (by decide +kernel), tn_in 422 (by decide +kernel) (by decide +kernel), tn_in 423 (by decide +kernel) (by decide +kernel), by decide +kernel, by decide, by decide, tn_T0, _, rfl⟩), (fun h => absurd h (by decide)), (fun h => absurd h (by decide)), (fun h => absurd h (by decide)), (fun h => absurd h (by decide))⟩
theorem tn_c99 : tn_okC ((57, 64), (0, 58, 4)) := ⟨tn_m57, rfl, (fun _ => ⟨tn_m58, rfl, tn_in 657 (by decide +kernel) (by decide +kernel), tn_in 659 (by decide +kernel) (by decide +kernel), tn_in 16 (by decide +kernel) (by decide +kernel), by decide +kernel, by decide, by decide, tn_T5, _, rfl⟩), (fun h => absurd h (by decide)), (fun h => absurd h (by decide)), (fun h => absurd h (by decide)), (fun h => absurd h (by decide))⟩
theorem tn_c100 : tn_okC ((58, 60), (0, 59, 1)) := ⟨tn_m58, rfl, (fun _ => ⟨tn_m59, rfl, tn_in 661 (by decide +kernel) (by decide +kernel), tn_in 663 (by decide +kernel) (by decide +kernel), tn_in 17 (by decide +kernel) (by decide +kernel), by decide +kernel, by decide, by decide, tn_T5, _, rfl⟩), (fun h => absurd h (by decide)), (fun h => absurd h (by decide)), (fun h => absurd h (by decide)), (fun h => absurd h (by decide))⟩
theorem tn_c101 : tn_okC ((59, 72), (0, 60, 3)) := ⟨tn_m59, rfl, (fun _ => ⟨tn_m60, rfl, tn_in 665 (by decide +kernel) (by decide +kernel), tn_in 667 (by decide +kernel) (by decide +kernel), tn_in 18 (by decide +kernel) (by decide +kernel), by decide +kernel, by decide, by decide, tn_T5, _, rfl⟩), (fun h => absurd h (by decide)), (fun h => absurd h (by decide)), (fun h => absurd h (by decide)), (fun h => absurd h (by decide))⟩
theorem tn_c102 : tn_okC ((61, 64), (0, 58, 4)) := ⟨tn_m61, rfl, (fun _ => ⟨tn_m58, rfl, tn_in 657 (by decide +kernel) (by decide +kernel), tn_in 659 (by decide +kernel) (by decide +kernel), tn_in 16 (by decide +kernel) (by decide +kernel), by decide +kernel, by decide, by decide, tn_T5, _, rfl⟩), (fun h => absurd h (by decide)), (fun h => absurd h (by decide)), (fun h => absurd h (by decide)), (fun h => absurd h (by decide))⟩
theorem tn_c103 : tn_okC ((61, 68), (0, 62, 1)) := ⟨tn_m61, rfl, (fun _ => ⟨tn_m62, rfl, tn_in 673 (by decide +kernel) (by decide +kernel), tn_in 675 (by decide +kernel) (by decide +kernel), tn_in 19 (by decide +kernel) (by decide +kernel), by decide +kernel, by decide, by decide, tn_T5, _, rfl⟩), (fun h => absurd h (by decide)), (fun h => absurd h (by decide)), (fun h => absurd h (by decide)), (fun h => absurd h (by decide))⟩
theorem tn_c104 : tn_okC ((63, 60), (0, 59, 1)) := ⟨tn_m63, rfl, (fun _ => ⟨tn_m59, rfl, tn_in 661 (by decide +kernel) (by decide +kernel), tn_in 663 (by decide +kernel) (by decide +kernel), tn_in 17 (by decide +kernel) (by decide +kernel), by decide +kernel, by decide, by decide, tn_T5, _, rfl⟩), (fun h => absurd h (by decide)), (fun h => absurd h (by decide)), (fun h => absurd h (by decide)), (fun h => absurd h (by decide))⟩
theorem tn_c105 : tn_okC ((63, 68), (0, 62, 1)) := ⟨tn_m63, rfl, (fun _ => ⟨tn_m62, rfl, tn_in 673 (by decide +kernel) (by decide +kernel), tn_in 675 (by decide +kernel) (by decide +kernel), tn_in 19 (by decide +kernel) (by decide +kernel), by decide +kernel, by decide, by decide, tn_T5, _, rfl⟩), (fun h => absurd h (by decide)), (fun h => absurd h (by decide)), (fun h => absurd h (by decide)), (fun h => absurd h (by decide))⟩
theorem tn_c106 : tn_okC ((63, 72), (0, 60, 3)) := ⟨tn_m63, rfl, (fun _ => ⟨tn_m60, rfl, tn_in 665 (by decide +kernel) (by decide +kernel), tn_in 667 (by decide +kernel) (by decide +kernel), tn_in 18 (by decide +kernel) (by decide +kernel), by decide +kernel, by decide, by decide, tn_T5, _, rfl⟩), (fun h => absurd h (by decide)), (fun h => absurd h (by decide)), (fun h => absurd h (by decide)), (fun h => absurd h (by decide))⟩
theorem tn_c107 : tn_okC ((63, 77), (0, 64, 1)) := ⟨tn_m63, rfl, (fun _ => ⟨tn_m64, rfl, tn_in 681 (by decide +kernel) (by decide +kernel), tn_in 683 (by decide +kernel) (by decide +kernel), tn_in 20 (by decide +kernel) (by decide +kernel), by decide +kernel, by decide, by decide, tn_T5, _, rfl⟩), (fun h => absurd h (by decide)), (fun h => absurd h (by decide)), (fun h => absurd h (by decide)), (fun h => absurd h (by decide))⟩
theorem tn_c108 : tn_okC ((65, 68), (0, 62, 1)) := ⟨tn_m65, rfl, (fun _ => ⟨tn_m62, rfl, tn_in 673 (by decide +kernel) (by decide +kernel), tn_in 675 (by decide +kernel) (by decide +kernel), tn_in 19 (by decide +kernel) (by decide +kernel), by decide +kernel, by decide, by decide, tn_T5, _, rfl⟩), (fun h => absurd h (by decide)), (fun h => absurd h (by decide)), (fun h => absurd h (by decide)), (fun h => absurd h (by decide))⟩
theorem tn_c109 : tn_okC ((66, 68), (0, 62, 1)) := ⟨tn_m66, rfl, (fun _ => ⟨tn_m62, rfl, tn_in 673 (by decide +kernel) (by decide +kernel), tn_in 675 (by decide +kernel) (by decide +kernel), tn_in 19 (by decide +kernel) (by decide +kernel), by decide +kernel, by decide, by decide, tn_T5, _, rfl⟩), (fun h => absurd h (by decide)), (fun h => absurd h (by decide)), (fun h => absurd h (by decide)), (fun h => absurd h (by decide))⟩
theorem tn_c110 : tn_okC ((66, 77), (0, 64, 1)) := ⟨tn_m66, rfl, (fun _ => ⟨tn_m64, rfl, tn_in 681 (by decide +kernel) (by decide +kernel), tn_in 683 (by decide +kernel) (by decide +kernel), tn_in 20 (by decide +kernel) (by decide +kernel), by decide +kernel, by decide, by decide, tn_T5, _, rfl⟩), (fun h => absurd h (by decide)), (fun h => absurd h (by decide)), (fun h => absurd h (by decide)), (fun h => absurd h (by decide))⟩
theorem tn_c111 : tn_okC ((67, 68), (0, 62, 1)) := ⟨tn_m67, rfl, (fun _ => ⟨tn_m62, rfl, tn_in 673 (by decide +kernel) (by decide +kernel), tn_in 675 (by decide +kernel) (by decide +kernel), tn_in 19 (by decide +kernel) (by decide +kernel), by decide +kernel, by decide, by decide, tn_T5, _, rfl⟩), (fun h => absurd h (by decide)), (fun h => absurd h (by decide)), (fun h => absurd h (by decide)), (fun h => absurd h (by decide))⟩
theorem tn_c112 : tn_okC ((67, 77), (0, 64, 1)) := ⟨tn_m67, rfl, (fun _ => ⟨tn_m64, rfl, tn_in 681 (by decide +kernel) (by decide +kernel), tn_in 683 (by decide +kernel) (by decide +kernel), tn_in 20 (by decide +kernel) (by decide +kernel), by decide +kernel, by decide, by decide, tn_T5, _, rfl⟩), (fun h => absurd h (by decide)), (fun h => absurd h (by decide)), (fun h => absurd h (by decide)), (fun h => absurd h (by decide))⟩
theorem tn_c113 : tn_okC ((68, 68), (0, 62, 1)) := ⟨tn_m68, rfl, (fun _ => ⟨tn_m62, rfl, tn_in 673 (by decide +kernel) (by decide +kernel), tn_in 675 (by decide +kernel) (by decide +kernel), tn_in 19 (by decide +kernel) (by decide +kernel), by decide +kernel, by decide, by decide, tn_T5, _, rfl⟩), (fun h => absurd h (by decide)), (fun h => absurd h (by decide)), (fun h => absurd h (by decide)), (fun h => absurd h (by decide))⟩
theorem tn_c114 : tn_okC ((69, 68), (0, 62, 1)) := ⟨tn_m69, rfl, (fun _ => ⟨tn_m62, rfl, tn_in 673 (by decide +kernel) (by decide +kernel), tn_in 675 (by decide +kernel) (by decide +kernel), tn_in 19 (by decide +kernel) (by decide +kernel), by decide +kernel, by decide, by decide, tn_T5, _, rfl⟩), (fun h => absurd h (by decide)), (fun h => absurd h (by decide)), (fun h => absurd h (by decide)), (fun h => absurd h (by decide))⟩
theorem tn_c115 : tn_okC ((69, 77), (0, 64, 1)) := ⟨tn_m69, rfl, (fun _ => ⟨tn_m64, rfl, tn_in 681 (by decide +kernel) (by decide +kernel), tn_in 683 (by decide +kernel) (by decide +kernel), tn_in 20 (by decide +kernel) (by decide +kernel), by decide +kernel, by decide, by decide, tn_T5, _, rfl⟩), (fun h => absurd h (by decide)), (fun h => absurd h (by decide)), (fun h => absurd h (by decide)), (fun h => absurd h (by decide))⟩
theorem tn_c116 : tn_okC ((70, 68), (0, 62, 1)) := ⟨tn_m70, rfl, (fun _ => ⟨tn_m62, rfl, tn_in 673 (by decide +kernel) (by decide +kernel), tn_in 675 (by decide +kernel) (by decide +kernel), tn_in 19 (by decide +kernel) (by decide +kernel), by decide +kernel, by decide, by decide, tn_T5, _, rfl⟩), (fun h => absurd h (by decide)), (fun h => absurd h (by decide)), (fun h => absurd h (by decide)), (fun h => absurd h (by decide))⟩
theorem tn_c117 : tn_okC ((70, 77), (0, 64, 1)) := ⟨tn_m70, rfl, (fun _ => ⟨tn_m64, rfl, tn_in 681 (by decide +kernel) (by decide +kernel), tn_in 683 (by decide +kernel) (by decide +kernel), tn_in 20 (by decide +kernel) (by decide +kernel), by decide +kernel, by decide, by decide, tn_T5, _, rfl⟩), (fun h => absurd h (by decide)), (fun h => absurd h (by decide)), (fun h => absurd h (by decide)), (fun h => absurd h (by decide))⟩
theorem tn_c118 : tn_okC ((71, 68), (0, 62, 1)) := ⟨tn_m71, rfl, (fun _ => ⟨tn_m62, rfl, tn_in 673 (by decide +kernel) (by decide +kernel), tn_in 675 (by decide +kernel) (by decide +kernel), tn_in 19 (by decide +kernel) (by decide +kernel), by decide +kernel, by decide, by decide, tn_T5, _, rfl⟩), (fun h => absurd h (by decide)), (fun h => absurd h (by decide)), (fun h => absurd h (by decide)), (fun h => absurd h (by decide))⟩
theorem tn_c119 : tn_okC ((71, 83), (0, 72, 1)) := ⟨tn_m71, rfl, (fun _ => ⟨tn_m72, rfl, tn_in 714 (by decide +kernel) (by decide +kernel), tn_in 716 (by decide +kernel) (by decide +kernel), tn_in 21 (by decide +kernel) (by decide +kernel), by decide +kernel, by decide, by decide, tn_T5, _, rfl⟩), (fun h => absurd h (by decide)), (fun h => absurd h (by decide)), (fun h => absurd h (by decide)), (fun h => absurd h (by decide))⟩
theorem tn_c120 : tn_okC ((72, 77), (0, 64, 1)) := ⟨tn_m72, rfl, (fun _ => ⟨tn_m64, rfl, tn_in 681 (by decide +kernel) (by decide +kernel), tn_in 683 (by decide +kernel) (by decide +kernel), tn_in 20 (by decide +kernel) (by decide +kernel), by decide +kernel, by decide, by decide, tn_T5, _, rfl⟩), (fun h => absurd h (by decide)), (fun h => absurd h (by decide)), (fun h => absurd h (by decide)), (fun h => absurd h (by decide))⟩
theorem tn_c121 : tn_okC ((73, 68), (0, 62, 1)) := ⟨tn_m73, rfl, (fun _ => ⟨tn_m62, rfl, tn_in 673 (by decide +kernel) (by decide +kernel), tn_in 675 (by decide +kernel) (by decide +kernel), tn_in 19 (by decide +kernel) (by decide +kernel), by decide +kernel, by decide, by decide, tn_T5, _, rfl⟩), (fun h => absurd h (by decide)), (fun h => absurd h (by decide)), (fun h => absurd h (by decide)), (fun h => absurd h (by decide))⟩
theorem tn_c122 : tn_okC ((73, 83), (0, 72, 1)) := ⟨tn_m73, rfl, (fun _ => ⟨tn_m72, rfl, tn_in 714 (by decide +kernel) (by decide +kernel), tn_in 716 (by decide +kernel) (by decide +kernel), tn_in 21 (by decide +kernel) (by decide +kernel), by decide +kernel, by decide, by decide, tn_T5, _, rfl⟩), (fun h => absurd h (by decide)), (fun h => absurd h (by decide)), (fun h => absurd h (by decide)), (fun h => absurd h (by decide))⟩
theorem tn_c123 : tn_okC ((76, 77), (0, 64, 1)) := ⟨tn_m76, rfl, (fun _ => ⟨tn_m64, rfl, tn_in 681 (by decide +kernel) (by decide +kernel), tn_in 683 (by decide +kernel) (by decide +kernel), tn_in 20 (by decide +kernel) (by decide +kernel), by decide +kernel, by decide, by decide, tn_T5, _, rfl⟩), (fun h => absurd h (by decide)), (fun h => absurd h (by decide)), (fun h => absurd h (by decide)), (fun h => absurd h (by decide))⟩
set_option maxRecDepth 20000 in
theorem tn_oC : ∀ q ∈ tn_ca, tn_okC q := List.forall_mem_cons.mpr ⟨tn_c0, List.forall_mem_cons.mpr ⟨tn_c1, List.forall_mem_cons.mpr ⟨tn_c2, List.forall_mem_cons.mpr ⟨tn_c3, List.forall_mem_cons.mpr ⟨tn_c4, List.forall_mem_cons.mpr ⟨tn_c5, List.forall_mem_cons.mpr ⟨tn_c6, List.forall_mem_cons.mpr ⟨tn_c7, List.forall_mem_cons.mpr ⟨tn_c8, List.forall_mem_cons.mpr ⟨tn_c9, List.forall_mem_cons.mpr ⟨tn_c10, List.forall_mem_cons.mpr ⟨tn_c11, List.forall_mem_cons.mpr ⟨tn_c12, List.forall_mem_cons.mpr ⟨tn_c13, List.forall_mem_cons.mpr ⟨tn_c14, List.forall_mem_cons.mpr ⟨tn_c15, List.forall_mem_cons.mpr ⟨tn_c16, List.forall_mem_cons.mpr ⟨tn_c17, List.forall_mem_cons.mpr ⟨tn_c18, List.forall_mem_cons.mpr ⟨tn_c19, List.forall_mem_cons.mpr ⟨tn_c20, List.forall_mem_cons.mpr ⟨tn_c21, List.forall_mem_cons.mpr ⟨tn_c22, List.forall_mem_cons.mpr ⟨tn_c23, List.forall_mem_cons.mpr ⟨tn_c24, List.forall_mem_cons.mpr ⟨tn_c25, List.forall_mem_cons.mpr ⟨tn_c26, List.forall_mem_cons.mpr ⟨tn_c27, List.forall_mem_cons.mpr ⟨tn_c28, List.forall_mem_cons.mpr ⟨tn_c29, List.forall_mem_cons.mpr ⟨tn_c30, List.forall_mem_cons.mpr ⟨tn_c31, List.forall_mem_cons.mpr ⟨tn_c32, List.forall_mem_cons.mpr ⟨tn_c33, List.forall_mem_cons.mpr ⟨tn_c34, List.forall_mem_cons.mpr ⟨tn_c35, List.forall_mem_cons.mpr ⟨tn_c36, List.forall_mem_cons.mpr ⟨tn_c37, List.forall_mem_cons.mpr ⟨tn_c38, List.forall_mem_cons.mpr ⟨tn_c39, List.forall_mem_cons.mpr ⟨tn_c40, List.forall_mem_cons.mpr ⟨tn_c41, List.forall_mem_cons.mpr ⟨tn_c42, List.forall_mem_cons.mpr ⟨tn_c43, List.forall_mem_cons.mpr ⟨tn_c44, List.forall_mem_cons.mpr ⟨tn_c45, List.forall_mem_cons.mpr ⟨tn_c46, List.forall_mem_cons.mpr ⟨tn_c47, List.forall_mem_cons.mpr ⟨tn_c48, List.forall_mem_cons.mpr ⟨tn_c49, List.forall_mem_cons.mpr ⟨tn_c50, List.forall_mem_cons.mpr ⟨tn_c51, List.forall_mem_cons.mpr ⟨tn_c52, List.forall_mem_cons.mpr ⟨tn_c53, List.forall_mem_cons.mpr ⟨tn_c54, List.forall_mem_cons.mpr ⟨tn_c55, List.forall_mem_cons.mpr ⟨tn_c56, List.forall_mem_cons.mpr ⟨tn_c57, List.forall_mem_cons.mpr ⟨tn_c58, List.forall_mem_cons.mpr ⟨tn_c59, List.forall_mem_cons.mpr ⟨tn_c60, List.forall_mem_cons.mpr ⟨tn_c61, List.forall_mem_cons.mpr ⟨tn_c62, List.forall_mem_cons.mpr ⟨tn_c63, List.forall_mem_cons.mpr ⟨tn_c64, List.forall_mem_cons.mpr ⟨tn_c65, List.forall_mem_cons.mpr ⟨tn_c66, List.forall_mem_cons.mpr ⟨tn_c67, List.forall_mem_cons.mpr ⟨tn_c68, List.forall_mem_cons.mpr ⟨tn_c69, List.forall_mem_cons.mpr ⟨tn_c70, List.forall_mem_cons.mpr ⟨tn_c71, List.forall_mem_cons.mpr ⟨tn_c72, List.forall_mem_cons.mpr ⟨tn_c73, List.forall_mem_cons.mpr ⟨tn_c74, List.forall_mem_cons.mpr ⟨tn_c75, List.forall_mem_cons.mpr ⟨tn_c76, List.forall_mem_cons.mpr ⟨tn_c77, List.forall_mem_cons.mpr ⟨tn_c78, List.forall_mem_cons.mpr ⟨tn_c79, List.forall_mem_cons.mpr ⟨tn_c80, List.forall_mem_cons.mpr ⟨tn_c81, List.forall_mem_cons.mpr ⟨tn_c82, List.forall_mem_cons.mpr ⟨tn_c83, List.forall_mem_cons.mpr ⟨tn_c84, List.forall_mem_cons.mpr ⟨tn_c85, List.forall_mem_cons.mpr ⟨tn_c86, List.forall_mem_cons.mpr ⟨tn_c87, List.forall_mem_cons.mpr ⟨tn_c88, List.forall_mem_cons.mpr ⟨tn_c89, List.forall_mem_cons.mpr ⟨tn_c90, List.forall_mem_cons.mpr ⟨tn_c91, List.forall_mem_cons.mpr ⟨tn_c92, List.forall_mem_cons.mpr ⟨tn_c93, List.forall_mem_cons.mpr ⟨tn_c94, List.forall_mem_cons.mpr ⟨tn_c95, List.forall_mem_cons.mpr ⟨tn_c96, List.forall_mem_cons.mpr ⟨tn_c97, List.forall_mem_cons.mpr ⟨tn_c98, List.forall_mem_cons.mpr ⟨tn_c99, List.forall_mem_cons.mpr ⟨tn_c100, List.forall_mem_cons.mpr ⟨tn_c101, List.forall_mem_cons.mpr ⟨tn_c102, List.forall_mem_cons.mpr ⟨tn_c103, List.forall_mem_cons.mpr ⟨tn_c104, List.forall_mem_cons.mpr ⟨tn_c105, List.forall_mem_cons.mpr ⟨tn_c106, List.forall_mem_cons.mpr ⟨tn_c107, List.forall_mem_cons.mpr ⟨tn_c108, List.forall_mem_cons.mpr ⟨tn_c109, List.forall_mem_cons.mpr ⟨tn_c110, List.forall_mem_cons.mpr ⟨tn_c111, List.forall_mem_cons.mpr ⟨tn_c112, List.forall_mem_cons.mpr ⟨tn_c113, List.forall_mem_cons.mpr ⟨tn_c114, List.forall_mem_cons.mpr ⟨tn_c115, List.forall_mem_cons.mpr ⟨tn_c116, List.forall_mem_cons.mpr ⟨tn_c117, List.forall_mem_cons.mpr ⟨tn_c118, List.forall_mem_cons.mpr ⟨tn_c119, List.forall_mem_cons.mpr ⟨tn_c120, List.forall_mem_cons.mpr ⟨tn_c121, List.forall_mem_cons.mpr ⟨tn_c122, List.forall_mem_cons.mpr ⟨tn_c123, fun _ h => absurd h List.not_mem_nil⟩⟩⟩⟩⟩⟩⟩⟩⟩⟩⟩⟩⟩⟩⟩⟩⟩⟩⟩⟩⟩⟩⟩⟩⟩⟩⟩⟩⟩⟩⟩⟩⟩⟩⟩⟩⟩⟩⟩⟩⟩⟩⟩⟩⟩⟩⟩⟩⟩⟩⟩⟩⟩⟩⟩⟩⟩⟩⟩⟩⟩⟩⟩⟩⟩⟩⟩⟩⟩⟩⟩⟩⟩⟩⟩⟩⟩⟩⟩⟩⟩⟩⟩⟩⟩⟩⟩⟩⟩⟩⟩⟩⟩⟩⟩⟩⟩⟩⟩⟩⟩⟩⟩⟩⟩⟩⟩⟩⟩⟩⟩⟩⟩⟩⟩⟩⟩⟩⟩⟩⟩⟩⟩⟩
theorem tn_oI : ∀ q ∈ tn_ki, Cond.constant (tn_cn q.1.1) q.1.2 q.2 ∈ tn_TS := List.forall_mem_cons.mpr ⟨(tn_in 444 (by decide +kernel) (by decide +kernel)), List.forall_mem_cons.mpr ⟨(tn_in 685 (by decide +kernel) (by decide +kernel)), fun _ h => absurd h List.not_mem_nil⟩⟩
theorem tn_oL : ∀ q ∈ tn_kl, Cond.constantLong (tn_cn q.1.1) q.1.2 q.2 ∈ tn_TS := List.forall_mem_cons.mpr ⟨(tn_in 524 (by decide +kernel) (by decide +kernel)), fun _ h => absurd h List.not_mem_nil⟩
theorem tn_ok : am_Ok tn_G tn_TS tn_NS tn_cl := by
  refine ⟨fun w hw => (List.mem_filter.mp hw).2, fun μ M hM => (tn_mM hM).1, ?_, ?_, ?_, ?_, ?_, ?_, ?_, ?_⟩
  · intro μ M ix ci k hM h
    have h1 := tn_oF _ (tn_lk h)
    rw [am_oc_of hM] at h1
    unfold tn_okF at h1
    rw [(tn_mM hM).2]
    exact h1
  all_goals first
    | (intro μ M ix μ' n hM h
       obtain ⟨M9, hM9, h0, h2, h3, h4, h5⟩ := tn_oC _ (tn_lk h)
       obtain rfl : M = M9 := Option.some.inj (hM.symm.trans hM9)
       first | exact h0 rfl | exact h2 rfl | exact h3 rfl | exact h4 rfl | exact h5 rfl)
    | (intro μ M ix v hM h
       have h1 := tn_lk h
       rw [am_oc_of hM] at h1
       rw [(tn_mM hM).2]
       first | exact tn_oI _ h1 | exact tn_oL _ h1)
/-- shapes by a check -/
def tn_shI (sh : List am_D) : Bool := (List.range sh.length).all fun o => (List.range sh.length).all fun o' => match sh[o]?, sh[o']? with
  | some (.inl (_, fs)), some (.inl (_, fs')) => (List.range fs.length).all fun k => (List.range fs'.length).all fun k' => match fs[k]?, fs'[k']? with
    | some (.inr i), some (.inr i') => !(i == i') || (o' == o && k' == k)
    | _, _ => true
  | _, _ => true
def tn_shF (cl : List vw_C) (sh : List am_D) : Bool := (List.range sh.length).all fun o => match sh[o]? with
  | some (.inl (ci, fs)) => match cl[ci]? with
    | some (_, T, N) => decide (fs.length = N) && (List.range fs.length).all fun k => match fs[k]? with
      | some (.inr _) => decide (parseFieldDescriptor (T k).2.2.1 = some .int) && decide ((T k).2.2.2 = false)
      | _ => true
    | none => true
  | _ => true
theorem tn_sh_of {cl : List vw_C} {sh : List am_D} (h1 : tn_shI sh = true) (h2 : tn_shF cl sh = true) : am_Sh cl sh := by
  refine ⟨fun o ci fs k i ho hk o' ci' fs' k' ho' hk' => ?_, fun o ci fs ho C T N hc => ?_⟩
  · have a1 := List.all_eq_true.mp (List.all_eq_true.mp h1 o (List.mem_range.mpr (List.getElem?_eq_some_iff.mp ho).1)) o' (List.mem_range.mpr (List.getElem?_eq_some_iff.mp ho').1)
    simp only [ho, ho'] at a1
    have a2 := List.all_eq_true.mp (List.all_eq_true.mp a1 k (List.mem_range.mpr (List.getElem?_eq_some_iff.mp hk).1)) k' (List.mem_range.mpr (List.getElem?_eq_some_iff.mp hk').1)
    simp only [hk, hk'] at a2
    simpa using a2
  · have a1 := List.all_eq_true.mp h2 o (List.mem_range.mpr (List.getElem?_eq_some_iff.mp ho).1)
    simp only [ho, hc, Bool.and_eq_true, decide_eq_true_eq] at a1
    refine ⟨a1.1, fun k i hk => ?_⟩
    have a2 := List.all_eq_true.mp a1.2 k (List.mem_range.mpr (List.getElem?_eq_some_iff.mp hk).1)
    simpa only [hk, Bool.and_eq_true, decide_eq_true_eq] using a2
/-- the class's world: 0 TermNet, 1 Told, 2 Groups, 3 Walk, 4 Twins; 5 pointTerms, 6 pointMerges, 7 pointEquations, 8 partsOfSign, 9 signOf, 10 parts, 11 leader, 12 ring, 13 shape, 14 trail, 15 state, 16 partsTried, 17 path, 18 order, 19 value, 20 first, 21 next, 22 print; numbers: 0 points, 1 equations, 2 signs, 3 terms, 4 merges, 5 pathLength, 6 ordered -/
def tn_X : List am_D := [.inl (4, [.inl 1, .inl 2, .inl 3, .inl 4, .inl 5, .inl 6, .inl 7, .inr 0, .inr 1]), .inl (1, [.inl 8, .inl 9, .inl 10, .inr 2, .inr 3]), .inl (0, [.inl 1, .inl 11, .inl 12, .inl 13, .inl 14, .inr 4]), .inl (3, [.inl 2, .inl 15, .inl 16, .inl 17, .inl 18, .inl 19, .inr 5, .inr 6]), .inl (2, [.inl 2, .inl 20, .inl 21, .inl 22]), .inr (0, 20), .inr (0, 20), .inr (0, 20), .inr (0, 40), .inr (0, 400), .inr (0, 1200), .inr (0, 400), .inr (0, 400), .inr (0, 400), .inr (0, 400), .inr (0, 400), .inr (0, 400), .inr (0, 400), .inr (0, 400), .inr (0, 400), .inr (0, 401), .inr (0, 400), .inr (0, 400)]
/-- the reference's world: 0 TermNetModel; 1 arity, 2 sign, 3 parts, 4 least, 5 tried, 6 hadTerms, 7 hadEquations, 8 had, 9 known, 10 sizes, 11 depths, 12 ready, 13 in; numbers: 0 signs, 1 terms, 2 points, 3 equations, 4 thrown -/
def tn_Y : List am_D := [.inl (5, [.inl 1, .inl 2, .inl 3, .inr 0, .inr 1, .inr 2, .inr 3, .inr 4, .inl 4, .inl 5, .inl 6, .inl 7, .inl 8, .inl 9, .inl 10, .inl 11, .inl 12, .inl 13]), .inr (0, 40), .inr (0, 400), .inr (0, 1200), .inr (0, 400), .inr (0, 400), .inr (0, 20), .inr (0, 20), .inr (0, 8000), .inr (0, 400), .inr (0, 400), .inr (0, 400), .inr (1, 400), .inr (1, 400)]
theorem tn_X_ok : am_Sh tn_cl tn_X := tn_sh_of (by decide +kernel) (by decide +kernel)
theorem tn_Y_ok : am_Sh tn_cl tn_Y := tn_sh_of (by decide +kernel) (by decide +kernel)
theorem tn_X0 : tn_X[0]? = some (.inl (4, [.inl 1, .inl 2, .inl 3, .inl 4, .inl 5, .inl 6, .inl 7, .inr 0, .inr 1])) := rfl
theorem tn_X1 : tn_X[1]? = some (.inl (1, [.inl 8, .inl 9, .inl 10, .inr 2, .inr 3])) := rfl
theorem tn_X2 : tn_X[2]? = some (.inl (0, [.inl 1, .inl 11, .inl 12, .inl 13, .inl 14, .inr 4])) := rfl
theorem tn_X3 : tn_X[3]? = some (.inl (3, [.inl 2, .inl 15, .inl 16, .inl 17, .inl 18, .inl 19, .inr 5, .inr 6])) := rfl
theorem tn_X4 : tn_X[4]? = some (.inl (2, [.inl 2, .inl 20, .inl 21, .inl 22])) := rfl
theorem tn_X5 : tn_X[5]? = some (.inr (0, 20)) := rfl
theorem tn_X6 : tn_X[6]? = some (.inr (0, 20)) := rfl
theorem tn_X7 : tn_X[7]? = some (.inr (0, 20)) := rfl
theorem tn_X8 : tn_X[8]? = some (.inr (0, 40)) := rfl
theorem tn_X9 : tn_X[9]? = some (.inr (0, 400)) := rfl
theorem tn_X10 : tn_X[10]? = some (.inr (0, 1200)) := rfl
theorem tn_X11 : tn_X[11]? = some (.inr (0, 400)) := rfl
theorem tn_X12 : tn_X[12]? = some (.inr (0, 400)) := rfl
theorem tn_X13 : tn_X[13]? = some (.inr (0, 400)) := rfl
theorem tn_X14 : tn_X[14]? = some (.inr (0, 400)) := rfl
theorem tn_X15 : tn_X[15]? = some (.inr (0, 400)) := rfl
theorem tn_X16 : tn_X[16]? = some (.inr (0, 400)) := rfl
theorem tn_X17 : tn_X[17]? = some (.inr (0, 400)) := rfl
theorem tn_X18 : tn_X[18]? = some (.inr (0, 400)) := rfl
theorem tn_X19 : tn_X[19]? = some (.inr (0, 400)) := rfl
theorem tn_X20 : tn_X[20]? = some (.inr (0, 401)) := rfl
theorem tn_X21 : tn_X[21]? = some (.inr (0, 400)) := rfl
theorem tn_X22 : tn_X[22]? = some (.inr (0, 400)) := rfl
theorem tn_Y0 : tn_Y[0]? = some (.inl (5, [.inl 1, .inl 2, .inl 3, .inr 0, .inr 1, .inr 2, .inr 3, .inr 4, .inl 4, .inl 5, .inl 6, .inl 7, .inl 8, .inl 9, .inl 10, .inl 11, .inl 12, .inl 13])) := rfl
theorem tn_Y1 : tn_Y[1]? = some (.inr (0, 40)) := rfl
theorem tn_Y2 : tn_Y[2]? = some (.inr (0, 400)) := rfl
theorem tn_Y3 : tn_Y[3]? = some (.inr (0, 1200)) := rfl
theorem tn_Y4 : tn_Y[4]? = some (.inr (0, 400)) := rfl
theorem tn_Y5 : tn_Y[5]? = some (.inr (0, 400)) := rfl
theorem tn_Y6 : tn_Y[6]? = some (.inr (0, 20)) := rfl
theorem tn_Y7 : tn_Y[7]? = some (.inr (0, 20)) := rfl
theorem tn_Y8 : tn_Y[8]? = some (.inr (0, 8000)) := rfl
theorem tn_Y9 : tn_Y[9]? = some (.inr (0, 400)) := rfl
theorem tn_Y10 : tn_Y[10]? = some (.inr (0, 400)) := rfl
theorem tn_Y11 : tn_Y[11]? = some (.inr (0, 400)) := rfl
theorem tn_Y12 : tn_Y[12]? = some (.inr (1, 400)) := rfl
theorem tn_Y13 : tn_Y[13]? = some (.inr (1, 400)) := rfl
end
section
/-! Rows of the code, laid by wip/whole/mk04.py: kc_method_pc, kf_ a field, ka_ a call, ki_ kL_ constants, kt_ a throw; kl_ locals, ko_ class, kn_ room, kr_ answer -/
-- 0: TermNet$Groups.knownGroups()I
theorem kl_0 : am_ml tn_G 0 = 3 := rfl
theorem ko_0 : am_oc tn_G 0 = 0 := rfl
theorem kn_0 : am_nc tn_G 0 = 0 := rfl
theorem kr_0 : am_rt tn_G 0 = 1 := rfl
theorem kc_0_0 : am_code tn_G 0 0 = some (.iconst 0, 1, 0) := am_code_of (M := tn_m0) rfl (by decide +kernel) rfl rfl
theorem kc_0_1 : am_code tn_G 0 1 = some (.istore_n 1, 1, 0) := am_code_of (M := tn_m0) rfl (by decide +kernel) rfl rfl
theorem kc_0_2 : am_code tn_G 0 2 = some (.iconst 0, 1, 0) := am_code_of (M := tn_m0) rfl (by decide +kernel) rfl rfl
theorem kc_0_3 : am_code tn_G 0 3 = some (.istore_n 2, 1, 0) := am_code_of (M := tn_m0) rfl (by decide +kernel) rfl rfl
theorem kc_0_4 : am_code tn_G 0 4 = some (.iload_n 2, 1, 0) := am_code_of (M := tn_m0) rfl (by decide +kernel) rfl rfl
theorem kc_0_5 : am_code tn_G 0 5 = some (.aload_n 0, 1, 0) := am_code_of (M := tn_m0) rfl (by decide +kernel) rfl rfl
theorem kc_0_6 : am_code tn_G 0 6 = some (.getfield 28, 3, 0) := am_code_of (M := tn_m0) rfl (by decide +kernel) rfl rfl
theorem kf_0_28 : am_fld tn_G 0 28 = some (0, 0) := by decide +kernel
theorem kc_0_9 : am_code tn_G 0 9 = some (.getfield 48, 3, 0) := am_code_of (M := tn_m0) rfl (by decide +kernel) rfl rfl
theorem kf_0_48 : am_fld tn_G 0 48 = some (1, 4) := by decide +kernel
theorem kc_0_12 : am_code tn_G 0 12 = some (.if_icmp .ge 32, 3, 44) := am_code_of (M := tn_m0) rfl (by decide +kernel) rfl (by decide +kernel)
theorem kc_0_15 : am_code tn_G 0 15 = some (.aload_n 0, 1, 0) := am_code_of (M := tn_m0) rfl (by decide +kernel) rfl rfl
theorem kc_0_16 : am_code tn_G 0 16 = some (.getfield 9, 3, 0) := am_code_of (M := tn_m0) rfl (by decide +kernel) rfl rfl
theorem kf_0_9 : am_fld tn_G 0 9 = some (0, 1) := by decide +kernel
theorem kc_0_19 : am_code tn_G 0 19 = some (.iload_n 2, 1, 0) := am_code_of (M := tn_m0) rfl (by decide +kernel) rfl rfl
theorem kc_0_20 : am_code tn_G 0 20 = some (.iaload, 1, 0) := am_code_of (M := tn_m0) rfl (by decide +kernel) rfl rfl
theorem kc_0_21 : am_code tn_G 0 21 = some (.iload_n 2, 1, 0) := am_code_of (M := tn_m0) rfl (by decide +kernel) rfl rfl
theorem kc_0_22 : am_code tn_G 0 22 = some (.if_icmp .ne 16, 3, 38) := am_code_of (M := tn_m0) rfl (by decide +kernel) rfl (by decide +kernel)
theorem kc_0_25 : am_code tn_G 0 25 = some (.aload_n 0, 1, 0) := am_code_of (M := tn_m0) rfl (by decide +kernel) rfl rfl
theorem kc_0_26 : am_code tn_G 0 26 = some (.getfield 18, 3, 0) := am_code_of (M := tn_m0) rfl (by decide +kernel) rfl rfl
theorem kf_0_18 : am_fld tn_G 0 18 = some (0, 3) := by decide +kernel
theorem kc_0_29 : am_code tn_G 0 29 = some (.iload_n 2, 1, 0) := am_code_of (M := tn_m0) rfl (by decide +kernel) rfl rfl
theorem kc_0_30 : am_code tn_G 0 30 = some (.iaload, 1, 0) := am_code_of (M := tn_m0) rfl (by decide +kernel) rfl rfl
theorem kc_0_31 : am_code tn_G 0 31 = some (.iconst (-1), 1, 0) := am_code_of (M := tn_m0) rfl (by decide +kernel) rfl rfl
theorem kc_0_32 : am_code tn_G 0 32 = some (.if_icmp .eq 6, 3, 38) := am_code_of (M := tn_m0) rfl (by decide +kernel) rfl (by decide +kernel)
theorem kc_0_35 : am_code tn_G 0 35 = some (.iinc 1 1, 3, 0) := am_code_of (M := tn_m0) rfl (by decide +kernel) rfl rfl
theorem kc_0_38 : am_code tn_G 0 38 = some (.iinc 2 1, 3, 0) := am_code_of (M := tn_m0) rfl (by decide +kernel) rfl rfl
theorem kc_0_41 : am_code tn_G 0 41 = some (.goto (-37), 3, 4) := am_code_of (M := tn_m0) rfl (by decide +kernel) rfl (by decide +kernel)
theorem kc_0_44 : am_code tn_G 0 44 = some (.iload_n 1, 1, 0) := am_code_of (M := tn_m0) rfl (by decide +kernel) rfl rfl
theorem kc_0_45 : am_code tn_G 0 45 = some (.ireturn, 1, 0) := am_code_of (M := tn_m0) rfl (by decide +kernel) rfl rfl
-- 1: TermNet$Groups.found(I)V
theorem kl_1 : am_ml tn_G 1 = 2 := rfl
theorem ko_1 : am_oc tn_G 1 = 0 := rfl
theorem kn_1 : am_nc tn_G 1 = 0 := rfl
theorem kr_1 : am_rt tn_G 1 = 0 := rfl
theorem kc_1_0 : am_code tn_G 1 0 = some (.aload_n 0, 1, 0) := am_code_of (M := tn_m1) rfl (by decide +kernel) rfl rfl
theorem kc_1_1 : am_code tn_G 1 1 = some (.getfield 9, 3, 0) := am_code_of (M := tn_m1) rfl (by decide +kernel) rfl rfl
theorem kf_1_9 : am_fld tn_G 1 9 = some (0, 1) := by decide +kernel
theorem kc_1_4 : am_code tn_G 1 4 = some (.iload_n 1, 1, 0) := am_code_of (M := tn_m1) rfl (by decide +kernel) rfl rfl
theorem kc_1_5 : am_code tn_G 1 5 = some (.iload_n 1, 1, 0) := am_code_of (M := tn_m1) rfl (by decide +kernel) rfl rfl
theorem kc_1_6 : am_code tn_G 1 6 = some (.iastore, 1, 0) := am_code_of (M := tn_m1) rfl (by decide +kernel) rfl rfl
theorem kc_1_7 : am_code tn_G 1 7 = some (.aload_n 0, 1, 0) := am_code_of (M := tn_m1) rfl (by decide +kernel) rfl rfl
theorem kc_1_8 : am_code tn_G 1 8 = some (.getfield 15, 3, 0) := am_code_of (M := tn_m1) rfl (by decide +kernel) rfl rfl
theorem kf_1_15 : am_fld tn_G 1 15 = some (0, 2) := by decide +kernel
theorem kc_1_11 : am_code tn_G 1 11 = some (.iload_n 1, 1, 0) := am_code_of (M := tn_m1) rfl (by decide +kernel) rfl rfl
theorem kc_1_12 : am_code tn_G 1 12 = some (.iload_n 1, 1, 0) := am_code_of (M := tn_m1) rfl (by decide +kernel) rfl rfl
theorem kc_1_13 : am_code tn_G 1 13 = some (.iastore, 1, 0) := am_code_of (M := tn_m1) rfl (by decide +kernel) rfl rfl
theorem kc_1_14 : am_code tn_G 1 14 = some (.aload_n 0, 1, 0) := am_code_of (M := tn_m1) rfl (by decide +kernel) rfl rfl
theorem kc_1_15 : am_code tn_G 1 15 = some (.getfield 18, 3, 0) := am_code_of (M := tn_m1) rfl (by decide +kernel) rfl rfl
theorem kf_1_18 : am_fld tn_G 1 18 = some (0, 3) := by decide +kernel
theorem kc_1_18 : am_code tn_G 1 18 = some (.iload_n 1, 1, 0) := am_code_of (M := tn_m1) rfl (by decide +kernel) rfl rfl
theorem kc_1_19 : am_code tn_G 1 19 = some (.aload_n 0, 1, 0) := am_code_of (M := tn_m1) rfl (by decide +kernel) rfl rfl
theorem kc_1_20 : am_code tn_G 1 20 = some (.getfield 28, 3, 0) := am_code_of (M := tn_m1) rfl (by decide +kernel) rfl rfl
theorem kf_1_28 : am_fld tn_G 1 28 = some (0, 0) := by decide +kernel
theorem kc_1_23 : am_code tn_G 1 23 = some (.getfield 32, 3, 0) := am_code_of (M := tn_m1) rfl (by decide +kernel) rfl rfl
theorem kf_1_32 : am_fld tn_G 1 32 = some (1, 1) := by decide +kernel
theorem kc_1_26 : am_code tn_G 1 26 = some (.iload_n 1, 1, 0) := am_code_of (M := tn_m1) rfl (by decide +kernel) rfl rfl
theorem kc_1_27 : am_code tn_G 1 27 = some (.iaload, 1, 0) := am_code_of (M := tn_m1) rfl (by decide +kernel) rfl rfl
theorem kc_1_28 : am_code tn_G 1 28 = some (.iconst (-1), 1, 0) := am_code_of (M := tn_m1) rfl (by decide +kernel) rfl rfl
theorem kc_1_29 : am_code tn_G 1 29 = some (.if_icmp .ne 7, 3, 36) := am_code_of (M := tn_m1) rfl (by decide +kernel) rfl (by decide +kernel)
theorem kc_1_32 : am_code tn_G 1 32 = some (.iconst (-1), 1, 0) := am_code_of (M := tn_m1) rfl (by decide +kernel) rfl rfl
theorem kc_1_33 : am_code tn_G 1 33 = some (.goto 4, 3, 37) := am_code_of (M := tn_m1) rfl (by decide +kernel) rfl (by decide +kernel)
theorem kc_1_36 : am_code tn_G 1 36 = some (.iload_n 1, 1, 0) := am_code_of (M := tn_m1) rfl (by decide +kernel) rfl rfl
theorem kc_1_37 : am_code tn_G 1 37 = some (.iastore, 1, 0) := am_code_of (M := tn_m1) rfl (by decide +kernel) rfl rfl
theorem kc_1_38 : am_code tn_G 1 38 = some (.return_, 1, 0) := am_code_of (M := tn_m1) rfl (by decide +kernel) rfl rfl
-- 2: TermNet$Groups.joinToTwin(I)V
theorem kl_2 : am_ml tn_G 2 = 3 := rfl
theorem ko_2 : am_oc tn_G 2 = 0 := rfl
theorem kn_2 : am_nc tn_G 2 = 0 := rfl
theorem kr_2 : am_rt tn_G 2 = 0 := rfl
theorem kc_2_0 : am_code tn_G 2 0 = some (.iconst 0, 1, 0) := am_code_of (M := tn_m2) rfl (by decide +kernel) rfl rfl
theorem kc_2_1 : am_code tn_G 2 1 = some (.istore_n 2, 1, 0) := am_code_of (M := tn_m2) rfl (by decide +kernel) rfl rfl
theorem kc_2_2 : am_code tn_G 2 2 = some (.iload_n 2, 1, 0) := am_code_of (M := tn_m2) rfl (by decide +kernel) rfl rfl
theorem kc_2_3 : am_code tn_G 2 3 = some (.iload_n 1, 1, 0) := am_code_of (M := tn_m2) rfl (by decide +kernel) rfl rfl
theorem kc_2_4 : am_code tn_G 2 4 = some (.if_icmp .ge 27, 3, 31) := am_code_of (M := tn_m2) rfl (by decide +kernel) rfl (by decide +kernel)
theorem kc_2_7 : am_code tn_G 2 7 = some (.aload_n 0, 1, 0) := am_code_of (M := tn_m2) rfl (by decide +kernel) rfl rfl
theorem kc_2_8 : am_code tn_G 2 8 = some (.iload_n 2, 1, 0) := am_code_of (M := tn_m2) rfl (by decide +kernel) rfl rfl
theorem kc_2_9 : am_code tn_G 2 9 = some (.iload_n 1, 1, 0) := am_code_of (M := tn_m2) rfl (by decide +kernel) rfl rfl
theorem kc_2_10 : am_code tn_G 2 10 = some (.invokevirtual 77, 3, 0) := am_code_of (M := tn_m2) rfl (by decide +kernel) rfl rfl
theorem ka_2_77 : am_cal tn_G 2 77 = some (0, 3, 2) := by decide +kernel
theorem kc_2_13 : am_code tn_G 2 13 = some (.ifCond .eq 12, 3, 25) := am_code_of (M := tn_m2) rfl (by decide +kernel) rfl (by decide +kernel)
theorem kc_2_16 : am_code tn_G 2 16 = some (.aload_n 0, 1, 0) := am_code_of (M := tn_m2) rfl (by decide +kernel) rfl rfl
theorem kc_2_17 : am_code tn_G 2 17 = some (.iload_n 2, 1, 0) := am_code_of (M := tn_m2) rfl (by decide +kernel) rfl rfl
theorem kc_2_18 : am_code tn_G 2 18 = some (.iload_n 1, 1, 0) := am_code_of (M := tn_m2) rfl (by decide +kernel) rfl rfl
theorem kc_2_19 : am_code tn_G 2 19 = some (.invokevirtual 70, 3, 0) := am_code_of (M := tn_m2) rfl (by decide +kernel) rfl rfl
theorem ka_2_70 : am_cal tn_G 2 70 = some (0, 4, 2) := by decide +kernel
theorem kc_2_22 : am_code tn_G 2 22 = some (.goto 9, 3, 31) := am_code_of (M := tn_m2) rfl (by decide +kernel) rfl (by decide +kernel)
theorem kc_2_25 : am_code tn_G 2 25 = some (.iinc 2 1, 3, 0) := am_code_of (M := tn_m2) rfl (by decide +kernel) rfl rfl
theorem kc_2_28 : am_code tn_G 2 28 = some (.goto (-26), 3, 2) := am_code_of (M := tn_m2) rfl (by decide +kernel) rfl (by decide +kernel)
theorem kc_2_31 : am_code tn_G 2 31 = some (.return_, 1, 0) := am_code_of (M := tn_m2) rfl (by decide +kernel) rfl rfl
-- 3: TermNet$Groups.areTwins(II)Z
theorem kl_3 : am_ml tn_G 3 = 4 := rfl
theorem ko_3 : am_oc tn_G 3 = 0 := rfl
theorem kn_3 : am_nc tn_G 3 = 0 := rfl
theorem kr_3 : am_rt tn_G 3 = 2 := rfl
theorem kc_3_0 : am_code tn_G 3 0 = some (.aload_n 0, 1, 0) := am_code_of (M := tn_m3) rfl (by decide +kernel) rfl rfl
theorem kc_3_1 : am_code tn_G 3 1 = some (.getfield 28, 3, 0) := am_code_of (M := tn_m3) rfl (by decide +kernel) rfl rfl
theorem kf_3_28 : am_fld tn_G 3 28 = some (0, 0) := by decide +kernel
theorem kc_3_4 : am_code tn_G 3 4 = some (.getfield 32, 3, 0) := am_code_of (M := tn_m3) rfl (by decide +kernel) rfl rfl
theorem kf_3_32 : am_fld tn_G 3 32 = some (1, 1) := by decide +kernel
theorem kc_3_7 : am_code tn_G 3 7 = some (.iload_n 1, 1, 0) := am_code_of (M := tn_m3) rfl (by decide +kernel) rfl rfl
theorem kc_3_8 : am_code tn_G 3 8 = some (.iaload, 1, 0) := am_code_of (M := tn_m3) rfl (by decide +kernel) rfl rfl
theorem kc_3_9 : am_code tn_G 3 9 = some (.iconst (-1), 1, 0) := am_code_of (M := tn_m3) rfl (by decide +kernel) rfl rfl
theorem kc_3_10 : am_code tn_G 3 10 = some (.if_icmp .eq 24, 3, 34) := am_code_of (M := tn_m3) rfl (by decide +kernel) rfl (by decide +kernel)
theorem kc_3_13 : am_code tn_G 3 13 = some (.aload_n 0, 1, 0) := am_code_of (M := tn_m3) rfl (by decide +kernel) rfl rfl
theorem kc_3_14 : am_code tn_G 3 14 = some (.getfield 28, 3, 0) := am_code_of (M := tn_m3) rfl (by decide +kernel) rfl rfl
theorem kc_3_17 : am_code tn_G 3 17 = some (.getfield 32, 3, 0) := am_code_of (M := tn_m3) rfl (by decide +kernel) rfl rfl
theorem kc_3_20 : am_code tn_G 3 20 = some (.iload_n 1, 1, 0) := am_code_of (M := tn_m3) rfl (by decide +kernel) rfl rfl
theorem kc_3_21 : am_code tn_G 3 21 = some (.iaload, 1, 0) := am_code_of (M := tn_m3) rfl (by decide +kernel) rfl rfl
theorem kc_3_22 : am_code tn_G 3 22 = some (.aload_n 0, 1, 0) := am_code_of (M := tn_m3) rfl (by decide +kernel) rfl rfl
theorem kc_3_23 : am_code tn_G 3 23 = some (.getfield 28, 3, 0) := am_code_of (M := tn_m3) rfl (by decide +kernel) rfl rfl
theorem kc_3_26 : am_code tn_G 3 26 = some (.getfield 32, 3, 0) := am_code_of (M := tn_m3) rfl (by decide +kernel) rfl rfl
theorem kc_3_29 : am_code tn_G 3 29 = some (.iload_n 2, 1, 0) := am_code_of (M := tn_m3) rfl (by decide +kernel) rfl rfl
theorem kc_3_30 : am_code tn_G 3 30 = some (.iaload, 1, 0) := am_code_of (M := tn_m3) rfl (by decide +kernel) rfl rfl
theorem kc_3_31 : am_code tn_G 3 31 = some (.if_icmp .eq 5, 3, 36) := am_code_of (M := tn_m3) rfl (by decide +kernel) rfl (by decide +kernel)
theorem kc_3_34 : am_code tn_G 3 34 = some (.iconst 0, 1, 0) := am_code_of (M := tn_m3) rfl (by decide +kernel) rfl rfl
theorem kc_3_35 : am_code tn_G 3 35 = some (.ireturn, 1, 0) := am_code_of (M := tn_m3) rfl (by decide +kernel) rfl rfl
theorem kc_3_36 : am_code tn_G 3 36 = some (.iconst 0, 1, 0) := am_code_of (M := tn_m3) rfl (by decide +kernel) rfl rfl
theorem kc_3_37 : am_code tn_G 3 37 = some (.istore_n 3, 1, 0) := am_code_of (M := tn_m3) rfl (by decide +kernel) rfl rfl
theorem kc_3_38 : am_code tn_G 3 38 = some (.iload_n 3, 1, 0) := am_code_of (M := tn_m3) rfl (by decide +kernel) rfl rfl
theorem kc_3_39 : am_code tn_G 3 39 = some (.aload_n 0, 1, 0) := am_code_of (M := tn_m3) rfl (by decide +kernel) rfl rfl
theorem kc_3_40 : am_code tn_G 3 40 = some (.getfield 28, 3, 0) := am_code_of (M := tn_m3) rfl (by decide +kernel) rfl rfl
theorem kc_3_43 : am_code tn_G 3 43 = some (.iload_n 1, 1, 0) := am_code_of (M := tn_m3) rfl (by decide +kernel) rfl rfl
theorem kc_3_44 : am_code tn_G 3 44 = some (.invokevirtual 41, 3, 0) := am_code_of (M := tn_m3) rfl (by decide +kernel) rfl rfl
theorem ka_3_41 : am_cal tn_G 3 41 = some (0, 21, 1) := by decide +kernel
theorem kc_3_47 : am_code tn_G 3 47 = some (.if_icmp .ge 42, 3, 89) := am_code_of (M := tn_m3) rfl (by decide +kernel) rfl (by decide +kernel)
theorem kc_3_50 : am_code tn_G 3 50 = some (.aload_n 0, 1, 0) := am_code_of (M := tn_m3) rfl (by decide +kernel) rfl rfl
theorem kc_3_51 : am_code tn_G 3 51 = some (.getfield 9, 3, 0) := am_code_of (M := tn_m3) rfl (by decide +kernel) rfl rfl
theorem kf_3_9 : am_fld tn_G 3 9 = some (0, 1) := by decide +kernel
theorem kc_3_54 : am_code tn_G 3 54 = some (.aload_n 0, 1, 0) := am_code_of (M := tn_m3) rfl (by decide +kernel) rfl rfl
theorem kc_3_55 : am_code tn_G 3 55 = some (.getfield 28, 3, 0) := am_code_of (M := tn_m3) rfl (by decide +kernel) rfl rfl
theorem kc_3_58 : am_code tn_G 3 58 = some (.iload_n 1, 1, 0) := am_code_of (M := tn_m3) rfl (by decide +kernel) rfl rfl
theorem kc_3_59 : am_code tn_G 3 59 = some (.iload_n 3, 1, 0) := am_code_of (M := tn_m3) rfl (by decide +kernel) rfl rfl
theorem kc_3_60 : am_code tn_G 3 60 = some (.invokevirtual 44, 3, 0) := am_code_of (M := tn_m3) rfl (by decide +kernel) rfl rfl
theorem ka_3_44 : am_cal tn_G 3 44 = some (0, 22, 2) := by decide +kernel
theorem kc_3_63 : am_code tn_G 3 63 = some (.iaload, 1, 0) := am_code_of (M := tn_m3) rfl (by decide +kernel) rfl rfl
theorem kc_3_64 : am_code tn_G 3 64 = some (.aload_n 0, 1, 0) := am_code_of (M := tn_m3) rfl (by decide +kernel) rfl rfl
theorem kc_3_65 : am_code tn_G 3 65 = some (.getfield 9, 3, 0) := am_code_of (M := tn_m3) rfl (by decide +kernel) rfl rfl
theorem kc_3_68 : am_code tn_G 3 68 = some (.aload_n 0, 1, 0) := am_code_of (M := tn_m3) rfl (by decide +kernel) rfl rfl
theorem kc_3_69 : am_code tn_G 3 69 = some (.getfield 28, 3, 0) := am_code_of (M := tn_m3) rfl (by decide +kernel) rfl rfl
theorem kc_3_72 : am_code tn_G 3 72 = some (.iload_n 2, 1, 0) := am_code_of (M := tn_m3) rfl (by decide +kernel) rfl rfl
theorem kc_3_73 : am_code tn_G 3 73 = some (.iload_n 3, 1, 0) := am_code_of (M := tn_m3) rfl (by decide +kernel) rfl rfl
theorem kc_3_74 : am_code tn_G 3 74 = some (.invokevirtual 44, 3, 0) := am_code_of (M := tn_m3) rfl (by decide +kernel) rfl rfl
theorem kc_3_77 : am_code tn_G 3 77 = some (.iaload, 1, 0) := am_code_of (M := tn_m3) rfl (by decide +kernel) rfl rfl
theorem kc_3_78 : am_code tn_G 3 78 = some (.if_icmp .eq 5, 3, 83) := am_code_of (M := tn_m3) rfl (by decide +kernel) rfl (by decide +kernel)
theorem kc_3_81 : am_code tn_G 3 81 = some (.iconst 0, 1, 0) := am_code_of (M := tn_m3) rfl (by decide +kernel) rfl rfl
theorem kc_3_82 : am_code tn_G 3 82 = some (.ireturn, 1, 0) := am_code_of (M := tn_m3) rfl (by decide +kernel) rfl rfl
theorem kc_3_83 : am_code tn_G 3 83 = some (.iinc 3 1, 3, 0) := am_code_of (M := tn_m3) rfl (by decide +kernel) rfl rfl
theorem kc_3_86 : am_code tn_G 3 86 = some (.goto (-48), 3, 38) := am_code_of (M := tn_m3) rfl (by decide +kernel) rfl (by decide +kernel)
theorem kc_3_89 : am_code tn_G 3 89 = some (.iconst 1, 1, 0) := am_code_of (M := tn_m3) rfl (by decide +kernel) rfl rfl
theorem kc_3_90 : am_code tn_G 3 90 = some (.ireturn, 1, 0) := am_code_of (M := tn_m3) rfl (by decide +kernel) rfl rfl
-- 4: TermNet$Groups.join(II)V
theorem kl_4 : am_ml tn_G 4 = 5 := rfl
theorem ko_4 : am_oc tn_G 4 = 0 := rfl
theorem kn_4 : am_nc tn_G 4 = 0 := rfl
theorem kr_4 : am_rt tn_G 4 = 0 := rfl
theorem kc_4_0 : am_code tn_G 4 0 = some (.aload_n 0, 1, 0) := am_code_of (M := tn_m4) rfl (by decide +kernel) rfl rfl
theorem kc_4_1 : am_code tn_G 4 1 = some (.getfield 9, 3, 0) := am_code_of (M := tn_m4) rfl (by decide +kernel) rfl rfl
theorem kf_4_9 : am_fld tn_G 4 9 = some (0, 1) := by decide +kernel
theorem kc_4_4 : am_code tn_G 4 4 = some (.iload_n 1, 1, 0) := am_code_of (M := tn_m4) rfl (by decide +kernel) rfl rfl
theorem kc_4_5 : am_code tn_G 4 5 = some (.iaload, 1, 0) := am_code_of (M := tn_m4) rfl (by decide +kernel) rfl rfl
theorem kc_4_6 : am_code tn_G 4 6 = some (.aload_n 0, 1, 0) := am_code_of (M := tn_m4) rfl (by decide +kernel) rfl rfl
theorem kc_4_7 : am_code tn_G 4 7 = some (.getfield 9, 3, 0) := am_code_of (M := tn_m4) rfl (by decide +kernel) rfl rfl
theorem kc_4_10 : am_code tn_G 4 10 = some (.iload_n 2, 1, 0) := am_code_of (M := tn_m4) rfl (by decide +kernel) rfl rfl
theorem kc_4_11 : am_code tn_G 4 11 = some (.iaload, 1, 0) := am_code_of (M := tn_m4) rfl (by decide +kernel) rfl rfl
theorem kc_4_12 : am_code tn_G 4 12 = some (.if_icmp .ne 4, 3, 16) := am_code_of (M := tn_m4) rfl (by decide +kernel) rfl (by decide +kernel)
theorem kc_4_15 : am_code tn_G 4 15 = some (.return_, 1, 0) := am_code_of (M := tn_m4) rfl (by decide +kernel) rfl rfl
theorem kc_4_16 : am_code tn_G 4 16 = some (.aload_n 0, 1, 0) := am_code_of (M := tn_m4) rfl (by decide +kernel) rfl rfl
theorem kc_4_17 : am_code tn_G 4 17 = some (.getfield 9, 3, 0) := am_code_of (M := tn_m4) rfl (by decide +kernel) rfl rfl
theorem kc_4_20 : am_code tn_G 4 20 = some (.iload_n 1, 1, 0) := am_code_of (M := tn_m4) rfl (by decide +kernel) rfl rfl
theorem kc_4_21 : am_code tn_G 4 21 = some (.iaload, 1, 0) := am_code_of (M := tn_m4) rfl (by decide +kernel) rfl rfl
theorem kc_4_22 : am_code tn_G 4 22 = some (.aload_n 0, 1, 0) := am_code_of (M := tn_m4) rfl (by decide +kernel) rfl rfl
theorem kc_4_23 : am_code tn_G 4 23 = some (.getfield 9, 3, 0) := am_code_of (M := tn_m4) rfl (by decide +kernel) rfl rfl
theorem kc_4_26 : am_code tn_G 4 26 = some (.iload_n 2, 1, 0) := am_code_of (M := tn_m4) rfl (by decide +kernel) rfl rfl
theorem kc_4_27 : am_code tn_G 4 27 = some (.iaload, 1, 0) := am_code_of (M := tn_m4) rfl (by decide +kernel) rfl rfl
theorem kc_4_28 : am_code tn_G 4 28 = some (.invokestatic 51, 3, 0) := am_code_of (M := tn_m4) rfl (by decide +kernel) rfl rfl
theorem ka_4_51 : am_cal tn_G 4 51 = some (4, 0, 0) := by decide +kernel
theorem kc_4_31 : am_code tn_G 4 31 = some (.istore_n 3, 1, 0) := am_code_of (M := tn_m4) rfl (by decide +kernel) rfl rfl
theorem kc_4_32 : am_code tn_G 4 32 = some (.aload_n 0, 1, 0) := am_code_of (M := tn_m4) rfl (by decide +kernel) rfl rfl
theorem kc_4_33 : am_code tn_G 4 33 = some (.getfield 9, 3, 0) := am_code_of (M := tn_m4) rfl (by decide +kernel) rfl rfl
theorem kc_4_36 : am_code tn_G 4 36 = some (.iload_n 1, 1, 0) := am_code_of (M := tn_m4) rfl (by decide +kernel) rfl rfl
theorem kc_4_37 : am_code tn_G 4 37 = some (.iaload, 1, 0) := am_code_of (M := tn_m4) rfl (by decide +kernel) rfl rfl
theorem kc_4_38 : am_code tn_G 4 38 = some (.aload_n 0, 1, 0) := am_code_of (M := tn_m4) rfl (by decide +kernel) rfl rfl
theorem kc_4_39 : am_code tn_G 4 39 = some (.getfield 9, 3, 0) := am_code_of (M := tn_m4) rfl (by decide +kernel) rfl rfl
theorem kc_4_42 : am_code tn_G 4 42 = some (.iload_n 2, 1, 0) := am_code_of (M := tn_m4) rfl (by decide +kernel) rfl rfl
theorem kc_4_43 : am_code tn_G 4 43 = some (.iaload, 1, 0) := am_code_of (M := tn_m4) rfl (by decide +kernel) rfl rfl
theorem kc_4_44 : am_code tn_G 4 44 = some (.invokestatic 56, 3, 0) := am_code_of (M := tn_m4) rfl (by decide +kernel) rfl rfl
theorem ka_4_56 : am_cal tn_G 4 56 = some (3, 0, 0) := by decide +kernel
theorem kc_4_47 : am_code tn_G 4 47 = some (.istore 4, 2, 0) := am_code_of (M := tn_m4) rfl (by decide +kernel) rfl rfl
theorem kc_4_49 : am_code tn_G 4 49 = some (.aload_n 0, 1, 0) := am_code_of (M := tn_m4) rfl (by decide +kernel) rfl rfl
theorem kc_4_50 : am_code tn_G 4 50 = some (.iload 4, 2, 0) := am_code_of (M := tn_m4) rfl (by decide +kernel) rfl rfl
theorem kc_4_52 : am_code tn_G 4 52 = some (.iload_n 3, 1, 0) := am_code_of (M := tn_m4) rfl (by decide +kernel) rfl rfl
theorem kc_4_53 : am_code tn_G 4 53 = some (.invokevirtual 59, 3, 0) := am_code_of (M := tn_m4) rfl (by decide +kernel) rfl rfl
theorem ka_4_59 : am_cal tn_G 4 59 = some (0, 5, 2) := by decide +kernel
theorem kc_4_56 : am_code tn_G 4 56 = some (.aload_n 0, 1, 0) := am_code_of (M := tn_m4) rfl (by decide +kernel) rfl rfl
theorem kc_4_57 : am_code tn_G 4 57 = some (.iload_n 3, 1, 0) := am_code_of (M := tn_m4) rfl (by decide +kernel) rfl rfl
theorem kc_4_58 : am_code tn_G 4 58 = some (.iload 4, 2, 0) := am_code_of (M := tn_m4) rfl (by decide +kernel) rfl rfl
theorem kc_4_60 : am_code tn_G 4 60 = some (.invokevirtual 63, 3, 0) := am_code_of (M := tn_m4) rfl (by decide +kernel) rfl rfl
theorem ka_4_63 : am_cal tn_G 4 63 = some (0, 6, 2) := by decide +kernel
theorem kc_4_63 : am_code tn_G 4 63 = some (.aload_n 0, 1, 0) := am_code_of (M := tn_m4) rfl (by decide +kernel) rfl rfl
theorem kc_4_64 : am_code tn_G 4 64 = some (.getfield 18, 3, 0) := am_code_of (M := tn_m4) rfl (by decide +kernel) rfl rfl
theorem kf_4_18 : am_fld tn_G 4 18 = some (0, 3) := by decide +kernel
theorem kc_4_67 : am_code tn_G 4 67 = some (.iload_n 3, 1, 0) := am_code_of (M := tn_m4) rfl (by decide +kernel) rfl rfl
theorem kc_4_68 : am_code tn_G 4 68 = some (.iaload, 1, 0) := am_code_of (M := tn_m4) rfl (by decide +kernel) rfl rfl
theorem kc_4_69 : am_code tn_G 4 69 = some (.iconst (-1), 1, 0) := am_code_of (M := tn_m4) rfl (by decide +kernel) rfl rfl
theorem kc_4_70 : am_code tn_G 4 70 = some (.if_icmp .ne 16, 3, 86) := am_code_of (M := tn_m4) rfl (by decide +kernel) rfl (by decide +kernel)
theorem kc_4_73 : am_code tn_G 4 73 = some (.aload_n 0, 1, 0) := am_code_of (M := tn_m4) rfl (by decide +kernel) rfl rfl
theorem kc_4_74 : am_code tn_G 4 74 = some (.getfield 18, 3, 0) := am_code_of (M := tn_m4) rfl (by decide +kernel) rfl rfl
theorem kc_4_77 : am_code tn_G 4 77 = some (.iload_n 3, 1, 0) := am_code_of (M := tn_m4) rfl (by decide +kernel) rfl rfl
theorem kc_4_78 : am_code tn_G 4 78 = some (.aload_n 0, 1, 0) := am_code_of (M := tn_m4) rfl (by decide +kernel) rfl rfl
theorem kc_4_79 : am_code tn_G 4 79 = some (.getfield 18, 3, 0) := am_code_of (M := tn_m4) rfl (by decide +kernel) rfl rfl
theorem kc_4_82 : am_code tn_G 4 82 = some (.iload 4, 2, 0) := am_code_of (M := tn_m4) rfl (by decide +kernel) rfl rfl
theorem kc_4_84 : am_code tn_G 4 84 = some (.iaload, 1, 0) := am_code_of (M := tn_m4) rfl (by decide +kernel) rfl rfl
theorem kc_4_85 : am_code tn_G 4 85 = some (.iastore, 1, 0) := am_code_of (M := tn_m4) rfl (by decide +kernel) rfl rfl
theorem kc_4_86 : am_code tn_G 4 86 = some (.aload_n 0, 1, 0) := am_code_of (M := tn_m4) rfl (by decide +kernel) rfl rfl
theorem kc_4_87 : am_code tn_G 4 87 = some (.getfield 21, 3, 0) := am_code_of (M := tn_m4) rfl (by decide +kernel) rfl rfl
theorem kf_4_21 : am_fld tn_G 4 21 = some (0, 4) := by decide +kernel
theorem kc_4_90 : am_code tn_G 4 90 = some (.aload_n 0, 1, 0) := am_code_of (M := tn_m4) rfl (by decide +kernel) rfl rfl
theorem kc_4_91 : am_code tn_G 4 91 = some (.getfield 24, 3, 0) := am_code_of (M := tn_m4) rfl (by decide +kernel) rfl rfl
theorem kf_4_24 : am_fld tn_G 4 24 = some (0, 5) := by decide +kernel
theorem kc_4_94 : am_code tn_G 4 94 = some (.iload 4, 2, 0) := am_code_of (M := tn_m4) rfl (by decide +kernel) rfl rfl
theorem kc_4_96 : am_code tn_G 4 96 = some (.iastore, 1, 0) := am_code_of (M := tn_m4) rfl (by decide +kernel) rfl rfl
theorem kc_4_97 : am_code tn_G 4 97 = some (.aload_n 0, 1, 0) := am_code_of (M := tn_m4) rfl (by decide +kernel) rfl rfl
theorem kc_4_98 : am_code tn_G 4 98 = some (.dup, 1, 0) := am_code_of (M := tn_m4) rfl (by decide +kernel) rfl rfl
theorem kc_4_99 : am_code tn_G 4 99 = some (.getfield 24, 3, 0) := am_code_of (M := tn_m4) rfl (by decide +kernel) rfl rfl
theorem kc_4_102 : am_code tn_G 4 102 = some (.iconst 1, 1, 0) := am_code_of (M := tn_m4) rfl (by decide +kernel) rfl rfl
theorem kc_4_103 : am_code tn_G 4 103 = some (.iadd, 1, 0) := am_code_of (M := tn_m4) rfl (by decide +kernel) rfl rfl
theorem kc_4_104 : am_code tn_G 4 104 = some (.putfield 24, 3, 0) := am_code_of (M := tn_m4) rfl (by decide +kernel) rfl rfl
theorem kc_4_107 : am_code tn_G 4 107 = some (.return_, 1, 0) := am_code_of (M := tn_m4) rfl (by decide +kernel) rfl rfl
-- 5: TermNet$Groups.leadRing(II)V
theorem kl_5 : am_ml tn_G 5 = 5 := rfl
theorem ko_5 : am_oc tn_G 5 = 0 := rfl
theorem kn_5 : am_nc tn_G 5 = 0 := rfl
theorem kr_5 : am_rt tn_G 5 = 0 := rfl
theorem kc_5_0 : am_code tn_G 5 0 = some (.iload_n 1, 1, 0) := am_code_of (M := tn_m5) rfl (by decide +kernel) rfl rfl
theorem kc_5_1 : am_code tn_G 5 1 = some (.istore_n 3, 1, 0) := am_code_of (M := tn_m5) rfl (by decide +kernel) rfl rfl
theorem kc_5_2 : am_code tn_G 5 2 = some (.iconst 0, 1, 0) := am_code_of (M := tn_m5) rfl (by decide +kernel) rfl rfl
theorem kc_5_3 : am_code tn_G 5 3 = some (.istore 4, 2, 0) := am_code_of (M := tn_m5) rfl (by decide +kernel) rfl rfl
theorem kc_5_5 : am_code tn_G 5 5 = some (.iload 4, 2, 0) := am_code_of (M := tn_m5) rfl (by decide +kernel) rfl rfl
theorem kc_5_7 : am_code tn_G 5 7 = some (.sipush 400, 3, 0) := am_code_of (M := tn_m5) rfl (by decide +kernel) rfl rfl
theorem kc_5_10 : am_code tn_G 5 10 = some (.if_icmp .ge 31, 3, 41) := am_code_of (M := tn_m5) rfl (by decide +kernel) rfl (by decide +kernel)
theorem kc_5_13 : am_code tn_G 5 13 = some (.aload_n 0, 1, 0) := am_code_of (M := tn_m5) rfl (by decide +kernel) rfl rfl
theorem kc_5_14 : am_code tn_G 5 14 = some (.getfield 9, 3, 0) := am_code_of (M := tn_m5) rfl (by decide +kernel) rfl rfl
theorem kf_5_9 : am_fld tn_G 5 9 = some (0, 1) := by decide +kernel
theorem kc_5_17 : am_code tn_G 5 17 = some (.iload_n 3, 1, 0) := am_code_of (M := tn_m5) rfl (by decide +kernel) rfl rfl
theorem kc_5_18 : am_code tn_G 5 18 = some (.iload_n 2, 1, 0) := am_code_of (M := tn_m5) rfl (by decide +kernel) rfl rfl
theorem kc_5_19 : am_code tn_G 5 19 = some (.iastore, 1, 0) := am_code_of (M := tn_m5) rfl (by decide +kernel) rfl rfl
theorem kc_5_20 : am_code tn_G 5 20 = some (.aload_n 0, 1, 0) := am_code_of (M := tn_m5) rfl (by decide +kernel) rfl rfl
theorem kc_5_21 : am_code tn_G 5 21 = some (.getfield 15, 3, 0) := am_code_of (M := tn_m5) rfl (by decide +kernel) rfl rfl
theorem kf_5_15 : am_fld tn_G 5 15 = some (0, 2) := by decide +kernel
theorem kc_5_24 : am_code tn_G 5 24 = some (.iload_n 3, 1, 0) := am_code_of (M := tn_m5) rfl (by decide +kernel) rfl rfl
theorem kc_5_25 : am_code tn_G 5 25 = some (.iaload, 1, 0) := am_code_of (M := tn_m5) rfl (by decide +kernel) rfl rfl
theorem kc_5_26 : am_code tn_G 5 26 = some (.istore_n 3, 1, 0) := am_code_of (M := tn_m5) rfl (by decide +kernel) rfl rfl
theorem kc_5_27 : am_code tn_G 5 27 = some (.iload_n 3, 1, 0) := am_code_of (M := tn_m5) rfl (by decide +kernel) rfl rfl
theorem kc_5_28 : am_code tn_G 5 28 = some (.iload_n 1, 1, 0) := am_code_of (M := tn_m5) rfl (by decide +kernel) rfl rfl
theorem kc_5_29 : am_code tn_G 5 29 = some (.if_icmp .ne 6, 3, 35) := am_code_of (M := tn_m5) rfl (by decide +kernel) rfl (by decide +kernel)
theorem kc_5_32 : am_code tn_G 5 32 = some (.goto 9, 3, 41) := am_code_of (M := tn_m5) rfl (by decide +kernel) rfl (by decide +kernel)
theorem kc_5_35 : am_code tn_G 5 35 = some (.iinc 4 1, 3, 0) := am_code_of (M := tn_m5) rfl (by decide +kernel) rfl rfl
theorem kc_5_38 : am_code tn_G 5 38 = some (.goto (-33), 3, 5) := am_code_of (M := tn_m5) rfl (by decide +kernel) rfl (by decide +kernel)
theorem kc_5_41 : am_code tn_G 5 41 = some (.return_, 1, 0) := am_code_of (M := tn_m5) rfl (by decide +kernel) rfl rfl
-- 6: TermNet$Groups.swapLinks(II)V
theorem kl_6 : am_ml tn_G 6 = 4 := rfl
theorem ko_6 : am_oc tn_G 6 = 0 := rfl
theorem kn_6 : am_nc tn_G 6 = 0 := rfl
theorem kr_6 : am_rt tn_G 6 = 0 := rfl
theorem kc_6_0 : am_code tn_G 6 0 = some (.aload_n 0, 1, 0) := am_code_of (M := tn_m6) rfl (by decide +kernel) rfl rfl
theorem kc_6_1 : am_code tn_G 6 1 = some (.getfield 15, 3, 0) := am_code_of (M := tn_m6) rfl (by decide +kernel) rfl rfl
theorem kf_6_15 : am_fld tn_G 6 15 = some (0, 2) := by decide +kernel
theorem kc_6_4 : am_code tn_G 6 4 = some (.iload_n 1, 1, 0) := am_code_of (M := tn_m6) rfl (by decide +kernel) rfl rfl
theorem kc_6_5 : am_code tn_G 6 5 = some (.iaload, 1, 0) := am_code_of (M := tn_m6) rfl (by decide +kernel) rfl rfl
theorem kc_6_6 : am_code tn_G 6 6 = some (.istore_n 3, 1, 0) := am_code_of (M := tn_m6) rfl (by decide +kernel) rfl rfl
theorem kc_6_7 : am_code tn_G 6 7 = some (.aload_n 0, 1, 0) := am_code_of (M := tn_m6) rfl (by decide +kernel) rfl rfl
theorem kc_6_8 : am_code tn_G 6 8 = some (.getfield 15, 3, 0) := am_code_of (M := tn_m6) rfl (by decide +kernel) rfl rfl
theorem kc_6_11 : am_code tn_G 6 11 = some (.iload_n 1, 1, 0) := am_code_of (M := tn_m6) rfl (by decide +kernel) rfl rfl
theorem kc_6_12 : am_code tn_G 6 12 = some (.aload_n 0, 1, 0) := am_code_of (M := tn_m6) rfl (by decide +kernel) rfl rfl
theorem kc_6_13 : am_code tn_G 6 13 = some (.getfield 15, 3, 0) := am_code_of (M := tn_m6) rfl (by decide +kernel) rfl rfl
theorem kc_6_16 : am_code tn_G 6 16 = some (.iload_n 2, 1, 0) := am_code_of (M := tn_m6) rfl (by decide +kernel) rfl rfl
theorem kc_6_17 : am_code tn_G 6 17 = some (.iaload, 1, 0) := am_code_of (M := tn_m6) rfl (by decide +kernel) rfl rfl
theorem kc_6_18 : am_code tn_G 6 18 = some (.iastore, 1, 0) := am_code_of (M := tn_m6) rfl (by decide +kernel) rfl rfl
theorem kc_6_19 : am_code tn_G 6 19 = some (.aload_n 0, 1, 0) := am_code_of (M := tn_m6) rfl (by decide +kernel) rfl rfl
theorem kc_6_20 : am_code tn_G 6 20 = some (.getfield 15, 3, 0) := am_code_of (M := tn_m6) rfl (by decide +kernel) rfl rfl
theorem kc_6_23 : am_code tn_G 6 23 = some (.iload_n 2, 1, 0) := am_code_of (M := tn_m6) rfl (by decide +kernel) rfl rfl
theorem kc_6_24 : am_code tn_G 6 24 = some (.iload_n 3, 1, 0) := am_code_of (M := tn_m6) rfl (by decide +kernel) rfl rfl
theorem kc_6_25 : am_code tn_G 6 25 = some (.iastore, 1, 0) := am_code_of (M := tn_m6) rfl (by decide +kernel) rfl rfl
theorem kc_6_26 : am_code tn_G 6 26 = some (.return_, 1, 0) := am_code_of (M := tn_m6) rfl (by decide +kernel) rfl rfl
-- 7: TermNet$Groups.settle(I)Z
theorem kl_7 : am_ml tn_G 7 = 3 := rfl
theorem ko_7 : am_oc tn_G 7 = 0 := rfl
theorem kn_7 : am_nc tn_G 7 = 0 := rfl
theorem kr_7 : am_rt tn_G 7 = 2 := rfl
theorem kc_7_0 : am_code tn_G 7 0 = some (.iload_n 1, 1, 0) := am_code_of (M := tn_m7) rfl (by decide +kernel) rfl rfl
theorem kc_7_1 : am_code tn_G 7 1 = some (.istore_n 2, 1, 0) := am_code_of (M := tn_m7) rfl (by decide +kernel) rfl rfl
theorem kc_7_2 : am_code tn_G 7 2 = some (.iload_n 2, 1, 0) := am_code_of (M := tn_m7) rfl (by decide +kernel) rfl rfl
theorem kc_7_3 : am_code tn_G 7 3 = some (.sipush 400, 3, 0) := am_code_of (M := tn_m7) rfl (by decide +kernel) rfl rfl
theorem kc_7_6 : am_code tn_G 7 6 = some (.if_icmp .ge 32, 3, 38) := am_code_of (M := tn_m7) rfl (by decide +kernel) rfl (by decide +kernel)
theorem kc_7_9 : am_code tn_G 7 9 = some (.iload_n 2, 1, 0) := am_code_of (M := tn_m7) rfl (by decide +kernel) rfl rfl
theorem kc_7_10 : am_code tn_G 7 10 = some (.aload_n 0, 1, 0) := am_code_of (M := tn_m7) rfl (by decide +kernel) rfl rfl
theorem kc_7_11 : am_code tn_G 7 11 = some (.getfield 24, 3, 0) := am_code_of (M := tn_m7) rfl (by decide +kernel) rfl rfl
theorem kf_7_24 : am_fld tn_G 7 24 = some (0, 5) := by decide +kernel
theorem kc_7_14 : am_code tn_G 7 14 = some (.if_icmp .ge 24, 3, 38) := am_code_of (M := tn_m7) rfl (by decide +kernel) rfl (by decide +kernel)
theorem kc_7_17 : am_code tn_G 7 17 = some (.aload_n 0, 1, 0) := am_code_of (M := tn_m7) rfl (by decide +kernel) rfl rfl
theorem kc_7_18 : am_code tn_G 7 18 = some (.aload_n 0, 1, 0) := am_code_of (M := tn_m7) rfl (by decide +kernel) rfl rfl
theorem kc_7_19 : am_code tn_G 7 19 = some (.getfield 21, 3, 0) := am_code_of (M := tn_m7) rfl (by decide +kernel) rfl rfl
theorem kf_7_21 : am_fld tn_G 7 21 = some (0, 4) := by decide +kernel
theorem kc_7_22 : am_code tn_G 7 22 = some (.iload_n 2, 1, 0) := am_code_of (M := tn_m7) rfl (by decide +kernel) rfl rfl
theorem kc_7_23 : am_code tn_G 7 23 = some (.iaload, 1, 0) := am_code_of (M := tn_m7) rfl (by decide +kernel) rfl rfl
theorem kc_7_24 : am_code tn_G 7 24 = some (.invokevirtual 66, 3, 0) := am_code_of (M := tn_m7) rfl (by decide +kernel) rfl rfl
theorem ka_7_66 : am_cal tn_G 7 66 = some (0, 8, 1) := by decide +kernel
theorem kc_7_27 : am_code tn_G 7 27 = some (.ifCond .ne 5, 3, 32) := am_code_of (M := tn_m7) rfl (by decide +kernel) rfl (by decide +kernel)
theorem kc_7_30 : am_code tn_G 7 30 = some (.iconst 0, 1, 0) := am_code_of (M := tn_m7) rfl (by decide +kernel) rfl rfl
theorem kc_7_31 : am_code tn_G 7 31 = some (.ireturn, 1, 0) := am_code_of (M := tn_m7) rfl (by decide +kernel) rfl rfl
theorem kc_7_32 : am_code tn_G 7 32 = some (.iinc 2 1, 3, 0) := am_code_of (M := tn_m7) rfl (by decide +kernel) rfl rfl
theorem kc_7_35 : am_code tn_G 7 35 = some (.goto (-33), 3, 2) := am_code_of (M := tn_m7) rfl (by decide +kernel) rfl (by decide +kernel)
theorem kc_7_38 : am_code tn_G 7 38 = some (.iconst 1, 1, 0) := am_code_of (M := tn_m7) rfl (by decide +kernel) rfl rfl
theorem kc_7_39 : am_code tn_G 7 39 = some (.ireturn, 1, 0) := am_code_of (M := tn_m7) rfl (by decide +kernel) rfl rfl
-- 8: TermNet$Groups.joinParts(I)Z
theorem kl_8 : am_ml tn_G 8 = 5 := rfl
theorem ko_8 : am_oc tn_G 8 = 0 := rfl
theorem kn_8 : am_nc tn_G 8 = 0 := rfl
theorem kr_8 : am_rt tn_G 8 = 2 := rfl
theorem kc_8_0 : am_code tn_G 8 0 = some (.aload_n 0, 1, 0) := am_code_of (M := tn_m8) rfl (by decide +kernel) rfl rfl
theorem kc_8_1 : am_code tn_G 8 1 = some (.getfield 18, 3, 0) := am_code_of (M := tn_m8) rfl (by decide +kernel) rfl rfl
theorem kf_8_18 : am_fld tn_G 8 18 = some (0, 3) := by decide +kernel
theorem kc_8_4 : am_code tn_G 8 4 = some (.iload_n 1, 1, 0) := am_code_of (M := tn_m8) rfl (by decide +kernel) rfl rfl
theorem kc_8_5 : am_code tn_G 8 5 = some (.iaload, 1, 0) := am_code_of (M := tn_m8) rfl (by decide +kernel) rfl rfl
theorem kc_8_6 : am_code tn_G 8 6 = some (.istore_n 2, 1, 0) := am_code_of (M := tn_m8) rfl (by decide +kernel) rfl rfl
theorem kc_8_7 : am_code tn_G 8 7 = some (.aload_n 0, 1, 0) := am_code_of (M := tn_m8) rfl (by decide +kernel) rfl rfl
theorem kc_8_8 : am_code tn_G 8 8 = some (.iload_n 1, 1, 0) := am_code_of (M := tn_m8) rfl (by decide +kernel) rfl rfl
theorem kc_8_9 : am_code tn_G 8 9 = some (.invokevirtual 37, 3, 0) := am_code_of (M := tn_m8) rfl (by decide +kernel) rfl rfl
theorem ka_8_37 : am_cal tn_G 8 37 = some (0, 9, 1) := by decide +kernel
theorem kc_8_12 : am_code tn_G 8 12 = some (.istore_n 3, 1, 0) := am_code_of (M := tn_m8) rfl (by decide +kernel) rfl rfl
theorem kc_8_13 : am_code tn_G 8 13 = some (.iload_n 2, 1, 0) := am_code_of (M := tn_m8) rfl (by decide +kernel) rfl rfl
theorem kc_8_14 : am_code tn_G 8 14 = some (.iconst (-1), 1, 0) := am_code_of (M := tn_m8) rfl (by decide +kernel) rfl rfl
theorem kc_8_15 : am_code tn_G 8 15 = some (.if_icmp .eq 8, 3, 23) := am_code_of (M := tn_m8) rfl (by decide +kernel) rfl (by decide +kernel)
theorem kc_8_18 : am_code tn_G 8 18 = some (.iload_n 2, 1, 0) := am_code_of (M := tn_m8) rfl (by decide +kernel) rfl rfl
theorem kc_8_19 : am_code tn_G 8 19 = some (.iload_n 3, 1, 0) := am_code_of (M := tn_m8) rfl (by decide +kernel) rfl rfl
theorem kc_8_20 : am_code tn_G 8 20 = some (.if_icmp .ne 5, 3, 25) := am_code_of (M := tn_m8) rfl (by decide +kernel) rfl (by decide +kernel)
theorem kc_8_23 : am_code tn_G 8 23 = some (.iconst 1, 1, 0) := am_code_of (M := tn_m8) rfl (by decide +kernel) rfl rfl
theorem kc_8_24 : am_code tn_G 8 24 = some (.ireturn, 1, 0) := am_code_of (M := tn_m8) rfl (by decide +kernel) rfl rfl
theorem kc_8_25 : am_code tn_G 8 25 = some (.aload_n 0, 1, 0) := am_code_of (M := tn_m8) rfl (by decide +kernel) rfl rfl
theorem kc_8_26 : am_code tn_G 8 26 = some (.getfield 28, 3, 0) := am_code_of (M := tn_m8) rfl (by decide +kernel) rfl rfl
theorem kf_8_28 : am_fld tn_G 8 28 = some (0, 0) := by decide +kernel
theorem kc_8_29 : am_code tn_G 8 29 = some (.getfield 32, 3, 0) := am_code_of (M := tn_m8) rfl (by decide +kernel) rfl rfl
theorem kf_8_32 : am_fld tn_G 8 32 = some (1, 1) := by decide +kernel
theorem kc_8_32 : am_code tn_G 8 32 = some (.iload_n 2, 1, 0) := am_code_of (M := tn_m8) rfl (by decide +kernel) rfl rfl
theorem kc_8_33 : am_code tn_G 8 33 = some (.iaload, 1, 0) := am_code_of (M := tn_m8) rfl (by decide +kernel) rfl rfl
theorem kc_8_34 : am_code tn_G 8 34 = some (.aload_n 0, 1, 0) := am_code_of (M := tn_m8) rfl (by decide +kernel) rfl rfl
theorem kc_8_35 : am_code tn_G 8 35 = some (.getfield 28, 3, 0) := am_code_of (M := tn_m8) rfl (by decide +kernel) rfl rfl
theorem kc_8_38 : am_code tn_G 8 38 = some (.getfield 32, 3, 0) := am_code_of (M := tn_m8) rfl (by decide +kernel) rfl rfl
theorem kc_8_41 : am_code tn_G 8 41 = some (.iload_n 3, 1, 0) := am_code_of (M := tn_m8) rfl (by decide +kernel) rfl rfl
theorem kc_8_42 : am_code tn_G 8 42 = some (.iaload, 1, 0) := am_code_of (M := tn_m8) rfl (by decide +kernel) rfl rfl
theorem kc_8_43 : am_code tn_G 8 43 = some (.if_icmp .eq 5, 3, 48) := am_code_of (M := tn_m8) rfl (by decide +kernel) rfl (by decide +kernel)
theorem kc_8_46 : am_code tn_G 8 46 = some (.iconst 0, 1, 0) := am_code_of (M := tn_m8) rfl (by decide +kernel) rfl rfl
theorem kc_8_47 : am_code tn_G 8 47 = some (.ireturn, 1, 0) := am_code_of (M := tn_m8) rfl (by decide +kernel) rfl rfl
theorem kc_8_48 : am_code tn_G 8 48 = some (.iconst 0, 1, 0) := am_code_of (M := tn_m8) rfl (by decide +kernel) rfl rfl
theorem kc_8_49 : am_code tn_G 8 49 = some (.istore 4, 2, 0) := am_code_of (M := tn_m8) rfl (by decide +kernel) rfl rfl
theorem kc_8_51 : am_code tn_G 8 51 = some (.iload 4, 2, 0) := am_code_of (M := tn_m8) rfl (by decide +kernel) rfl rfl
theorem kc_8_53 : am_code tn_G 8 53 = some (.aload_n 0, 1, 0) := am_code_of (M := tn_m8) rfl (by decide +kernel) rfl rfl
theorem kc_8_54 : am_code tn_G 8 54 = some (.getfield 28, 3, 0) := am_code_of (M := tn_m8) rfl (by decide +kernel) rfl rfl
theorem kc_8_57 : am_code tn_G 8 57 = some (.iload_n 2, 1, 0) := am_code_of (M := tn_m8) rfl (by decide +kernel) rfl rfl
theorem kc_8_58 : am_code tn_G 8 58 = some (.invokevirtual 41, 3, 0) := am_code_of (M := tn_m8) rfl (by decide +kernel) rfl rfl
theorem ka_8_41 : am_cal tn_G 8 41 = some (0, 21, 1) := by decide +kernel
theorem kc_8_61 : am_code tn_G 8 61 = some (.if_icmp .ge 33, 3, 94) := am_code_of (M := tn_m8) rfl (by decide +kernel) rfl (by decide +kernel)
theorem kc_8_64 : am_code tn_G 8 64 = some (.aload_n 0, 1, 0) := am_code_of (M := tn_m8) rfl (by decide +kernel) rfl rfl
theorem kc_8_65 : am_code tn_G 8 65 = some (.aload_n 0, 1, 0) := am_code_of (M := tn_m8) rfl (by decide +kernel) rfl rfl
theorem kc_8_66 : am_code tn_G 8 66 = some (.getfield 28, 3, 0) := am_code_of (M := tn_m8) rfl (by decide +kernel) rfl rfl
theorem kc_8_69 : am_code tn_G 8 69 = some (.iload_n 2, 1, 0) := am_code_of (M := tn_m8) rfl (by decide +kernel) rfl rfl
theorem kc_8_70 : am_code tn_G 8 70 = some (.iload 4, 2, 0) := am_code_of (M := tn_m8) rfl (by decide +kernel) rfl rfl
theorem kc_8_72 : am_code tn_G 8 72 = some (.invokevirtual 44, 3, 0) := am_code_of (M := tn_m8) rfl (by decide +kernel) rfl rfl
theorem ka_8_44 : am_cal tn_G 8 44 = some (0, 22, 2) := by decide +kernel
theorem kc_8_75 : am_code tn_G 8 75 = some (.aload_n 0, 1, 0) := am_code_of (M := tn_m8) rfl (by decide +kernel) rfl rfl
theorem kc_8_76 : am_code tn_G 8 76 = some (.getfield 28, 3, 0) := am_code_of (M := tn_m8) rfl (by decide +kernel) rfl rfl
theorem kc_8_79 : am_code tn_G 8 79 = some (.iload_n 3, 1, 0) := am_code_of (M := tn_m8) rfl (by decide +kernel) rfl rfl
theorem kc_8_80 : am_code tn_G 8 80 = some (.iload 4, 2, 0) := am_code_of (M := tn_m8) rfl (by decide +kernel) rfl rfl
theorem kc_8_82 : am_code tn_G 8 82 = some (.invokevirtual 44, 3, 0) := am_code_of (M := tn_m8) rfl (by decide +kernel) rfl rfl
theorem kc_8_85 : am_code tn_G 8 85 = some (.invokevirtual 70, 3, 0) := am_code_of (M := tn_m8) rfl (by decide +kernel) rfl rfl
theorem ka_8_70 : am_cal tn_G 8 70 = some (0, 4, 2) := by decide +kernel
theorem kc_8_88 : am_code tn_G 8 88 = some (.iinc 4 1, 3, 0) := am_code_of (M := tn_m8) rfl (by decide +kernel) rfl rfl
theorem kc_8_91 : am_code tn_G 8 91 = some (.goto (-40), 3, 51) := am_code_of (M := tn_m8) rfl (by decide +kernel) rfl (by decide +kernel)
theorem kc_8_94 : am_code tn_G 8 94 = some (.iconst 1, 1, 0) := am_code_of (M := tn_m8) rfl (by decide +kernel) rfl rfl
theorem kc_8_95 : am_code tn_G 8 95 = some (.ireturn, 1, 0) := am_code_of (M := tn_m8) rfl (by decide +kernel) rfl rfl
-- 9: TermNet$Groups.shapeOf(I)I
theorem kl_9 : am_ml tn_G 9 = 2 := rfl
theorem ko_9 : am_oc tn_G 9 = 0 := rfl
theorem kn_9 : am_nc tn_G 9 = 0 := rfl
theorem kr_9 : am_rt tn_G 9 = 1 := rfl
theorem kc_9_0 : am_code tn_G 9 0 = some (.aload_n 0, 1, 0) := am_code_of (M := tn_m9) rfl (by decide +kernel) rfl rfl
theorem kc_9_1 : am_code tn_G 9 1 = some (.getfield 18, 3, 0) := am_code_of (M := tn_m9) rfl (by decide +kernel) rfl rfl
theorem kf_9_18 : am_fld tn_G 9 18 = some (0, 3) := by decide +kernel
theorem kc_9_4 : am_code tn_G 9 4 = some (.aload_n 0, 1, 0) := am_code_of (M := tn_m9) rfl (by decide +kernel) rfl rfl
theorem kc_9_5 : am_code tn_G 9 5 = some (.getfield 9, 3, 0) := am_code_of (M := tn_m9) rfl (by decide +kernel) rfl rfl
theorem kf_9_9 : am_fld tn_G 9 9 = some (0, 1) := by decide +kernel
theorem kc_9_8 : am_code tn_G 9 8 = some (.iload_n 1, 1, 0) := am_code_of (M := tn_m9) rfl (by decide +kernel) rfl rfl
theorem kc_9_9 : am_code tn_G 9 9 = some (.iaload, 1, 0) := am_code_of (M := tn_m9) rfl (by decide +kernel) rfl rfl
theorem kc_9_10 : am_code tn_G 9 10 = some (.iaload, 1, 0) := am_code_of (M := tn_m9) rfl (by decide +kernel) rfl rfl
theorem kc_9_11 : am_code tn_G 9 11 = some (.ireturn, 1, 0) := am_code_of (M := tn_m9) rfl (by decide +kernel) rfl rfl
-- 10: TermNet$Groups.leaderOf(I)I
theorem kl_10 : am_ml tn_G 10 = 2 := rfl
theorem ko_10 : am_oc tn_G 10 = 0 := rfl
theorem kn_10 : am_nc tn_G 10 = 0 := rfl
theorem kr_10 : am_rt tn_G 10 = 1 := rfl
theorem kc_10_0 : am_code tn_G 10 0 = some (.aload_n 0, 1, 0) := am_code_of (M := tn_m10) rfl (by decide +kernel) rfl rfl
theorem kc_10_1 : am_code tn_G 10 1 = some (.getfield 9, 3, 0) := am_code_of (M := tn_m10) rfl (by decide +kernel) rfl rfl
theorem kf_10_9 : am_fld tn_G 10 9 = some (0, 1) := by decide +kernel
theorem kc_10_4 : am_code tn_G 10 4 = some (.iload_n 1, 1, 0) := am_code_of (M := tn_m10) rfl (by decide +kernel) rfl rfl
theorem kc_10_5 : am_code tn_G 10 5 = some (.iaload, 1, 0) := am_code_of (M := tn_m10) rfl (by decide +kernel) rfl rfl
theorem kc_10_6 : am_code tn_G 10 6 = some (.ireturn, 1, 0) := am_code_of (M := tn_m10) rfl (by decide +kernel) rfl rfl
-- 11: TermNet$Groups.partsOf(I)I
theorem kl_11 : am_ml tn_G 11 = 3 := rfl
theorem ko_11 : am_oc tn_G 11 = 0 := rfl
theorem kn_11 : am_nc tn_G 11 = 0 := rfl
theorem kr_11 : am_rt tn_G 11 = 1 := rfl
theorem kc_11_0 : am_code tn_G 11 0 = some (.aload_n 0, 1, 0) := am_code_of (M := tn_m11) rfl (by decide +kernel) rfl rfl
theorem kc_11_1 : am_code tn_G 11 1 = some (.iload_n 1, 1, 0) := am_code_of (M := tn_m11) rfl (by decide +kernel) rfl rfl
theorem kc_11_2 : am_code tn_G 11 2 = some (.invokevirtual 37, 3, 0) := am_code_of (M := tn_m11) rfl (by decide +kernel) rfl rfl
theorem ka_11_37 : am_cal tn_G 11 37 = some (0, 9, 1) := by decide +kernel
theorem kc_11_5 : am_code tn_G 11 5 = some (.istore_n 2, 1, 0) := am_code_of (M := tn_m11) rfl (by decide +kernel) rfl rfl
theorem kc_11_6 : am_code tn_G 11 6 = some (.iload_n 2, 1, 0) := am_code_of (M := tn_m11) rfl (by decide +kernel) rfl rfl
theorem kc_11_7 : am_code tn_G 11 7 = some (.iconst (-1), 1, 0) := am_code_of (M := tn_m11) rfl (by decide +kernel) rfl rfl
theorem kc_11_8 : am_code tn_G 11 8 = some (.if_icmp .ne 7, 3, 15) := am_code_of (M := tn_m11) rfl (by decide +kernel) rfl (by decide +kernel)
theorem kc_11_11 : am_code tn_G 11 11 = some (.iconst 0, 1, 0) := am_code_of (M := tn_m11) rfl (by decide +kernel) rfl rfl
theorem kc_11_12 : am_code tn_G 11 12 = some (.goto 11, 3, 23) := am_code_of (M := tn_m11) rfl (by decide +kernel) rfl (by decide +kernel)
theorem kc_11_15 : am_code tn_G 11 15 = some (.aload_n 0, 1, 0) := am_code_of (M := tn_m11) rfl (by decide +kernel) rfl rfl
theorem kc_11_16 : am_code tn_G 11 16 = some (.getfield 28, 3, 0) := am_code_of (M := tn_m11) rfl (by decide +kernel) rfl rfl
theorem kf_11_28 : am_fld tn_G 11 28 = some (0, 0) := by decide +kernel
theorem kc_11_19 : am_code tn_G 11 19 = some (.iload_n 2, 1, 0) := am_code_of (M := tn_m11) rfl (by decide +kernel) rfl rfl
theorem kc_11_20 : am_code tn_G 11 20 = some (.invokevirtual 41, 3, 0) := am_code_of (M := tn_m11) rfl (by decide +kernel) rfl rfl
theorem ka_11_41 : am_cal tn_G 11 41 = some (0, 21, 1) := by decide +kernel
theorem kc_11_23 : am_code tn_G 11 23 = some (.ireturn, 1, 0) := am_code_of (M := tn_m11) rfl (by decide +kernel) rfl rfl
-- 12: TermNet$Groups.partLeader(II)I
theorem kl_12 : am_ml tn_G 12 = 3 := rfl
theorem ko_12 : am_oc tn_G 12 = 0 := rfl
theorem kn_12 : am_nc tn_G 12 = 0 := rfl
theorem kr_12 : am_rt tn_G 12 = 1 := rfl
theorem kc_12_0 : am_code tn_G 12 0 = some (.aload_n 0, 1, 0) := am_code_of (M := tn_m12) rfl (by decide +kernel) rfl rfl
theorem kc_12_1 : am_code tn_G 12 1 = some (.getfield 9, 3, 0) := am_code_of (M := tn_m12) rfl (by decide +kernel) rfl rfl
theorem kf_12_9 : am_fld tn_G 12 9 = some (0, 1) := by decide +kernel
theorem kc_12_4 : am_code tn_G 12 4 = some (.aload_n 0, 1, 0) := am_code_of (M := tn_m12) rfl (by decide +kernel) rfl rfl
theorem kc_12_5 : am_code tn_G 12 5 = some (.getfield 28, 3, 0) := am_code_of (M := tn_m12) rfl (by decide +kernel) rfl rfl
theorem kf_12_28 : am_fld tn_G 12 28 = some (0, 0) := by decide +kernel
theorem kc_12_8 : am_code tn_G 12 8 = some (.aload_n 0, 1, 0) := am_code_of (M := tn_m12) rfl (by decide +kernel) rfl rfl
theorem kc_12_9 : am_code tn_G 12 9 = some (.iload_n 1, 1, 0) := am_code_of (M := tn_m12) rfl (by decide +kernel) rfl rfl
theorem kc_12_10 : am_code tn_G 12 10 = some (.invokevirtual 37, 3, 0) := am_code_of (M := tn_m12) rfl (by decide +kernel) rfl rfl
theorem ka_12_37 : am_cal tn_G 12 37 = some (0, 9, 1) := by decide +kernel
theorem kc_12_13 : am_code tn_G 12 13 = some (.iload_n 2, 1, 0) := am_code_of (M := tn_m12) rfl (by decide +kernel) rfl rfl
theorem kc_12_14 : am_code tn_G 12 14 = some (.invokevirtual 44, 3, 0) := am_code_of (M := tn_m12) rfl (by decide +kernel) rfl rfl
theorem ka_12_44 : am_cal tn_G 12 44 = some (0, 22, 2) := by decide +kernel
theorem kc_12_17 : am_code tn_G 12 17 = some (.iaload, 1, 0) := am_code_of (M := tn_m12) rfl (by decide +kernel) rfl rfl
theorem kc_12_18 : am_code tn_G 12 18 = some (.ireturn, 1, 0) := am_code_of (M := tn_m12) rfl (by decide +kernel) rfl rfl
-- 13: TermNet$Groups.undoTo(I)V
theorem kl_13 : am_ml tn_G 13 = 3 := rfl
theorem ko_13 : am_oc tn_G 13 = 0 := rfl
theorem kn_13 : am_nc tn_G 13 = 0 := rfl
theorem kr_13 : am_rt tn_G 13 = 0 := rfl
theorem kc_13_0 : am_code tn_G 13 0 = some (.aload_n 0, 1, 0) := am_code_of (M := tn_m13) rfl (by decide +kernel) rfl rfl
theorem kc_13_1 : am_code tn_G 13 1 = some (.getfield 24, 3, 0) := am_code_of (M := tn_m13) rfl (by decide +kernel) rfl rfl
theorem kf_13_24 : am_fld tn_G 13 24 = some (0, 5) := by decide +kernel
theorem kc_13_4 : am_code tn_G 13 4 = some (.iconst 1, 1, 0) := am_code_of (M := tn_m13) rfl (by decide +kernel) rfl rfl
theorem kc_13_5 : am_code tn_G 13 5 = some (.isub, 1, 0) := am_code_of (M := tn_m13) rfl (by decide +kernel) rfl rfl
theorem kc_13_6 : am_code tn_G 13 6 = some (.istore_n 2, 1, 0) := am_code_of (M := tn_m13) rfl (by decide +kernel) rfl rfl
theorem kc_13_7 : am_code tn_G 13 7 = some (.iload_n 2, 1, 0) := am_code_of (M := tn_m13) rfl (by decide +kernel) rfl rfl
theorem kc_13_8 : am_code tn_G 13 8 = some (.iload_n 1, 1, 0) := am_code_of (M := tn_m13) rfl (by decide +kernel) rfl rfl
theorem kc_13_9 : am_code tn_G 13 9 = some (.if_icmp .lt 19, 3, 28) := am_code_of (M := tn_m13) rfl (by decide +kernel) rfl (by decide +kernel)
theorem kc_13_12 : am_code tn_G 13 12 = some (.aload_n 0, 1, 0) := am_code_of (M := tn_m13) rfl (by decide +kernel) rfl rfl
theorem kc_13_13 : am_code tn_G 13 13 = some (.aload_n 0, 1, 0) := am_code_of (M := tn_m13) rfl (by decide +kernel) rfl rfl
theorem kc_13_14 : am_code tn_G 13 14 = some (.getfield 21, 3, 0) := am_code_of (M := tn_m13) rfl (by decide +kernel) rfl rfl
theorem kf_13_21 : am_fld tn_G 13 21 = some (0, 4) := by decide +kernel
theorem kc_13_17 : am_code tn_G 13 17 = some (.iload_n 2, 1, 0) := am_code_of (M := tn_m13) rfl (by decide +kernel) rfl rfl
theorem kc_13_18 : am_code tn_G 13 18 = some (.iaload, 1, 0) := am_code_of (M := tn_m13) rfl (by decide +kernel) rfl rfl
theorem kc_13_19 : am_code tn_G 13 19 = some (.invokevirtual 73, 3, 0) := am_code_of (M := tn_m13) rfl (by decide +kernel) rfl rfl
theorem ka_13_73 : am_cal tn_G 13 73 = some (0, 14, 1) := by decide +kernel
theorem kc_13_22 : am_code tn_G 13 22 = some (.iinc 2 (-1), 3, 0) := am_code_of (M := tn_m13) rfl (by decide +kernel) rfl rfl
theorem kc_13_25 : am_code tn_G 13 25 = some (.goto (-18), 3, 7) := am_code_of (M := tn_m13) rfl (by decide +kernel) rfl (by decide +kernel)
theorem kc_13_28 : am_code tn_G 13 28 = some (.aload_n 0, 1, 0) := am_code_of (M := tn_m13) rfl (by decide +kernel) rfl rfl
theorem kc_13_29 : am_code tn_G 13 29 = some (.iload_n 1, 1, 0) := am_code_of (M := tn_m13) rfl (by decide +kernel) rfl rfl
theorem kc_13_30 : am_code tn_G 13 30 = some (.putfield 24, 3, 0) := am_code_of (M := tn_m13) rfl (by decide +kernel) rfl rfl
theorem kc_13_33 : am_code tn_G 13 33 = some (.return_, 1, 0) := am_code_of (M := tn_m13) rfl (by decide +kernel) rfl rfl
-- 14: TermNet$Groups.undo(I)V
theorem kl_14 : am_ml tn_G 14 = 3 := rfl
theorem ko_14 : am_oc tn_G 14 = 0 := rfl
theorem kn_14 : am_nc tn_G 14 = 0 := rfl
theorem kr_14 : am_rt tn_G 14 = 0 := rfl
theorem kc_14_0 : am_code tn_G 14 0 = some (.aload_n 0, 1, 0) := am_code_of (M := tn_m14) rfl (by decide +kernel) rfl rfl
theorem kc_14_1 : am_code tn_G 14 1 = some (.getfield 9, 3, 0) := am_code_of (M := tn_m14) rfl (by decide +kernel) rfl rfl
theorem kf_14_9 : am_fld tn_G 14 9 = some (0, 1) := by decide +kernel
theorem kc_14_4 : am_code tn_G 14 4 = some (.iload_n 1, 1, 0) := am_code_of (M := tn_m14) rfl (by decide +kernel) rfl rfl
theorem kc_14_5 : am_code tn_G 14 5 = some (.iaload, 1, 0) := am_code_of (M := tn_m14) rfl (by decide +kernel) rfl rfl
theorem kc_14_6 : am_code tn_G 14 6 = some (.istore_n 2, 1, 0) := am_code_of (M := tn_m14) rfl (by decide +kernel) rfl rfl
theorem kc_14_7 : am_code tn_G 14 7 = some (.aload_n 0, 1, 0) := am_code_of (M := tn_m14) rfl (by decide +kernel) rfl rfl
theorem kc_14_8 : am_code tn_G 14 8 = some (.iload_n 2, 1, 0) := am_code_of (M := tn_m14) rfl (by decide +kernel) rfl rfl
theorem kc_14_9 : am_code tn_G 14 9 = some (.iload_n 1, 1, 0) := am_code_of (M := tn_m14) rfl (by decide +kernel) rfl rfl
theorem kc_14_10 : am_code tn_G 14 10 = some (.invokevirtual 63, 3, 0) := am_code_of (M := tn_m14) rfl (by decide +kernel) rfl rfl
theorem ka_14_63 : am_cal tn_G 14 63 = some (0, 6, 2) := by decide +kernel
theorem kc_14_13 : am_code tn_G 14 13 = some (.aload_n 0, 1, 0) := am_code_of (M := tn_m14) rfl (by decide +kernel) rfl rfl
theorem kc_14_14 : am_code tn_G 14 14 = some (.iload_n 1, 1, 0) := am_code_of (M := tn_m14) rfl (by decide +kernel) rfl rfl
theorem kc_14_15 : am_code tn_G 14 15 = some (.iload_n 1, 1, 0) := am_code_of (M := tn_m14) rfl (by decide +kernel) rfl rfl
theorem kc_14_16 : am_code tn_G 14 16 = some (.invokevirtual 59, 3, 0) := am_code_of (M := tn_m14) rfl (by decide +kernel) rfl rfl
theorem ka_14_59 : am_cal tn_G 14 59 = some (0, 5, 2) := by decide +kernel
theorem kc_14_19 : am_code tn_G 14 19 = some (.aload_n 0, 1, 0) := am_code_of (M := tn_m14) rfl (by decide +kernel) rfl rfl
theorem kc_14_20 : am_code tn_G 14 20 = some (.getfield 18, 3, 0) := am_code_of (M := tn_m14) rfl (by decide +kernel) rfl rfl
theorem kf_14_18 : am_fld tn_G 14 18 = some (0, 3) := by decide +kernel
theorem kc_14_23 : am_code tn_G 14 23 = some (.iload_n 2, 1, 0) := am_code_of (M := tn_m14) rfl (by decide +kernel) rfl rfl
theorem kc_14_24 : am_code tn_G 14 24 = some (.iaload, 1, 0) := am_code_of (M := tn_m14) rfl (by decide +kernel) rfl rfl
theorem kc_14_25 : am_code tn_G 14 25 = some (.aload_n 0, 1, 0) := am_code_of (M := tn_m14) rfl (by decide +kernel) rfl rfl
theorem kc_14_26 : am_code tn_G 14 26 = some (.getfield 18, 3, 0) := am_code_of (M := tn_m14) rfl (by decide +kernel) rfl rfl
theorem kc_14_29 : am_code tn_G 14 29 = some (.iload_n 1, 1, 0) := am_code_of (M := tn_m14) rfl (by decide +kernel) rfl rfl
theorem kc_14_30 : am_code tn_G 14 30 = some (.iaload, 1, 0) := am_code_of (M := tn_m14) rfl (by decide +kernel) rfl rfl
theorem kc_14_31 : am_code tn_G 14 31 = some (.if_icmp .ne 10, 3, 41) := am_code_of (M := tn_m14) rfl (by decide +kernel) rfl (by decide +kernel)
theorem kc_14_34 : am_code tn_G 14 34 = some (.aload_n 0, 1, 0) := am_code_of (M := tn_m14) rfl (by decide +kernel) rfl rfl
theorem kc_14_35 : am_code tn_G 14 35 = some (.getfield 18, 3, 0) := am_code_of (M := tn_m14) rfl (by decide +kernel) rfl rfl
theorem kc_14_38 : am_code tn_G 14 38 = some (.iload_n 2, 1, 0) := am_code_of (M := tn_m14) rfl (by decide +kernel) rfl rfl
theorem kc_14_39 : am_code tn_G 14 39 = some (.iconst (-1), 1, 0) := am_code_of (M := tn_m14) rfl (by decide +kernel) rfl rfl
theorem kc_14_40 : am_code tn_G 14 40 = some (.iastore, 1, 0) := am_code_of (M := tn_m14) rfl (by decide +kernel) rfl rfl
theorem kc_14_41 : am_code tn_G 14 41 = some (.return_, 1, 0) := am_code_of (M := tn_m14) rfl (by decide +kernel) rfl rfl
-- 15: TermNet$Groups.isKnown(I)Z
theorem kl_15 : am_ml tn_G 15 = 2 := rfl
theorem ko_15 : am_oc tn_G 15 = 0 := rfl
theorem kn_15 : am_nc tn_G 15 = 0 := rfl
theorem kr_15 : am_rt tn_G 15 = 2 := rfl
theorem kc_15_0 : am_code tn_G 15 0 = some (.aload_n 0, 1, 0) := am_code_of (M := tn_m15) rfl (by decide +kernel) rfl rfl
theorem kc_15_1 : am_code tn_G 15 1 = some (.iload_n 1, 1, 0) := am_code_of (M := tn_m15) rfl (by decide +kernel) rfl rfl
theorem kc_15_2 : am_code tn_G 15 2 = some (.invokevirtual 37, 3, 0) := am_code_of (M := tn_m15) rfl (by decide +kernel) rfl rfl
theorem ka_15_37 : am_cal tn_G 15 37 = some (0, 9, 1) := by decide +kernel
theorem kc_15_5 : am_code tn_G 15 5 = some (.iconst (-1), 1, 0) := am_code_of (M := tn_m15) rfl (by decide +kernel) rfl rfl
theorem kc_15_6 : am_code tn_G 15 6 = some (.if_icmp .eq 7, 3, 13) := am_code_of (M := tn_m15) rfl (by decide +kernel) rfl (by decide +kernel)
theorem kc_15_9 : am_code tn_G 15 9 = some (.iconst 1, 1, 0) := am_code_of (M := tn_m15) rfl (by decide +kernel) rfl rfl
theorem kc_15_10 : am_code tn_G 15 10 = some (.goto 4, 3, 14) := am_code_of (M := tn_m15) rfl (by decide +kernel) rfl (by decide +kernel)
theorem kc_15_13 : am_code tn_G 15 13 = some (.iconst 0, 1, 0) := am_code_of (M := tn_m15) rfl (by decide +kernel) rfl rfl
theorem kc_15_14 : am_code tn_G 15 14 = some (.ireturn, 1, 0) := am_code_of (M := tn_m15) rfl (by decide +kernel) rfl rfl
-- 16: TermNet$Told.addSign(I)I
theorem kl_16 : am_ml tn_G 16 = 2 := rfl
theorem ko_16 : am_oc tn_G 16 = 1 := rfl
theorem kn_16 : am_nc tn_G 16 = 0 := rfl
theorem kr_16 : am_rt tn_G 16 = 1 := rfl
theorem kc_16_0 : am_code tn_G 16 0 = some (.aload_n 0, 1, 0) := am_code_of (M := tn_m16) rfl (by decide +kernel) rfl rfl
theorem kc_16_1 : am_code tn_G 16 1 = some (.getfield 9, 3, 0) := am_code_of (M := tn_m16) rfl (by decide +kernel) rfl rfl
theorem kf_16_9 : am_fld tn_G 16 9 = some (1, 0) := by decide +kernel
theorem kc_16_4 : am_code tn_G 16 4 = some (.aload_n 0, 1, 0) := am_code_of (M := tn_m16) rfl (by decide +kernel) rfl rfl
theorem kc_16_5 : am_code tn_G 16 5 = some (.getfield 21, 3, 0) := am_code_of (M := tn_m16) rfl (by decide +kernel) rfl rfl
theorem kf_16_21 : am_fld tn_G 16 21 = some (1, 3) := by decide +kernel
theorem kc_16_8 : am_code tn_G 16 8 = some (.iload_n 1, 1, 0) := am_code_of (M := tn_m16) rfl (by decide +kernel) rfl rfl
theorem kc_16_9 : am_code tn_G 16 9 = some (.iastore, 1, 0) := am_code_of (M := tn_m16) rfl (by decide +kernel) rfl rfl
theorem kc_16_10 : am_code tn_G 16 10 = some (.aload_n 0, 1, 0) := am_code_of (M := tn_m16) rfl (by decide +kernel) rfl rfl
theorem kc_16_11 : am_code tn_G 16 11 = some (.dup, 1, 0) := am_code_of (M := tn_m16) rfl (by decide +kernel) rfl rfl
theorem kc_16_12 : am_code tn_G 16 12 = some (.getfield 21, 3, 0) := am_code_of (M := tn_m16) rfl (by decide +kernel) rfl rfl
theorem kc_16_15 : am_code tn_G 16 15 = some (.iconst 1, 1, 0) := am_code_of (M := tn_m16) rfl (by decide +kernel) rfl rfl
theorem kc_16_16 : am_code tn_G 16 16 = some (.iadd, 1, 0) := am_code_of (M := tn_m16) rfl (by decide +kernel) rfl rfl
theorem kc_16_17 : am_code tn_G 16 17 = some (.putfield 21, 3, 0) := am_code_of (M := tn_m16) rfl (by decide +kernel) rfl rfl
theorem kc_16_20 : am_code tn_G 16 20 = some (.aload_n 0, 1, 0) := am_code_of (M := tn_m16) rfl (by decide +kernel) rfl rfl
theorem kc_16_21 : am_code tn_G 16 21 = some (.getfield 21, 3, 0) := am_code_of (M := tn_m16) rfl (by decide +kernel) rfl rfl
theorem kc_16_24 : am_code tn_G 16 24 = some (.iconst 1, 1, 0) := am_code_of (M := tn_m16) rfl (by decide +kernel) rfl rfl
theorem kc_16_25 : am_code tn_G 16 25 = some (.isub, 1, 0) := am_code_of (M := tn_m16) rfl (by decide +kernel) rfl rfl
theorem kc_16_26 : am_code tn_G 16 26 = some (.ireturn, 1, 0) := am_code_of (M := tn_m16) rfl (by decide +kernel) rfl rfl
-- 17: TermNet$Told.addUnknown()I
theorem kl_17 : am_ml tn_G 17 = 1 := rfl
theorem ko_17 : am_oc tn_G 17 = 1 := rfl
theorem kn_17 : am_nc tn_G 17 = 0 := rfl
theorem kr_17 : am_rt tn_G 17 = 1 := rfl
theorem kc_17_0 : am_code tn_G 17 0 = some (.aload_n 0, 1, 0) := am_code_of (M := tn_m17) rfl (by decide +kernel) rfl rfl
theorem kc_17_1 : am_code tn_G 17 1 = some (.getfield 15, 3, 0) := am_code_of (M := tn_m17) rfl (by decide +kernel) rfl rfl
theorem kf_17_15 : am_fld tn_G 17 15 = some (1, 1) := by decide +kernel
theorem kc_17_4 : am_code tn_G 17 4 = some (.aload_n 0, 1, 0) := am_code_of (M := tn_m17) rfl (by decide +kernel) rfl rfl
theorem kc_17_5 : am_code tn_G 17 5 = some (.getfield 25, 3, 0) := am_code_of (M := tn_m17) rfl (by decide +kernel) rfl rfl
theorem kf_17_25 : am_fld tn_G 17 25 = some (1, 4) := by decide +kernel
theorem kc_17_8 : am_code tn_G 17 8 = some (.iconst (-1), 1, 0) := am_code_of (M := tn_m17) rfl (by decide +kernel) rfl rfl
theorem kc_17_9 : am_code tn_G 17 9 = some (.iastore, 1, 0) := am_code_of (M := tn_m17) rfl (by decide +kernel) rfl rfl
theorem kc_17_10 : am_code tn_G 17 10 = some (.aload_n 0, 1, 0) := am_code_of (M := tn_m17) rfl (by decide +kernel) rfl rfl
theorem kc_17_11 : am_code tn_G 17 11 = some (.dup, 1, 0) := am_code_of (M := tn_m17) rfl (by decide +kernel) rfl rfl
theorem kc_17_12 : am_code tn_G 17 12 = some (.getfield 25, 3, 0) := am_code_of (M := tn_m17) rfl (by decide +kernel) rfl rfl
theorem kc_17_15 : am_code tn_G 17 15 = some (.iconst 1, 1, 0) := am_code_of (M := tn_m17) rfl (by decide +kernel) rfl rfl
theorem kc_17_16 : am_code tn_G 17 16 = some (.iadd, 1, 0) := am_code_of (M := tn_m17) rfl (by decide +kernel) rfl rfl
theorem kc_17_17 : am_code tn_G 17 17 = some (.putfield 25, 3, 0) := am_code_of (M := tn_m17) rfl (by decide +kernel) rfl rfl
theorem kc_17_20 : am_code tn_G 17 20 = some (.aload_n 0, 1, 0) := am_code_of (M := tn_m17) rfl (by decide +kernel) rfl rfl
theorem kc_17_21 : am_code tn_G 17 21 = some (.getfield 25, 3, 0) := am_code_of (M := tn_m17) rfl (by decide +kernel) rfl rfl
theorem kc_17_24 : am_code tn_G 17 24 = some (.iconst 1, 1, 0) := am_code_of (M := tn_m17) rfl (by decide +kernel) rfl rfl
theorem kc_17_25 : am_code tn_G 17 25 = some (.isub, 1, 0) := am_code_of (M := tn_m17) rfl (by decide +kernel) rfl rfl
theorem kc_17_26 : am_code tn_G 17 26 = some (.ireturn, 1, 0) := am_code_of (M := tn_m17) rfl (by decide +kernel) rfl rfl
-- 18: TermNet$Told.canBeTerm(IIII)Z
theorem kl_18 : am_ml tn_G 18 = 6 := rfl
theorem ko_18 : am_oc tn_G 18 = 1 := rfl
theorem kn_18 : am_nc tn_G 18 = 0 := rfl
theorem kr_18 : am_rt tn_G 18 = 2 := rfl
theorem kc_18_0 : am_code tn_G 18 0 = some (.iload_n 1, 1, 0) := am_code_of (M := tn_m18) rfl (by decide +kernel) rfl rfl
theorem kc_18_1 : am_code tn_G 18 1 = some (.ifCond .lt 11, 3, 12) := am_code_of (M := tn_m18) rfl (by decide +kernel) rfl (by decide +kernel)
theorem kc_18_4 : am_code tn_G 18 4 = some (.iload_n 1, 1, 0) := am_code_of (M := tn_m18) rfl (by decide +kernel) rfl rfl
theorem kc_18_5 : am_code tn_G 18 5 = some (.aload_n 0, 1, 0) := am_code_of (M := tn_m18) rfl (by decide +kernel) rfl rfl
theorem kc_18_6 : am_code tn_G 18 6 = some (.getfield 21, 3, 0) := am_code_of (M := tn_m18) rfl (by decide +kernel) rfl rfl
theorem kf_18_21 : am_fld tn_G 18 21 = some (1, 3) := by decide +kernel
theorem kc_18_9 : am_code tn_G 18 9 = some (.if_icmp .lt 5, 3, 14) := am_code_of (M := tn_m18) rfl (by decide +kernel) rfl (by decide +kernel)
theorem kc_18_12 : am_code tn_G 18 12 = some (.iconst 0, 1, 0) := am_code_of (M := tn_m18) rfl (by decide +kernel) rfl rfl
theorem kc_18_13 : am_code tn_G 18 13 = some (.ireturn, 1, 0) := am_code_of (M := tn_m18) rfl (by decide +kernel) rfl rfl
theorem kc_18_14 : am_code tn_G 18 14 = some (.aload_n 0, 1, 0) := am_code_of (M := tn_m18) rfl (by decide +kernel) rfl rfl
theorem kc_18_15 : am_code tn_G 18 15 = some (.getfield 9, 3, 0) := am_code_of (M := tn_m18) rfl (by decide +kernel) rfl rfl
theorem kf_18_9 : am_fld tn_G 18 9 = some (1, 0) := by decide +kernel
theorem kc_18_18 : am_code tn_G 18 18 = some (.iload_n 1, 1, 0) := am_code_of (M := tn_m18) rfl (by decide +kernel) rfl rfl
theorem kc_18_19 : am_code tn_G 18 19 = some (.iaload, 1, 0) := am_code_of (M := tn_m18) rfl (by decide +kernel) rfl rfl
theorem kc_18_20 : am_code tn_G 18 20 = some (.istore 5, 2, 0) := am_code_of (M := tn_m18) rfl (by decide +kernel) rfl rfl
theorem kc_18_22 : am_code tn_G 18 22 = some (.iload 5, 2, 0) := am_code_of (M := tn_m18) rfl (by decide +kernel) rfl rfl
theorem kc_18_24 : am_code tn_G 18 24 = some (.iconst 1, 1, 0) := am_code_of (M := tn_m18) rfl (by decide +kernel) rfl rfl
theorem kc_18_25 : am_code tn_G 18 25 = some (.if_icmp .lt 11, 3, 36) := am_code_of (M := tn_m18) rfl (by decide +kernel) rfl (by decide +kernel)
theorem kc_18_28 : am_code tn_G 18 28 = some (.aload_n 0, 1, 0) := am_code_of (M := tn_m18) rfl (by decide +kernel) rfl rfl
theorem kc_18_29 : am_code tn_G 18 29 = some (.iload_n 2, 1, 0) := am_code_of (M := tn_m18) rfl (by decide +kernel) rfl rfl
theorem kc_18_30 : am_code tn_G 18 30 = some (.invokevirtual 28, 3, 0) := am_code_of (M := tn_m18) rfl (by decide +kernel) rfl rfl
theorem ka_18_28 : am_cal tn_G 18 28 = some (0, 19, 1) := by decide +kernel
theorem kc_18_33 : am_code tn_G 18 33 = some (.ifCond .eq 36, 3, 69) := am_code_of (M := tn_m18) rfl (by decide +kernel) rfl (by decide +kernel)
theorem kc_18_36 : am_code tn_G 18 36 = some (.iload 5, 2, 0) := am_code_of (M := tn_m18) rfl (by decide +kernel) rfl rfl
theorem kc_18_38 : am_code tn_G 18 38 = some (.iconst 2, 1, 0) := am_code_of (M := tn_m18) rfl (by decide +kernel) rfl rfl
theorem kc_18_39 : am_code tn_G 18 39 = some (.if_icmp .lt 11, 3, 50) := am_code_of (M := tn_m18) rfl (by decide +kernel) rfl (by decide +kernel)
theorem kc_18_42 : am_code tn_G 18 42 = some (.aload_n 0, 1, 0) := am_code_of (M := tn_m18) rfl (by decide +kernel) rfl rfl
theorem kc_18_43 : am_code tn_G 18 43 = some (.iload_n 3, 1, 0) := am_code_of (M := tn_m18) rfl (by decide +kernel) rfl rfl
theorem kc_18_44 : am_code tn_G 18 44 = some (.invokevirtual 28, 3, 0) := am_code_of (M := tn_m18) rfl (by decide +kernel) rfl rfl
theorem kc_18_47 : am_code tn_G 18 47 = some (.ifCond .eq 22, 3, 69) := am_code_of (M := tn_m18) rfl (by decide +kernel) rfl (by decide +kernel)
theorem kc_18_50 : am_code tn_G 18 50 = some (.iload 5, 2, 0) := am_code_of (M := tn_m18) rfl (by decide +kernel) rfl rfl
theorem kc_18_52 : am_code tn_G 18 52 = some (.iconst 3, 1, 0) := am_code_of (M := tn_m18) rfl (by decide +kernel) rfl rfl
theorem kc_18_53 : am_code tn_G 18 53 = some (.if_icmp .lt 12, 3, 65) := am_code_of (M := tn_m18) rfl (by decide +kernel) rfl (by decide +kernel)
theorem kc_18_56 : am_code tn_G 18 56 = some (.aload_n 0, 1, 0) := am_code_of (M := tn_m18) rfl (by decide +kernel) rfl rfl
theorem kc_18_57 : am_code tn_G 18 57 = some (.iload 4, 2, 0) := am_code_of (M := tn_m18) rfl (by decide +kernel) rfl rfl
theorem kc_18_59 : am_code tn_G 18 59 = some (.invokevirtual 28, 3, 0) := am_code_of (M := tn_m18) rfl (by decide +kernel) rfl rfl
theorem kc_18_62 : am_code tn_G 18 62 = some (.ifCond .eq 7, 3, 69) := am_code_of (M := tn_m18) rfl (by decide +kernel) rfl (by decide +kernel)
theorem kc_18_65 : am_code tn_G 18 65 = some (.iconst 1, 1, 0) := am_code_of (M := tn_m18) rfl (by decide +kernel) rfl rfl
theorem kc_18_66 : am_code tn_G 18 66 = some (.goto 4, 3, 70) := am_code_of (M := tn_m18) rfl (by decide +kernel) rfl (by decide +kernel)
theorem kc_18_69 : am_code tn_G 18 69 = some (.iconst 0, 1, 0) := am_code_of (M := tn_m18) rfl (by decide +kernel) rfl rfl
theorem kc_18_70 : am_code tn_G 18 70 = some (.ireturn, 1, 0) := am_code_of (M := tn_m18) rfl (by decide +kernel) rfl rfl
-- 19: TermNet$Told.isTerm(I)Z
theorem kl_19 : am_ml tn_G 19 = 2 := rfl
theorem ko_19 : am_oc tn_G 19 = 1 := rfl
theorem kn_19 : am_nc tn_G 19 = 0 := rfl
theorem kr_19 : am_rt tn_G 19 = 2 := rfl
theorem kc_19_0 : am_code tn_G 19 0 = some (.iload_n 1, 1, 0) := am_code_of (M := tn_m19) rfl (by decide +kernel) rfl rfl
theorem kc_19_1 : am_code tn_G 19 1 = some (.ifCond .lt 15, 3, 16) := am_code_of (M := tn_m19) rfl (by decide +kernel) rfl (by decide +kernel)
theorem kc_19_4 : am_code tn_G 19 4 = some (.iload_n 1, 1, 0) := am_code_of (M := tn_m19) rfl (by decide +kernel) rfl rfl
theorem kc_19_5 : am_code tn_G 19 5 = some (.aload_n 0, 1, 0) := am_code_of (M := tn_m19) rfl (by decide +kernel) rfl rfl
theorem kc_19_6 : am_code tn_G 19 6 = some (.getfield 25, 3, 0) := am_code_of (M := tn_m19) rfl (by decide +kernel) rfl rfl
theorem kf_19_25 : am_fld tn_G 19 25 = some (1, 4) := by decide +kernel
theorem kc_19_9 : am_code tn_G 19 9 = some (.if_icmp .ge 7, 3, 16) := am_code_of (M := tn_m19) rfl (by decide +kernel) rfl (by decide +kernel)
theorem kc_19_12 : am_code tn_G 19 12 = some (.iconst 1, 1, 0) := am_code_of (M := tn_m19) rfl (by decide +kernel) rfl rfl
theorem kc_19_13 : am_code tn_G 19 13 = some (.goto 4, 3, 17) := am_code_of (M := tn_m19) rfl (by decide +kernel) rfl (by decide +kernel)
theorem kc_19_16 : am_code tn_G 19 16 = some (.iconst 0, 1, 0) := am_code_of (M := tn_m19) rfl (by decide +kernel) rfl rfl
theorem kc_19_17 : am_code tn_G 19 17 = some (.ireturn, 1, 0) := am_code_of (M := tn_m19) rfl (by decide +kernel) rfl rfl
-- 20: TermNet$Told.addTerm(IIII)I
theorem kl_20 : am_ml tn_G 20 = 5 := rfl
theorem ko_20 : am_oc tn_G 20 = 1 := rfl
theorem kn_20 : am_nc tn_G 20 = 0 := rfl
theorem kr_20 : am_rt tn_G 20 = 1 := rfl
theorem kc_20_0 : am_code tn_G 20 0 = some (.aload_n 0, 1, 0) := am_code_of (M := tn_m20) rfl (by decide +kernel) rfl rfl
theorem kc_20_1 : am_code tn_G 20 1 = some (.getfield 15, 3, 0) := am_code_of (M := tn_m20) rfl (by decide +kernel) rfl rfl
theorem kf_20_15 : am_fld tn_G 20 15 = some (1, 1) := by decide +kernel
theorem kc_20_4 : am_code tn_G 20 4 = some (.aload_n 0, 1, 0) := am_code_of (M := tn_m20) rfl (by decide +kernel) rfl rfl
theorem kc_20_5 : am_code tn_G 20 5 = some (.getfield 25, 3, 0) := am_code_of (M := tn_m20) rfl (by decide +kernel) rfl rfl
theorem kf_20_25 : am_fld tn_G 20 25 = some (1, 4) := by decide +kernel
theorem kc_20_8 : am_code tn_G 20 8 = some (.iload_n 1, 1, 0) := am_code_of (M := tn_m20) rfl (by decide +kernel) rfl rfl
theorem kc_20_9 : am_code tn_G 20 9 = some (.iastore, 1, 0) := am_code_of (M := tn_m20) rfl (by decide +kernel) rfl rfl
theorem kc_20_10 : am_code tn_G 20 10 = some (.aload_n 0, 1, 0) := am_code_of (M := tn_m20) rfl (by decide +kernel) rfl rfl
theorem kc_20_11 : am_code tn_G 20 11 = some (.getfield 18, 3, 0) := am_code_of (M := tn_m20) rfl (by decide +kernel) rfl rfl
theorem kf_20_18 : am_fld tn_G 20 18 = some (1, 2) := by decide +kernel
theorem kc_20_14 : am_code tn_G 20 14 = some (.aload_n 0, 1, 0) := am_code_of (M := tn_m20) rfl (by decide +kernel) rfl rfl
theorem kc_20_15 : am_code tn_G 20 15 = some (.getfield 25, 3, 0) := am_code_of (M := tn_m20) rfl (by decide +kernel) rfl rfl
theorem kc_20_18 : am_code tn_G 20 18 = some (.iconst 3, 1, 0) := am_code_of (M := tn_m20) rfl (by decide +kernel) rfl rfl
theorem kc_20_19 : am_code tn_G 20 19 = some (.imul, 1, 0) := am_code_of (M := tn_m20) rfl (by decide +kernel) rfl rfl
theorem kc_20_20 : am_code tn_G 20 20 = some (.iload_n 2, 1, 0) := am_code_of (M := tn_m20) rfl (by decide +kernel) rfl rfl
theorem kc_20_21 : am_code tn_G 20 21 = some (.iastore, 1, 0) := am_code_of (M := tn_m20) rfl (by decide +kernel) rfl rfl
theorem kc_20_22 : am_code tn_G 20 22 = some (.aload_n 0, 1, 0) := am_code_of (M := tn_m20) rfl (by decide +kernel) rfl rfl
theorem kc_20_23 : am_code tn_G 20 23 = some (.getfield 18, 3, 0) := am_code_of (M := tn_m20) rfl (by decide +kernel) rfl rfl
theorem kc_20_26 : am_code tn_G 20 26 = some (.aload_n 0, 1, 0) := am_code_of (M := tn_m20) rfl (by decide +kernel) rfl rfl
theorem kc_20_27 : am_code tn_G 20 27 = some (.getfield 25, 3, 0) := am_code_of (M := tn_m20) rfl (by decide +kernel) rfl rfl
theorem kc_20_30 : am_code tn_G 20 30 = some (.iconst 3, 1, 0) := am_code_of (M := tn_m20) rfl (by decide +kernel) rfl rfl
theorem kc_20_31 : am_code tn_G 20 31 = some (.imul, 1, 0) := am_code_of (M := tn_m20) rfl (by decide +kernel) rfl rfl
theorem kc_20_32 : am_code tn_G 20 32 = some (.iconst 1, 1, 0) := am_code_of (M := tn_m20) rfl (by decide +kernel) rfl rfl
theorem kc_20_33 : am_code tn_G 20 33 = some (.iadd, 1, 0) := am_code_of (M := tn_m20) rfl (by decide +kernel) rfl rfl
theorem kc_20_34 : am_code tn_G 20 34 = some (.iload_n 3, 1, 0) := am_code_of (M := tn_m20) rfl (by decide +kernel) rfl rfl
theorem kc_20_35 : am_code tn_G 20 35 = some (.iastore, 1, 0) := am_code_of (M := tn_m20) rfl (by decide +kernel) rfl rfl
theorem kc_20_36 : am_code tn_G 20 36 = some (.aload_n 0, 1, 0) := am_code_of (M := tn_m20) rfl (by decide +kernel) rfl rfl
theorem kc_20_37 : am_code tn_G 20 37 = some (.getfield 18, 3, 0) := am_code_of (M := tn_m20) rfl (by decide +kernel) rfl rfl
theorem kc_20_40 : am_code tn_G 20 40 = some (.aload_n 0, 1, 0) := am_code_of (M := tn_m20) rfl (by decide +kernel) rfl rfl
theorem kc_20_41 : am_code tn_G 20 41 = some (.getfield 25, 3, 0) := am_code_of (M := tn_m20) rfl (by decide +kernel) rfl rfl
theorem kc_20_44 : am_code tn_G 20 44 = some (.iconst 3, 1, 0) := am_code_of (M := tn_m20) rfl (by decide +kernel) rfl rfl
theorem kc_20_45 : am_code tn_G 20 45 = some (.imul, 1, 0) := am_code_of (M := tn_m20) rfl (by decide +kernel) rfl rfl
theorem kc_20_46 : am_code tn_G 20 46 = some (.iconst 2, 1, 0) := am_code_of (M := tn_m20) rfl (by decide +kernel) rfl rfl
theorem kc_20_47 : am_code tn_G 20 47 = some (.iadd, 1, 0) := am_code_of (M := tn_m20) rfl (by decide +kernel) rfl rfl
theorem kc_20_48 : am_code tn_G 20 48 = some (.iload 4, 2, 0) := am_code_of (M := tn_m20) rfl (by decide +kernel) rfl rfl
theorem kc_20_50 : am_code tn_G 20 50 = some (.iastore, 1, 0) := am_code_of (M := tn_m20) rfl (by decide +kernel) rfl rfl
theorem kc_20_51 : am_code tn_G 20 51 = some (.aload_n 0, 1, 0) := am_code_of (M := tn_m20) rfl (by decide +kernel) rfl rfl
theorem kc_20_52 : am_code tn_G 20 52 = some (.dup, 1, 0) := am_code_of (M := tn_m20) rfl (by decide +kernel) rfl rfl
theorem kc_20_53 : am_code tn_G 20 53 = some (.getfield 25, 3, 0) := am_code_of (M := tn_m20) rfl (by decide +kernel) rfl rfl
theorem kc_20_56 : am_code tn_G 20 56 = some (.iconst 1, 1, 0) := am_code_of (M := tn_m20) rfl (by decide +kernel) rfl rfl
theorem kc_20_57 : am_code tn_G 20 57 = some (.iadd, 1, 0) := am_code_of (M := tn_m20) rfl (by decide +kernel) rfl rfl
theorem kc_20_58 : am_code tn_G 20 58 = some (.putfield 25, 3, 0) := am_code_of (M := tn_m20) rfl (by decide +kernel) rfl rfl
theorem kc_20_61 : am_code tn_G 20 61 = some (.aload_n 0, 1, 0) := am_code_of (M := tn_m20) rfl (by decide +kernel) rfl rfl
theorem kc_20_62 : am_code tn_G 20 62 = some (.getfield 25, 3, 0) := am_code_of (M := tn_m20) rfl (by decide +kernel) rfl rfl
theorem kc_20_65 : am_code tn_G 20 65 = some (.iconst 1, 1, 0) := am_code_of (M := tn_m20) rfl (by decide +kernel) rfl rfl
theorem kc_20_66 : am_code tn_G 20 66 = some (.isub, 1, 0) := am_code_of (M := tn_m20) rfl (by decide +kernel) rfl rfl
theorem kc_20_67 : am_code tn_G 20 67 = some (.ireturn, 1, 0) := am_code_of (M := tn_m20) rfl (by decide +kernel) rfl rfl
-- 21: TermNet$Told.partsOfTerm(I)I
theorem kl_21 : am_ml tn_G 21 = 2 := rfl
theorem ko_21 : am_oc tn_G 21 = 1 := rfl
theorem kn_21 : am_nc tn_G 21 = 0 := rfl
theorem kr_21 : am_rt tn_G 21 = 1 := rfl
theorem kc_21_0 : am_code tn_G 21 0 = some (.aload_n 0, 1, 0) := am_code_of (M := tn_m21) rfl (by decide +kernel) rfl rfl
theorem kc_21_1 : am_code tn_G 21 1 = some (.getfield 15, 3, 0) := am_code_of (M := tn_m21) rfl (by decide +kernel) rfl rfl
theorem kf_21_15 : am_fld tn_G 21 15 = some (1, 1) := by decide +kernel
theorem kc_21_4 : am_code tn_G 21 4 = some (.iload_n 1, 1, 0) := am_code_of (M := tn_m21) rfl (by decide +kernel) rfl rfl
theorem kc_21_5 : am_code tn_G 21 5 = some (.iaload, 1, 0) := am_code_of (M := tn_m21) rfl (by decide +kernel) rfl rfl
theorem kc_21_6 : am_code tn_G 21 6 = some (.iconst (-1), 1, 0) := am_code_of (M := tn_m21) rfl (by decide +kernel) rfl rfl
theorem kc_21_7 : am_code tn_G 21 7 = some (.if_icmp .ne 7, 3, 14) := am_code_of (M := tn_m21) rfl (by decide +kernel) rfl (by decide +kernel)
theorem kc_21_10 : am_code tn_G 21 10 = some (.iconst 0, 1, 0) := am_code_of (M := tn_m21) rfl (by decide +kernel) rfl rfl
theorem kc_21_11 : am_code tn_G 21 11 = some (.goto 14, 3, 25) := am_code_of (M := tn_m21) rfl (by decide +kernel) rfl (by decide +kernel)
theorem kc_21_14 : am_code tn_G 21 14 = some (.aload_n 0, 1, 0) := am_code_of (M := tn_m21) rfl (by decide +kernel) rfl rfl
theorem kc_21_15 : am_code tn_G 21 15 = some (.getfield 9, 3, 0) := am_code_of (M := tn_m21) rfl (by decide +kernel) rfl rfl
theorem kf_21_9 : am_fld tn_G 21 9 = some (1, 0) := by decide +kernel
theorem kc_21_18 : am_code tn_G 21 18 = some (.aload_n 0, 1, 0) := am_code_of (M := tn_m21) rfl (by decide +kernel) rfl rfl
theorem kc_21_19 : am_code tn_G 21 19 = some (.getfield 15, 3, 0) := am_code_of (M := tn_m21) rfl (by decide +kernel) rfl rfl
theorem kc_21_22 : am_code tn_G 21 22 = some (.iload_n 1, 1, 0) := am_code_of (M := tn_m21) rfl (by decide +kernel) rfl rfl
theorem kc_21_23 : am_code tn_G 21 23 = some (.iaload, 1, 0) := am_code_of (M := tn_m21) rfl (by decide +kernel) rfl rfl
theorem kc_21_24 : am_code tn_G 21 24 = some (.iaload, 1, 0) := am_code_of (M := tn_m21) rfl (by decide +kernel) rfl rfl
theorem kc_21_25 : am_code tn_G 21 25 = some (.ireturn, 1, 0) := am_code_of (M := tn_m21) rfl (by decide +kernel) rfl rfl
-- 22: TermNet$Told.partOfTerm(II)I
theorem kl_22 : am_ml tn_G 22 = 3 := rfl
theorem ko_22 : am_oc tn_G 22 = 1 := rfl
theorem kn_22 : am_nc tn_G 22 = 0 := rfl
theorem kr_22 : am_rt tn_G 22 = 1 := rfl
theorem kc_22_0 : am_code tn_G 22 0 = some (.aload_n 0, 1, 0) := am_code_of (M := tn_m22) rfl (by decide +kernel) rfl rfl
theorem kc_22_1 : am_code tn_G 22 1 = some (.getfield 18, 3, 0) := am_code_of (M := tn_m22) rfl (by decide +kernel) rfl rfl
theorem kf_22_18 : am_fld tn_G 22 18 = some (1, 2) := by decide +kernel
theorem kc_22_4 : am_code tn_G 22 4 = some (.iload_n 1, 1, 0) := am_code_of (M := tn_m22) rfl (by decide +kernel) rfl rfl
theorem kc_22_5 : am_code tn_G 22 5 = some (.iconst 3, 1, 0) := am_code_of (M := tn_m22) rfl (by decide +kernel) rfl rfl
theorem kc_22_6 : am_code tn_G 22 6 = some (.imul, 1, 0) := am_code_of (M := tn_m22) rfl (by decide +kernel) rfl rfl
theorem kc_22_7 : am_code tn_G 22 7 = some (.iload_n 2, 1, 0) := am_code_of (M := tn_m22) rfl (by decide +kernel) rfl rfl
theorem kc_22_8 : am_code tn_G 22 8 = some (.iadd, 1, 0) := am_code_of (M := tn_m22) rfl (by decide +kernel) rfl rfl
theorem kc_22_9 : am_code tn_G 22 9 = some (.iaload, 1, 0) := am_code_of (M := tn_m22) rfl (by decide +kernel) rfl rfl
theorem kc_22_10 : am_code tn_G 22 10 = some (.ireturn, 1, 0) := am_code_of (M := tn_m22) rfl (by decide +kernel) rfl rfl
-- 23: TermNet$Twins.joinAll(LTermNet$Walk;)V
theorem kl_23 : am_ml tn_G 23 = 4 := rfl
theorem ko_23 : am_oc tn_G 23 = 2 := rfl
theorem kn_23 : am_nc tn_G 23 = 0 := rfl
theorem kr_23 : am_rt tn_G 23 = 0 := rfl
theorem kc_23_0 : am_code tn_G 23 0 = some (.aload_n 0, 1, 0) := am_code_of (M := tn_m23) rfl (by decide +kernel) rfl rfl
theorem kc_23_1 : am_code tn_G 23 1 = some (.getfield 11, 3, 0) := am_code_of (M := tn_m23) rfl (by decide +kernel) rfl rfl
theorem kf_23_11 : am_fld tn_G 23 11 = some (2, 1) := by decide +kernel
theorem kc_23_4 : am_code tn_G 23 4 = some (.iconst (-1), 1, 0) := am_code_of (M := tn_m23) rfl (by decide +kernel) rfl rfl
theorem kc_23_5 : am_code tn_G 23 5 = some (.invokestatic 25, 3, 0) := am_code_of (M := tn_m23) rfl (by decide +kernel) rfl rfl
theorem ka_23_25 : am_cal tn_G 23 25 = some (2, 78, 2) := by decide +kernel
theorem kc_23_8 : am_code tn_G 23 8 = some (.iconst 0, 1, 0) := am_code_of (M := tn_m23) rfl (by decide +kernel) rfl rfl
theorem kc_23_9 : am_code tn_G 23 9 = some (.istore_n 2, 1, 0) := am_code_of (M := tn_m23) rfl (by decide +kernel) rfl rfl
theorem kc_23_10 : am_code tn_G 23 10 = some (.iload_n 2, 1, 0) := am_code_of (M := tn_m23) rfl (by decide +kernel) rfl rfl
theorem kc_23_11 : am_code tn_G 23 11 = some (.aload_n 1, 1, 0) := am_code_of (M := tn_m23) rfl (by decide +kernel) rfl rfl
theorem kc_23_12 : am_code tn_G 23 12 = some (.getfield 31, 3, 0) := am_code_of (M := tn_m23) rfl (by decide +kernel) rfl rfl
theorem kf_23_31 : am_fld tn_G 23 31 = some (3, 7) := by decide +kernel
theorem kc_23_15 : am_code tn_G 23 15 = some (.if_icmp .ge 62, 3, 77) := am_code_of (M := tn_m23) rfl (by decide +kernel) rfl (by decide +kernel)
theorem kc_23_18 : am_code tn_G 23 18 = some (.aload_n 1, 1, 0) := am_code_of (M := tn_m23) rfl (by decide +kernel) rfl rfl
theorem kc_23_19 : am_code tn_G 23 19 = some (.getfield 37, 3, 0) := am_code_of (M := tn_m23) rfl (by decide +kernel) rfl rfl
theorem kf_23_37 : am_fld tn_G 23 37 = some (3, 4) := by decide +kernel
theorem kc_23_22 : am_code tn_G 23 22 = some (.iload_n 2, 1, 0) := am_code_of (M := tn_m23) rfl (by decide +kernel) rfl rfl
theorem kc_23_23 : am_code tn_G 23 23 = some (.iaload, 1, 0) := am_code_of (M := tn_m23) rfl (by decide +kernel) rfl rfl
theorem kc_23_24 : am_code tn_G 23 24 = some (.istore_n 3, 1, 0) := am_code_of (M := tn_m23) rfl (by decide +kernel) rfl rfl
theorem kc_23_25 : am_code tn_G 23 25 = some (.aload_n 0, 1, 0) := am_code_of (M := tn_m23) rfl (by decide +kernel) rfl rfl
theorem kc_23_26 : am_code tn_G 23 26 = some (.getfield 18, 3, 0) := am_code_of (M := tn_m23) rfl (by decide +kernel) rfl rfl
theorem kf_23_18 : am_fld tn_G 23 18 = some (2, 3) := by decide +kernel
theorem kc_23_29 : am_code tn_G 23 29 = some (.iload_n 3, 1, 0) := am_code_of (M := tn_m23) rfl (by decide +kernel) rfl rfl
theorem kc_23_30 : am_code tn_G 23 30 = some (.aload_n 0, 1, 0) := am_code_of (M := tn_m23) rfl (by decide +kernel) rfl rfl
theorem kc_23_31 : am_code tn_G 23 31 = some (.iload_n 3, 1, 0) := am_code_of (M := tn_m23) rfl (by decide +kernel) rfl rfl
theorem kc_23_32 : am_code tn_G 23 32 = some (.invokevirtual 40, 3, 0) := am_code_of (M := tn_m23) rfl (by decide +kernel) rfl rfl
theorem ka_23_40 : am_cal tn_G 23 40 = some (0, 24, 1) := by decide +kernel
theorem kc_23_35 : am_code tn_G 23 35 = some (.iastore, 1, 0) := am_code_of (M := tn_m23) rfl (by decide +kernel) rfl rfl
theorem kc_23_36 : am_code tn_G 23 36 = some (.aload_n 0, 1, 0) := am_code_of (M := tn_m23) rfl (by decide +kernel) rfl rfl
theorem kc_23_37 : am_code tn_G 23 37 = some (.getfield 21, 3, 0) := am_code_of (M := tn_m23) rfl (by decide +kernel) rfl rfl
theorem kf_23_21 : am_fld tn_G 23 21 = some (2, 0) := by decide +kernel
theorem kc_23_40 : am_code tn_G 23 40 = some (.iload_n 3, 1, 0) := am_code_of (M := tn_m23) rfl (by decide +kernel) rfl rfl
theorem kc_23_41 : am_code tn_G 23 41 = some (.invokevirtual 44, 3, 0) := am_code_of (M := tn_m23) rfl (by decide +kernel) rfl rfl
theorem ka_23_44 : am_cal tn_G 23 44 = some (0, 15, 1) := by decide +kernel
theorem kc_23_44 : am_code tn_G 23 44 = some (.ifCond .eq 27, 3, 71) := am_code_of (M := tn_m23) rfl (by decide +kernel) rfl (by decide +kernel)
theorem kc_23_47 : am_code tn_G 23 47 = some (.aload_n 0, 1, 0) := am_code_of (M := tn_m23) rfl (by decide +kernel) rfl rfl
theorem kc_23_48 : am_code tn_G 23 48 = some (.aload_n 0, 1, 0) := am_code_of (M := tn_m23) rfl (by decide +kernel) rfl rfl
theorem kc_23_49 : am_code tn_G 23 49 = some (.getfield 21, 3, 0) := am_code_of (M := tn_m23) rfl (by decide +kernel) rfl rfl
theorem kc_23_52 : am_code tn_G 23 52 = some (.iload_n 3, 1, 0) := am_code_of (M := tn_m23) rfl (by decide +kernel) rfl rfl
theorem kc_23_53 : am_code tn_G 23 53 = some (.invokevirtual 50, 3, 0) := am_code_of (M := tn_m23) rfl (by decide +kernel) rfl rfl
theorem ka_23_50 : am_cal tn_G 23 50 = some (0, 9, 1) := by decide +kernel
theorem kc_23_56 : am_code tn_G 23 56 = some (.aload_n 0, 1, 0) := am_code_of (M := tn_m23) rfl (by decide +kernel) rfl rfl
theorem kc_23_57 : am_code tn_G 23 57 = some (.getfield 18, 3, 0) := am_code_of (M := tn_m23) rfl (by decide +kernel) rfl rfl
theorem kc_23_60 : am_code tn_G 23 60 = some (.iload_n 3, 1, 0) := am_code_of (M := tn_m23) rfl (by decide +kernel) rfl rfl
theorem kc_23_61 : am_code tn_G 23 61 = some (.iaload, 1, 0) := am_code_of (M := tn_m23) rfl (by decide +kernel) rfl rfl
theorem kc_23_62 : am_code tn_G 23 62 = some (.sipush 401, 3, 0) := am_code_of (M := tn_m23) rfl (by decide +kernel) rfl rfl
theorem kc_23_65 : am_code tn_G 23 65 = some (.invokestatic 53, 3, 0) := am_code_of (M := tn_m23) rfl (by decide +kernel) rfl rfl
theorem ka_23_53 : am_cal tn_G 23 53 = some (2, 77, 2) := by decide +kernel
theorem kc_23_68 : am_code tn_G 23 68 = some (.invokevirtual 59, 3, 0) := am_code_of (M := tn_m23) rfl (by decide +kernel) rfl rfl
theorem ka_23_59 : am_cal tn_G 23 59 = some (0, 25, 2) := by decide +kernel
theorem kc_23_71 : am_code tn_G 23 71 = some (.iinc 2 1, 3, 0) := am_code_of (M := tn_m23) rfl (by decide +kernel) rfl rfl
theorem kc_23_74 : am_code tn_G 23 74 = some (.goto (-64), 3, 10) := am_code_of (M := tn_m23) rfl (by decide +kernel) rfl (by decide +kernel)
theorem kc_23_77 : am_code tn_G 23 77 = some (.return_, 1, 0) := am_code_of (M := tn_m23) rfl (by decide +kernel) rfl rfl
-- 24: TermNet$Twins.printOf(I)I
theorem kl_24 : am_ml tn_G 24 = 4 := rfl
theorem ko_24 : am_oc tn_G 24 = 2 := rfl
theorem kn_24 : am_nc tn_G 24 = 0 := rfl
theorem kr_24 : am_rt tn_G 24 = 1 := rfl
theorem kc_24_0 : am_code tn_G 24 0 = some (.aload_n 0, 1, 0) := am_code_of (M := tn_m24) rfl (by decide +kernel) rfl rfl
theorem kc_24_1 : am_code tn_G 24 1 = some (.getfield 21, 3, 0) := am_code_of (M := tn_m24) rfl (by decide +kernel) rfl rfl
theorem kf_24_21 : am_fld tn_G 24 21 = some (2, 0) := by decide +kernel
theorem kc_24_4 : am_code tn_G 24 4 = some (.iload_n 1, 1, 0) := am_code_of (M := tn_m24) rfl (by decide +kernel) rfl rfl
theorem kc_24_5 : am_code tn_G 24 5 = some (.invokevirtual 44, 3, 0) := am_code_of (M := tn_m24) rfl (by decide +kernel) rfl rfl
theorem ka_24_44 : am_cal tn_G 24 44 = some (0, 15, 1) := by decide +kernel
theorem kc_24_8 : am_code tn_G 24 8 = some (.ifCond .ne 5, 3, 13) := am_code_of (M := tn_m24) rfl (by decide +kernel) rfl (by decide +kernel)
theorem kc_24_11 : am_code tn_G 24 11 = some (.iload_n 1, 1, 0) := am_code_of (M := tn_m24) rfl (by decide +kernel) rfl rfl
theorem kc_24_12 : am_code tn_G 24 12 = some (.ireturn, 1, 0) := am_code_of (M := tn_m24) rfl (by decide +kernel) rfl rfl
theorem kc_24_13 : am_code tn_G 24 13 = some (.iconst (-1), 1, 0) := am_code_of (M := tn_m24) rfl (by decide +kernel) rfl rfl
theorem kc_24_14 : am_code tn_G 24 14 = some (.aload_n 0, 1, 0) := am_code_of (M := tn_m24) rfl (by decide +kernel) rfl rfl
theorem kc_24_15 : am_code tn_G 24 15 = some (.getfield 21, 3, 0) := am_code_of (M := tn_m24) rfl (by decide +kernel) rfl rfl
theorem kc_24_18 : am_code tn_G 24 18 = some (.getfield 63, 3, 0) := am_code_of (M := tn_m24) rfl (by decide +kernel) rfl rfl
theorem kf_24_63 : am_fld tn_G 24 63 = some (0, 0) := by decide +kernel
theorem kc_24_21 : am_code tn_G 24 21 = some (.getfield 67, 3, 0) := am_code_of (M := tn_m24) rfl (by decide +kernel) rfl rfl
theorem kf_24_67 : am_fld tn_G 24 67 = some (1, 1) := by decide +kernel
theorem kc_24_24 : am_code tn_G 24 24 = some (.aload_n 0, 1, 0) := am_code_of (M := tn_m24) rfl (by decide +kernel) rfl rfl
theorem kc_24_25 : am_code tn_G 24 25 = some (.getfield 21, 3, 0) := am_code_of (M := tn_m24) rfl (by decide +kernel) rfl rfl
theorem kc_24_28 : am_code tn_G 24 28 = some (.iload_n 1, 1, 0) := am_code_of (M := tn_m24) rfl (by decide +kernel) rfl rfl
theorem kc_24_29 : am_code tn_G 24 29 = some (.invokevirtual 50, 3, 0) := am_code_of (M := tn_m24) rfl (by decide +kernel) rfl rfl
theorem ka_24_50 : am_cal tn_G 24 50 = some (0, 9, 1) := by decide +kernel
theorem kc_24_32 : am_code tn_G 24 32 = some (.iaload, 1, 0) := am_code_of (M := tn_m24) rfl (by decide +kernel) rfl rfl
theorem kc_24_33 : am_code tn_G 24 33 = some (.isub, 1, 0) := am_code_of (M := tn_m24) rfl (by decide +kernel) rfl rfl
theorem kc_24_34 : am_code tn_G 24 34 = some (.istore_n 2, 1, 0) := am_code_of (M := tn_m24) rfl (by decide +kernel) rfl rfl
theorem kc_24_35 : am_code tn_G 24 35 = some (.iconst 0, 1, 0) := am_code_of (M := tn_m24) rfl (by decide +kernel) rfl rfl
theorem kc_24_36 : am_code tn_G 24 36 = some (.istore_n 3, 1, 0) := am_code_of (M := tn_m24) rfl (by decide +kernel) rfl rfl
theorem kc_24_37 : am_code tn_G 24 37 = some (.iload_n 3, 1, 0) := am_code_of (M := tn_m24) rfl (by decide +kernel) rfl rfl
theorem kc_24_38 : am_code tn_G 24 38 = some (.aload_n 0, 1, 0) := am_code_of (M := tn_m24) rfl (by decide +kernel) rfl rfl
theorem kc_24_39 : am_code tn_G 24 39 = some (.getfield 21, 3, 0) := am_code_of (M := tn_m24) rfl (by decide +kernel) rfl rfl
theorem kc_24_42 : am_code tn_G 24 42 = some (.iload_n 1, 1, 0) := am_code_of (M := tn_m24) rfl (by decide +kernel) rfl rfl
theorem kc_24_43 : am_code tn_G 24 43 = some (.invokevirtual 72, 3, 0) := am_code_of (M := tn_m24) rfl (by decide +kernel) rfl rfl
theorem ka_24_72 : am_cal tn_G 24 72 = some (0, 11, 1) := by decide +kernel
theorem kc_24_46 : am_code tn_G 24 46 = some (.if_icmp .ge 29, 3, 75) := am_code_of (M := tn_m24) rfl (by decide +kernel) rfl (by decide +kernel)
theorem kc_24_49 : am_code tn_G 24 49 = some (.iload_n 2, 1, 0) := am_code_of (M := tn_m24) rfl (by decide +kernel) rfl rfl
theorem kc_24_50 : am_code tn_G 24 50 = some (.ldc 75, 2, 0) := am_code_of (M := tn_m24) rfl (by decide +kernel) rfl rfl
theorem ki_24_75 : am_ki tn_G 24 75 = some 1000003 := by decide +kernel
theorem kc_24_52 : am_code tn_G 24 52 = some (.imul, 1, 0) := am_code_of (M := tn_m24) rfl (by decide +kernel) rfl rfl
theorem kc_24_53 : am_code tn_G 24 53 = some (.aload_n 0, 1, 0) := am_code_of (M := tn_m24) rfl (by decide +kernel) rfl rfl
theorem kc_24_54 : am_code tn_G 24 54 = some (.getfield 18, 3, 0) := am_code_of (M := tn_m24) rfl (by decide +kernel) rfl rfl
theorem kf_24_18 : am_fld tn_G 24 18 = some (2, 3) := by decide +kernel
theorem kc_24_57 : am_code tn_G 24 57 = some (.aload_n 0, 1, 0) := am_code_of (M := tn_m24) rfl (by decide +kernel) rfl rfl
theorem kc_24_58 : am_code tn_G 24 58 = some (.getfield 21, 3, 0) := am_code_of (M := tn_m24) rfl (by decide +kernel) rfl rfl
theorem kc_24_61 : am_code tn_G 24 61 = some (.iload_n 1, 1, 0) := am_code_of (M := tn_m24) rfl (by decide +kernel) rfl rfl
theorem kc_24_62 : am_code tn_G 24 62 = some (.iload_n 3, 1, 0) := am_code_of (M := tn_m24) rfl (by decide +kernel) rfl rfl
theorem kc_24_63 : am_code tn_G 24 63 = some (.invokevirtual 76, 3, 0) := am_code_of (M := tn_m24) rfl (by decide +kernel) rfl rfl
theorem ka_24_76 : am_cal tn_G 24 76 = some (0, 12, 2) := by decide +kernel
theorem kc_24_66 : am_code tn_G 24 66 = some (.iaload, 1, 0) := am_code_of (M := tn_m24) rfl (by decide +kernel) rfl rfl
theorem kc_24_67 : am_code tn_G 24 67 = some (.iadd, 1, 0) := am_code_of (M := tn_m24) rfl (by decide +kernel) rfl rfl
theorem kc_24_68 : am_code tn_G 24 68 = some (.istore_n 2, 1, 0) := am_code_of (M := tn_m24) rfl (by decide +kernel) rfl rfl
theorem kc_24_69 : am_code tn_G 24 69 = some (.iinc 3 1, 3, 0) := am_code_of (M := tn_m24) rfl (by decide +kernel) rfl rfl
theorem kc_24_72 : am_code tn_G 24 72 = some (.goto (-35), 3, 37) := am_code_of (M := tn_m24) rfl (by decide +kernel) rfl (by decide +kernel)
theorem kc_24_75 : am_code tn_G 24 75 = some (.iload_n 2, 1, 0) := am_code_of (M := tn_m24) rfl (by decide +kernel) rfl rfl
theorem kc_24_76 : am_code tn_G 24 76 = some (.ireturn, 1, 0) := am_code_of (M := tn_m24) rfl (by decide +kernel) rfl rfl
-- 25: TermNet$Twins.joinOrKeep(II)V
theorem kl_25 : am_ml tn_G 25 = 5 := rfl
theorem ko_25 : am_oc tn_G 25 = 2 := rfl
theorem kn_25 : am_nc tn_G 25 = 0 := rfl
theorem kr_25 : am_rt tn_G 25 = 0 := rfl
theorem kc_25_0 : am_code tn_G 25 0 = some (.aload_n 0, 1, 0) := am_code_of (M := tn_m25) rfl (by decide +kernel) rfl rfl
theorem kc_25_1 : am_code tn_G 25 1 = some (.getfield 11, 3, 0) := am_code_of (M := tn_m25) rfl (by decide +kernel) rfl rfl
theorem kf_25_11 : am_fld tn_G 25 11 = some (2, 1) := by decide +kernel
theorem kc_25_4 : am_code tn_G 25 4 = some (.iload_n 2, 1, 0) := am_code_of (M := tn_m25) rfl (by decide +kernel) rfl rfl
theorem kc_25_5 : am_code tn_G 25 5 = some (.iaload, 1, 0) := am_code_of (M := tn_m25) rfl (by decide +kernel) rfl rfl
theorem kc_25_6 : am_code tn_G 25 6 = some (.istore_n 3, 1, 0) := am_code_of (M := tn_m25) rfl (by decide +kernel) rfl rfl
theorem kc_25_7 : am_code tn_G 25 7 = some (.iconst 0, 1, 0) := am_code_of (M := tn_m25) rfl (by decide +kernel) rfl rfl
theorem kc_25_8 : am_code tn_G 25 8 = some (.istore 4, 2, 0) := am_code_of (M := tn_m25) rfl (by decide +kernel) rfl rfl
theorem kc_25_10 : am_code tn_G 25 10 = some (.iload 4, 2, 0) := am_code_of (M := tn_m25) rfl (by decide +kernel) rfl rfl
theorem kc_25_12 : am_code tn_G 25 12 = some (.sipush 400, 3, 0) := am_code_of (M := tn_m25) rfl (by decide +kernel) rfl rfl
theorem kc_25_15 : am_code tn_G 25 15 = some (.if_icmp .ge 43, 3, 58) := am_code_of (M := tn_m25) rfl (by decide +kernel) rfl (by decide +kernel)
theorem kc_25_18 : am_code tn_G 25 18 = some (.iload_n 3, 1, 0) := am_code_of (M := tn_m25) rfl (by decide +kernel) rfl rfl
theorem kc_25_19 : am_code tn_G 25 19 = some (.iconst (-1), 1, 0) := am_code_of (M := tn_m25) rfl (by decide +kernel) rfl rfl
theorem kc_25_20 : am_code tn_G 25 20 = some (.if_icmp .eq 38, 3, 58) := am_code_of (M := tn_m25) rfl (by decide +kernel) rfl (by decide +kernel)
theorem kc_25_23 : am_code tn_G 25 23 = some (.aload_n 0, 1, 0) := am_code_of (M := tn_m25) rfl (by decide +kernel) rfl rfl
theorem kc_25_24 : am_code tn_G 25 24 = some (.getfield 21, 3, 0) := am_code_of (M := tn_m25) rfl (by decide +kernel) rfl rfl
theorem kf_25_21 : am_fld tn_G 25 21 = some (2, 0) := by decide +kernel
theorem kc_25_27 : am_code tn_G 25 27 = some (.iload_n 1, 1, 0) := am_code_of (M := tn_m25) rfl (by decide +kernel) rfl rfl
theorem kc_25_28 : am_code tn_G 25 28 = some (.iload_n 3, 1, 0) := am_code_of (M := tn_m25) rfl (by decide +kernel) rfl rfl
theorem kc_25_29 : am_code tn_G 25 29 = some (.invokevirtual 79, 3, 0) := am_code_of (M := tn_m25) rfl (by decide +kernel) rfl rfl
theorem ka_25_79 : am_cal tn_G 25 79 = some (0, 3, 2) := by decide +kernel
theorem kc_25_32 : am_code tn_G 25 32 = some (.ifCond .eq 13, 3, 45) := am_code_of (M := tn_m25) rfl (by decide +kernel) rfl (by decide +kernel)
theorem kc_25_35 : am_code tn_G 25 35 = some (.aload_n 0, 1, 0) := am_code_of (M := tn_m25) rfl (by decide +kernel) rfl rfl
theorem kc_25_36 : am_code tn_G 25 36 = some (.getfield 21, 3, 0) := am_code_of (M := tn_m25) rfl (by decide +kernel) rfl rfl
theorem kc_25_39 : am_code tn_G 25 39 = some (.iload_n 1, 1, 0) := am_code_of (M := tn_m25) rfl (by decide +kernel) rfl rfl
theorem kc_25_40 : am_code tn_G 25 40 = some (.iload_n 3, 1, 0) := am_code_of (M := tn_m25) rfl (by decide +kernel) rfl rfl
theorem kc_25_41 : am_code tn_G 25 41 = some (.invokevirtual 83, 3, 0) := am_code_of (M := tn_m25) rfl (by decide +kernel) rfl rfl
theorem ka_25_83 : am_cal tn_G 25 83 = some (0, 4, 2) := by decide +kernel
theorem kc_25_44 : am_code tn_G 25 44 = some (.return_, 1, 0) := am_code_of (M := tn_m25) rfl (by decide +kernel) rfl rfl
theorem kc_25_45 : am_code tn_G 25 45 = some (.aload_n 0, 1, 0) := am_code_of (M := tn_m25) rfl (by decide +kernel) rfl rfl
theorem kc_25_46 : am_code tn_G 25 46 = some (.getfield 15, 3, 0) := am_code_of (M := tn_m25) rfl (by decide +kernel) rfl rfl
theorem kf_25_15 : am_fld tn_G 25 15 = some (2, 2) := by decide +kernel
theorem kc_25_49 : am_code tn_G 25 49 = some (.iload_n 3, 1, 0) := am_code_of (M := tn_m25) rfl (by decide +kernel) rfl rfl
theorem kc_25_50 : am_code tn_G 25 50 = some (.iaload, 1, 0) := am_code_of (M := tn_m25) rfl (by decide +kernel) rfl rfl
theorem kc_25_51 : am_code tn_G 25 51 = some (.istore_n 3, 1, 0) := am_code_of (M := tn_m25) rfl (by decide +kernel) rfl rfl
theorem kc_25_52 : am_code tn_G 25 52 = some (.iinc 4 1, 3, 0) := am_code_of (M := tn_m25) rfl (by decide +kernel) rfl rfl
theorem kc_25_55 : am_code tn_G 25 55 = some (.goto (-45), 3, 10) := am_code_of (M := tn_m25) rfl (by decide +kernel) rfl (by decide +kernel)
theorem kc_25_58 : am_code tn_G 25 58 = some (.aload_n 0, 1, 0) := am_code_of (M := tn_m25) rfl (by decide +kernel) rfl rfl
theorem kc_25_59 : am_code tn_G 25 59 = some (.getfield 15, 3, 0) := am_code_of (M := tn_m25) rfl (by decide +kernel) rfl rfl
theorem kc_25_62 : am_code tn_G 25 62 = some (.iload_n 1, 1, 0) := am_code_of (M := tn_m25) rfl (by decide +kernel) rfl rfl
theorem kc_25_63 : am_code tn_G 25 63 = some (.aload_n 0, 1, 0) := am_code_of (M := tn_m25) rfl (by decide +kernel) rfl rfl
theorem kc_25_64 : am_code tn_G 25 64 = some (.getfield 11, 3, 0) := am_code_of (M := tn_m25) rfl (by decide +kernel) rfl rfl
theorem kc_25_67 : am_code tn_G 25 67 = some (.iload_n 2, 1, 0) := am_code_of (M := tn_m25) rfl (by decide +kernel) rfl rfl
theorem kc_25_68 : am_code tn_G 25 68 = some (.iaload, 1, 0) := am_code_of (M := tn_m25) rfl (by decide +kernel) rfl rfl
theorem kc_25_69 : am_code tn_G 25 69 = some (.iastore, 1, 0) := am_code_of (M := tn_m25) rfl (by decide +kernel) rfl rfl
theorem kc_25_70 : am_code tn_G 25 70 = some (.aload_n 0, 1, 0) := am_code_of (M := tn_m25) rfl (by decide +kernel) rfl rfl
theorem kc_25_71 : am_code tn_G 25 71 = some (.getfield 11, 3, 0) := am_code_of (M := tn_m25) rfl (by decide +kernel) rfl rfl
theorem kc_25_74 : am_code tn_G 25 74 = some (.iload_n 2, 1, 0) := am_code_of (M := tn_m25) rfl (by decide +kernel) rfl rfl
theorem kc_25_75 : am_code tn_G 25 75 = some (.iload_n 1, 1, 0) := am_code_of (M := tn_m25) rfl (by decide +kernel) rfl rfl
theorem kc_25_76 : am_code tn_G 25 76 = some (.iastore, 1, 0) := am_code_of (M := tn_m25) rfl (by decide +kernel) rfl rfl
theorem kc_25_77 : am_code tn_G 25 77 = some (.return_, 1, 0) := am_code_of (M := tn_m25) rfl (by decide +kernel) rfl rfl
-- 26: TermNet$Walk.overAll(I)Z
theorem kl_26 : am_ml tn_G 26 = 3 := rfl
theorem ko_26 : am_oc tn_G 26 = 3 := rfl
theorem kn_26 : am_nc tn_G 26 = 0 := rfl
theorem kr_26 : am_rt tn_G 26 = 2 := rfl
theorem kc_26_0 : am_code tn_G 26 0 = some (.aload_n 0, 1, 0) := am_code_of (M := tn_m26) rfl (by decide +kernel) rfl rfl
theorem kc_26_1 : am_code tn_G 26 1 = some (.invokevirtual 38, 3, 0) := am_code_of (M := tn_m26) rfl (by decide +kernel) rfl rfl
theorem ka_26_38 : am_cal tn_G 26 38 = some (0, 27, 0) := by decide +kernel
theorem kc_26_4 : am_code tn_G 26 4 = some (.iconst 0, 1, 0) := am_code_of (M := tn_m26) rfl (by decide +kernel) rfl rfl
theorem kc_26_5 : am_code tn_G 26 5 = some (.istore_n 2, 1, 0) := am_code_of (M := tn_m26) rfl (by decide +kernel) rfl rfl
theorem kc_26_6 : am_code tn_G 26 6 = some (.iload_n 2, 1, 0) := am_code_of (M := tn_m26) rfl (by decide +kernel) rfl rfl
theorem kc_26_7 : am_code tn_G 26 7 = some (.iload_n 1, 1, 0) := am_code_of (M := tn_m26) rfl (by decide +kernel) rfl rfl
theorem kc_26_8 : am_code tn_G 26 8 = some (.if_icmp .ge 26, 3, 34) := am_code_of (M := tn_m26) rfl (by decide +kernel) rfl (by decide +kernel)
theorem kc_26_11 : am_code tn_G 26 11 = some (.aload_n 0, 1, 0) := am_code_of (M := tn_m26) rfl (by decide +kernel) rfl rfl
theorem kc_26_12 : am_code tn_G 26 12 = some (.aload_n 0, 1, 0) := am_code_of (M := tn_m26) rfl (by decide +kernel) rfl rfl
theorem kc_26_13 : am_code tn_G 26 13 = some (.getfield 34, 3, 0) := am_code_of (M := tn_m26) rfl (by decide +kernel) rfl rfl
theorem kf_26_34 : am_fld tn_G 26 34 = some (3, 0) := by decide +kernel
theorem kc_26_16 : am_code tn_G 26 16 = some (.iload_n 2, 1, 0) := am_code_of (M := tn_m26) rfl (by decide +kernel) rfl rfl
theorem kc_26_17 : am_code tn_G 26 17 = some (.invokevirtual 41, 3, 0) := am_code_of (M := tn_m26) rfl (by decide +kernel) rfl rfl
theorem ka_26_41 : am_cal tn_G 26 41 = some (0, 10, 1) := by decide +kernel
theorem kc_26_20 : am_code tn_G 26 20 = some (.invokevirtual 47, 3, 0) := am_code_of (M := tn_m26) rfl (by decide +kernel) rfl rfl
theorem ka_26_47 : am_cal tn_G 26 47 = some (0, 28, 1) := by decide +kernel
theorem kc_26_23 : am_code tn_G 26 23 = some (.ifCond .ne 5, 3, 28) := am_code_of (M := tn_m26) rfl (by decide +kernel) rfl (by decide +kernel)
theorem kc_26_26 : am_code tn_G 26 26 = some (.iconst 0, 1, 0) := am_code_of (M := tn_m26) rfl (by decide +kernel) rfl rfl
theorem kc_26_27 : am_code tn_G 26 27 = some (.ireturn, 1, 0) := am_code_of (M := tn_m26) rfl (by decide +kernel) rfl rfl
theorem kc_26_28 : am_code tn_G 26 28 = some (.iinc 2 1, 3, 0) := am_code_of (M := tn_m26) rfl (by decide +kernel) rfl rfl
theorem kc_26_31 : am_code tn_G 26 31 = some (.goto (-25), 3, 6) := am_code_of (M := tn_m26) rfl (by decide +kernel) rfl (by decide +kernel)
theorem kc_26_34 : am_code tn_G 26 34 = some (.iconst 1, 1, 0) := am_code_of (M := tn_m26) rfl (by decide +kernel) rfl rfl
theorem kc_26_35 : am_code tn_G 26 35 = some (.ireturn, 1, 0) := am_code_of (M := tn_m26) rfl (by decide +kernel) rfl rfl
-- 27: TermNet$Walk.begin()V
theorem kl_27 : am_ml tn_G 27 = 1 := rfl
theorem ko_27 : am_oc tn_G 27 = 3 := rfl
theorem kn_27 : am_nc tn_G 27 = 0 := rfl
theorem kr_27 : am_rt tn_G 27 = 0 := rfl
theorem kc_27_0 : am_code tn_G 27 0 = some (.aload_n 0, 1, 0) := am_code_of (M := tn_m27) rfl (by decide +kernel) rfl rfl
theorem kc_27_1 : am_code tn_G 27 1 = some (.getfield 9, 3, 0) := am_code_of (M := tn_m27) rfl (by decide +kernel) rfl rfl
theorem kf_27_9 : am_fld tn_G 27 9 = some (3, 1) := by decide +kernel
theorem kc_27_4 : am_code tn_G 27 4 = some (.iconst 0, 1, 0) := am_code_of (M := tn_m27) rfl (by decide +kernel) rfl rfl
theorem kc_27_5 : am_code tn_G 27 5 = some (.invokestatic 82, 3, 0) := am_code_of (M := tn_m27) rfl (by decide +kernel) rfl rfl
theorem ka_27_82 : am_cal tn_G 27 82 = some (2, 78, 2) := by decide +kernel
theorem kc_27_8 : am_code tn_G 27 8 = some (.aload_n 0, 1, 0) := am_code_of (M := tn_m27) rfl (by decide +kernel) rfl rfl
theorem kc_27_9 : am_code tn_G 27 9 = some (.iconst 0, 1, 0) := am_code_of (M := tn_m27) rfl (by decide +kernel) rfl rfl
theorem kc_27_10 : am_code tn_G 27 10 = some (.putfield 27, 3, 0) := am_code_of (M := tn_m27) rfl (by decide +kernel) rfl rfl
theorem kf_27_27 : am_fld tn_G 27 27 = some (3, 6) := by decide +kernel
theorem kc_27_13 : am_code tn_G 27 13 = some (.aload_n 0, 1, 0) := am_code_of (M := tn_m27) rfl (by decide +kernel) rfl rfl
theorem kc_27_14 : am_code tn_G 27 14 = some (.iconst 0, 1, 0) := am_code_of (M := tn_m27) rfl (by decide +kernel) rfl rfl
theorem kc_27_15 : am_code tn_G 27 15 = some (.putfield 31, 3, 0) := am_code_of (M := tn_m27) rfl (by decide +kernel) rfl rfl
theorem kf_27_31 : am_fld tn_G 27 31 = some (3, 7) := by decide +kernel
theorem kc_27_18 : am_code tn_G 27 18 = some (.return_, 1, 0) := am_code_of (M := tn_m27) rfl (by decide +kernel) rfl rfl
-- 28: TermNet$Walk.reach(I)Z
theorem kl_28 : am_ml tn_G 28 = 4 := rfl
theorem ko_28 : am_oc tn_G 28 = 3 := rfl
theorem kn_28 : am_nc tn_G 28 = 0 := rfl
theorem kr_28 : am_rt tn_G 28 = 2 := rfl
theorem kc_28_0 : am_code tn_G 28 0 = some (.aload_n 0, 1, 0) := am_code_of (M := tn_m28) rfl (by decide +kernel) rfl rfl
theorem kc_28_1 : am_code tn_G 28 1 = some (.iload_n 1, 1, 0) := am_code_of (M := tn_m28) rfl (by decide +kernel) rfl rfl
theorem kc_28_2 : am_code tn_G 28 2 = some (.invokevirtual 88, 3, 0) := am_code_of (M := tn_m28) rfl (by decide +kernel) rfl rfl
theorem ka_28_88 : am_cal tn_G 28 88 = some (0, 29, 1) := by decide +kernel
theorem kc_28_5 : am_code tn_G 28 5 = some (.istore_n 2, 1, 0) := am_code_of (M := tn_m28) rfl (by decide +kernel) rfl rfl
theorem kc_28_6 : am_code tn_G 28 6 = some (.iconst 0, 1, 0) := am_code_of (M := tn_m28) rfl (by decide +kernel) rfl rfl
theorem kc_28_7 : am_code tn_G 28 7 = some (.istore_n 3, 1, 0) := am_code_of (M := tn_m28) rfl (by decide +kernel) rfl rfl
theorem kc_28_8 : am_code tn_G 28 8 = some (.iload_n 3, 1, 0) := am_code_of (M := tn_m28) rfl (by decide +kernel) rfl rfl
theorem kc_28_9 : am_code tn_G 28 9 = some (.sipush 1600, 3, 0) := am_code_of (M := tn_m28) rfl (by decide +kernel) rfl rfl
theorem kc_28_12 : am_code tn_G 28 12 = some (.if_icmp .ge 36, 3, 48) := am_code_of (M := tn_m28) rfl (by decide +kernel) rfl (by decide +kernel)
theorem kc_28_15 : am_code tn_G 28 15 = some (.iload_n 2, 1, 0) := am_code_of (M := tn_m28) rfl (by decide +kernel) rfl rfl
theorem kc_28_16 : am_code tn_G 28 16 = some (.ifCond .eq 32, 3, 48) := am_code_of (M := tn_m28) rfl (by decide +kernel) rfl (by decide +kernel)
theorem kc_28_19 : am_code tn_G 28 19 = some (.aload_n 0, 1, 0) := am_code_of (M := tn_m28) rfl (by decide +kernel) rfl rfl
theorem kc_28_20 : am_code tn_G 28 20 = some (.getfield 27, 3, 0) := am_code_of (M := tn_m28) rfl (by decide +kernel) rfl rfl
theorem kf_28_27 : am_fld tn_G 28 27 = some (3, 6) := by decide +kernel
theorem kc_28_23 : am_code tn_G 28 23 = some (.ifCond .le 25, 3, 48) := am_code_of (M := tn_m28) rfl (by decide +kernel) rfl (by decide +kernel)
theorem kc_28_26 : am_code tn_G 28 26 = some (.aload_n 0, 1, 0) := am_code_of (M := tn_m28) rfl (by decide +kernel) rfl rfl
theorem kc_28_27 : am_code tn_G 28 27 = some (.aload_n 0, 1, 0) := am_code_of (M := tn_m28) rfl (by decide +kernel) rfl rfl
theorem kc_28_28 : am_code tn_G 28 28 = some (.getfield 18, 3, 0) := am_code_of (M := tn_m28) rfl (by decide +kernel) rfl rfl
theorem kf_28_18 : am_fld tn_G 28 18 = some (3, 3) := by decide +kernel
theorem kc_28_31 : am_code tn_G 28 31 = some (.aload_n 0, 1, 0) := am_code_of (M := tn_m28) rfl (by decide +kernel) rfl rfl
theorem kc_28_32 : am_code tn_G 28 32 = some (.getfield 27, 3, 0) := am_code_of (M := tn_m28) rfl (by decide +kernel) rfl rfl
theorem kc_28_35 : am_code tn_G 28 35 = some (.iconst 1, 1, 0) := am_code_of (M := tn_m28) rfl (by decide +kernel) rfl rfl
theorem kc_28_36 : am_code tn_G 28 36 = some (.isub, 1, 0) := am_code_of (M := tn_m28) rfl (by decide +kernel) rfl rfl
theorem kc_28_37 : am_code tn_G 28 37 = some (.iaload, 1, 0) := am_code_of (M := tn_m28) rfl (by decide +kernel) rfl rfl
theorem kc_28_38 : am_code tn_G 28 38 = some (.invokevirtual 91, 3, 0) := am_code_of (M := tn_m28) rfl (by decide +kernel) rfl rfl
theorem ka_28_91 : am_cal tn_G 28 91 = some (0, 30, 1) := by decide +kernel
theorem kc_28_41 : am_code tn_G 28 41 = some (.istore_n 2, 1, 0) := am_code_of (M := tn_m28) rfl (by decide +kernel) rfl rfl
theorem kc_28_42 : am_code tn_G 28 42 = some (.iinc 3 1, 3, 0) := am_code_of (M := tn_m28) rfl (by decide +kernel) rfl rfl
theorem kc_28_45 : am_code tn_G 28 45 = some (.goto (-37), 3, 8) := am_code_of (M := tn_m28) rfl (by decide +kernel) rfl (by decide +kernel)
theorem kc_28_48 : am_code tn_G 28 48 = some (.iload_n 2, 1, 0) := am_code_of (M := tn_m28) rfl (by decide +kernel) rfl rfl
theorem kc_28_49 : am_code tn_G 28 49 = some (.ireturn, 1, 0) := am_code_of (M := tn_m28) rfl (by decide +kernel) rfl rfl
-- 29: TermNet$Walk.enter(I)Z
theorem kl_29 : am_ml tn_G 29 = 2 := rfl
theorem ko_29 : am_oc tn_G 29 = 3 := rfl
theorem kn_29 : am_nc tn_G 29 = 0 := rfl
theorem kr_29 : am_rt tn_G 29 = 2 := rfl
theorem kc_29_0 : am_code tn_G 29 0 = some (.aload_n 0, 1, 0) := am_code_of (M := tn_m29) rfl (by decide +kernel) rfl rfl
theorem kc_29_1 : am_code tn_G 29 1 = some (.getfield 9, 3, 0) := am_code_of (M := tn_m29) rfl (by decide +kernel) rfl rfl
theorem kf_29_9 : am_fld tn_G 29 9 = some (3, 1) := by decide +kernel
theorem kc_29_4 : am_code tn_G 29 4 = some (.iload_n 1, 1, 0) := am_code_of (M := tn_m29) rfl (by decide +kernel) rfl rfl
theorem kc_29_5 : am_code tn_G 29 5 = some (.iaload, 1, 0) := am_code_of (M := tn_m29) rfl (by decide +kernel) rfl rfl
theorem kc_29_6 : am_code tn_G 29 6 = some (.ifCond .ne 40, 3, 46) := am_code_of (M := tn_m29) rfl (by decide +kernel) rfl (by decide +kernel)
theorem kc_29_9 : am_code tn_G 29 9 = some (.aload_n 0, 1, 0) := am_code_of (M := tn_m29) rfl (by decide +kernel) rfl rfl
theorem kc_29_10 : am_code tn_G 29 10 = some (.getfield 9, 3, 0) := am_code_of (M := tn_m29) rfl (by decide +kernel) rfl rfl
theorem kc_29_13 : am_code tn_G 29 13 = some (.iload_n 1, 1, 0) := am_code_of (M := tn_m29) rfl (by decide +kernel) rfl rfl
theorem kc_29_14 : am_code tn_G 29 14 = some (.iconst 1, 1, 0) := am_code_of (M := tn_m29) rfl (by decide +kernel) rfl rfl
theorem kc_29_15 : am_code tn_G 29 15 = some (.iastore, 1, 0) := am_code_of (M := tn_m29) rfl (by decide +kernel) rfl rfl
theorem kc_29_16 : am_code tn_G 29 16 = some (.aload_n 0, 1, 0) := am_code_of (M := tn_m29) rfl (by decide +kernel) rfl rfl
theorem kc_29_17 : am_code tn_G 29 17 = some (.getfield 15, 3, 0) := am_code_of (M := tn_m29) rfl (by decide +kernel) rfl rfl
theorem kf_29_15 : am_fld tn_G 29 15 = some (3, 2) := by decide +kernel
theorem kc_29_20 : am_code tn_G 29 20 = some (.iload_n 1, 1, 0) := am_code_of (M := tn_m29) rfl (by decide +kernel) rfl rfl
theorem kc_29_21 : am_code tn_G 29 21 = some (.iconst 0, 1, 0) := am_code_of (M := tn_m29) rfl (by decide +kernel) rfl rfl
theorem kc_29_22 : am_code tn_G 29 22 = some (.iastore, 1, 0) := am_code_of (M := tn_m29) rfl (by decide +kernel) rfl rfl
theorem kc_29_23 : am_code tn_G 29 23 = some (.aload_n 0, 1, 0) := am_code_of (M := tn_m29) rfl (by decide +kernel) rfl rfl
theorem kc_29_24 : am_code tn_G 29 24 = some (.getfield 18, 3, 0) := am_code_of (M := tn_m29) rfl (by decide +kernel) rfl rfl
theorem kf_29_18 : am_fld tn_G 29 18 = some (3, 3) := by decide +kernel
theorem kc_29_27 : am_code tn_G 29 27 = some (.aload_n 0, 1, 0) := am_code_of (M := tn_m29) rfl (by decide +kernel) rfl rfl
theorem kc_29_28 : am_code tn_G 29 28 = some (.getfield 27, 3, 0) := am_code_of (M := tn_m29) rfl (by decide +kernel) rfl rfl
theorem kf_29_27 : am_fld tn_G 29 27 = some (3, 6) := by decide +kernel
theorem kc_29_31 : am_code tn_G 29 31 = some (.iload_n 1, 1, 0) := am_code_of (M := tn_m29) rfl (by decide +kernel) rfl rfl
theorem kc_29_32 : am_code tn_G 29 32 = some (.iastore, 1, 0) := am_code_of (M := tn_m29) rfl (by decide +kernel) rfl rfl
theorem kc_29_33 : am_code tn_G 29 33 = some (.aload_n 0, 1, 0) := am_code_of (M := tn_m29) rfl (by decide +kernel) rfl rfl
theorem kc_29_34 : am_code tn_G 29 34 = some (.dup, 1, 0) := am_code_of (M := tn_m29) rfl (by decide +kernel) rfl rfl
theorem kc_29_35 : am_code tn_G 29 35 = some (.getfield 27, 3, 0) := am_code_of (M := tn_m29) rfl (by decide +kernel) rfl rfl
theorem kc_29_38 : am_code tn_G 29 38 = some (.iconst 1, 1, 0) := am_code_of (M := tn_m29) rfl (by decide +kernel) rfl rfl
theorem kc_29_39 : am_code tn_G 29 39 = some (.iadd, 1, 0) := am_code_of (M := tn_m29) rfl (by decide +kernel) rfl rfl
theorem kc_29_40 : am_code tn_G 29 40 = some (.putfield 27, 3, 0) := am_code_of (M := tn_m29) rfl (by decide +kernel) rfl rfl
theorem kc_29_43 : am_code tn_G 29 43 = some (.goto 15, 3, 58) := am_code_of (M := tn_m29) rfl (by decide +kernel) rfl (by decide +kernel)
theorem kc_29_46 : am_code tn_G 29 46 = some (.aload_n 0, 1, 0) := am_code_of (M := tn_m29) rfl (by decide +kernel) rfl rfl
theorem kc_29_47 : am_code tn_G 29 47 = some (.getfield 9, 3, 0) := am_code_of (M := tn_m29) rfl (by decide +kernel) rfl rfl
theorem kc_29_50 : am_code tn_G 29 50 = some (.iload_n 1, 1, 0) := am_code_of (M := tn_m29) rfl (by decide +kernel) rfl rfl
theorem kc_29_51 : am_code tn_G 29 51 = some (.iaload, 1, 0) := am_code_of (M := tn_m29) rfl (by decide +kernel) rfl rfl
theorem kc_29_52 : am_code tn_G 29 52 = some (.iconst 1, 1, 0) := am_code_of (M := tn_m29) rfl (by decide +kernel) rfl rfl
theorem kc_29_53 : am_code tn_G 29 53 = some (.if_icmp .ne 5, 3, 58) := am_code_of (M := tn_m29) rfl (by decide +kernel) rfl (by decide +kernel)
theorem kc_29_56 : am_code tn_G 29 56 = some (.iconst 0, 1, 0) := am_code_of (M := tn_m29) rfl (by decide +kernel) rfl rfl
theorem kc_29_57 : am_code tn_G 29 57 = some (.ireturn, 1, 0) := am_code_of (M := tn_m29) rfl (by decide +kernel) rfl rfl
theorem kc_29_58 : am_code tn_G 29 58 = some (.iconst 1, 1, 0) := am_code_of (M := tn_m29) rfl (by decide +kernel) rfl rfl
theorem kc_29_59 : am_code tn_G 29 59 = some (.ireturn, 1, 0) := am_code_of (M := tn_m29) rfl (by decide +kernel) rfl rfl
-- 30: TermNet$Walk.goOn(I)Z
theorem kl_30 : am_ml tn_G 30 = 2 := rfl
theorem ko_30 : am_oc tn_G 30 = 3 := rfl
theorem kn_30 : am_nc tn_G 30 = 0 := rfl
theorem kr_30 : am_rt tn_G 30 = 2 := rfl
theorem kc_30_0 : am_code tn_G 30 0 = some (.aload_n 0, 1, 0) := am_code_of (M := tn_m30) rfl (by decide +kernel) rfl rfl
theorem kc_30_1 : am_code tn_G 30 1 = some (.getfield 15, 3, 0) := am_code_of (M := tn_m30) rfl (by decide +kernel) rfl rfl
theorem kf_30_15 : am_fld tn_G 30 15 = some (3, 2) := by decide +kernel
theorem kc_30_4 : am_code tn_G 30 4 = some (.iload_n 1, 1, 0) := am_code_of (M := tn_m30) rfl (by decide +kernel) rfl rfl
theorem kc_30_5 : am_code tn_G 30 5 = some (.iaload, 1, 0) := am_code_of (M := tn_m30) rfl (by decide +kernel) rfl rfl
theorem kc_30_6 : am_code tn_G 30 6 = some (.aload_n 0, 1, 0) := am_code_of (M := tn_m30) rfl (by decide +kernel) rfl rfl
theorem kc_30_7 : am_code tn_G 30 7 = some (.getfield 34, 3, 0) := am_code_of (M := tn_m30) rfl (by decide +kernel) rfl rfl
theorem kf_30_34 : am_fld tn_G 30 34 = some (3, 0) := by decide +kernel
theorem kc_30_10 : am_code tn_G 30 10 = some (.iload_n 1, 1, 0) := am_code_of (M := tn_m30) rfl (by decide +kernel) rfl rfl
theorem kc_30_11 : am_code tn_G 30 11 = some (.invokevirtual 58, 3, 0) := am_code_of (M := tn_m30) rfl (by decide +kernel) rfl rfl
theorem ka_30_58 : am_cal tn_G 30 58 = some (0, 11, 1) := by decide +kernel
theorem kc_30_14 : am_code tn_G 30 14 = some (.if_icmp .ge 34, 3, 48) := am_code_of (M := tn_m30) rfl (by decide +kernel) rfl (by decide +kernel)
theorem kc_30_17 : am_code tn_G 30 17 = some (.aload_n 0, 1, 0) := am_code_of (M := tn_m30) rfl (by decide +kernel) rfl rfl
theorem kc_30_18 : am_code tn_G 30 18 = some (.getfield 15, 3, 0) := am_code_of (M := tn_m30) rfl (by decide +kernel) rfl rfl
theorem kc_30_21 : am_code tn_G 30 21 = some (.iload_n 1, 1, 0) := am_code_of (M := tn_m30) rfl (by decide +kernel) rfl rfl
theorem kc_30_22 : am_code tn_G 30 22 = some (.dup2, 1, 0) := am_code_of (M := tn_m30) rfl (by decide +kernel) rfl rfl
theorem kc_30_23 : am_code tn_G 30 23 = some (.iaload, 1, 0) := am_code_of (M := tn_m30) rfl (by decide +kernel) rfl rfl
theorem kc_30_24 : am_code tn_G 30 24 = some (.iconst 1, 1, 0) := am_code_of (M := tn_m30) rfl (by decide +kernel) rfl rfl
theorem kc_30_25 : am_code tn_G 30 25 = some (.iadd, 1, 0) := am_code_of (M := tn_m30) rfl (by decide +kernel) rfl rfl
theorem kc_30_26 : am_code tn_G 30 26 = some (.iastore, 1, 0) := am_code_of (M := tn_m30) rfl (by decide +kernel) rfl rfl
theorem kc_30_27 : am_code tn_G 30 27 = some (.aload_n 0, 1, 0) := am_code_of (M := tn_m30) rfl (by decide +kernel) rfl rfl
theorem kc_30_28 : am_code tn_G 30 28 = some (.aload_n 0, 1, 0) := am_code_of (M := tn_m30) rfl (by decide +kernel) rfl rfl
theorem kc_30_29 : am_code tn_G 30 29 = some (.getfield 34, 3, 0) := am_code_of (M := tn_m30) rfl (by decide +kernel) rfl rfl
theorem kc_30_32 : am_code tn_G 30 32 = some (.iload_n 1, 1, 0) := am_code_of (M := tn_m30) rfl (by decide +kernel) rfl rfl
theorem kc_30_33 : am_code tn_G 30 33 = some (.aload_n 0, 1, 0) := am_code_of (M := tn_m30) rfl (by decide +kernel) rfl rfl
theorem kc_30_34 : am_code tn_G 30 34 = some (.getfield 15, 3, 0) := am_code_of (M := tn_m30) rfl (by decide +kernel) rfl rfl
theorem kc_30_37 : am_code tn_G 30 37 = some (.iload_n 1, 1, 0) := am_code_of (M := tn_m30) rfl (by decide +kernel) rfl rfl
theorem kc_30_38 : am_code tn_G 30 38 = some (.iaload, 1, 0) := am_code_of (M := tn_m30) rfl (by decide +kernel) rfl rfl
theorem kc_30_39 : am_code tn_G 30 39 = some (.iconst 1, 1, 0) := am_code_of (M := tn_m30) rfl (by decide +kernel) rfl rfl
theorem kc_30_40 : am_code tn_G 30 40 = some (.isub, 1, 0) := am_code_of (M := tn_m30) rfl (by decide +kernel) rfl rfl
theorem kc_30_41 : am_code tn_G 30 41 = some (.invokevirtual 61, 3, 0) := am_code_of (M := tn_m30) rfl (by decide +kernel) rfl rfl
theorem ka_30_61 : am_cal tn_G 30 61 = some (0, 12, 2) := by decide +kernel
theorem kc_30_44 : am_code tn_G 30 44 = some (.invokevirtual 88, 3, 0) := am_code_of (M := tn_m30) rfl (by decide +kernel) rfl rfl
theorem ka_30_88 : am_cal tn_G 30 88 = some (0, 29, 1) := by decide +kernel
theorem kc_30_47 : am_code tn_G 30 47 = some (.ireturn, 1, 0) := am_code_of (M := tn_m30) rfl (by decide +kernel) rfl rfl
theorem kc_30_48 : am_code tn_G 30 48 = some (.aload_n 0, 1, 0) := am_code_of (M := tn_m30) rfl (by decide +kernel) rfl rfl
theorem kc_30_49 : am_code tn_G 30 49 = some (.getfield 9, 3, 0) := am_code_of (M := tn_m30) rfl (by decide +kernel) rfl rfl
theorem kf_30_9 : am_fld tn_G 30 9 = some (3, 1) := by decide +kernel
theorem kc_30_52 : am_code tn_G 30 52 = some (.iload_n 1, 1, 0) := am_code_of (M := tn_m30) rfl (by decide +kernel) rfl rfl
theorem kc_30_53 : am_code tn_G 30 53 = some (.iconst 2, 1, 0) := am_code_of (M := tn_m30) rfl (by decide +kernel) rfl rfl
theorem kc_30_54 : am_code tn_G 30 54 = some (.iastore, 1, 0) := am_code_of (M := tn_m30) rfl (by decide +kernel) rfl rfl
theorem kc_30_55 : am_code tn_G 30 55 = some (.aload_n 0, 1, 0) := am_code_of (M := tn_m30) rfl (by decide +kernel) rfl rfl
theorem kc_30_56 : am_code tn_G 30 56 = some (.getfield 21, 3, 0) := am_code_of (M := tn_m30) rfl (by decide +kernel) rfl rfl
theorem kf_30_21 : am_fld tn_G 30 21 = some (3, 4) := by decide +kernel
theorem kc_30_59 : am_code tn_G 30 59 = some (.aload_n 0, 1, 0) := am_code_of (M := tn_m30) rfl (by decide +kernel) rfl rfl
theorem kc_30_60 : am_code tn_G 30 60 = some (.getfield 31, 3, 0) := am_code_of (M := tn_m30) rfl (by decide +kernel) rfl rfl
theorem kf_30_31 : am_fld tn_G 30 31 = some (3, 7) := by decide +kernel
theorem kc_30_63 : am_code tn_G 30 63 = some (.iload_n 1, 1, 0) := am_code_of (M := tn_m30) rfl (by decide +kernel) rfl rfl
theorem kc_30_64 : am_code tn_G 30 64 = some (.iastore, 1, 0) := am_code_of (M := tn_m30) rfl (by decide +kernel) rfl rfl
theorem kc_30_65 : am_code tn_G 30 65 = some (.aload_n 0, 1, 0) := am_code_of (M := tn_m30) rfl (by decide +kernel) rfl rfl
theorem kc_30_66 : am_code tn_G 30 66 = some (.dup, 1, 0) := am_code_of (M := tn_m30) rfl (by decide +kernel) rfl rfl
theorem kc_30_67 : am_code tn_G 30 67 = some (.getfield 31, 3, 0) := am_code_of (M := tn_m30) rfl (by decide +kernel) rfl rfl
theorem kc_30_70 : am_code tn_G 30 70 = some (.iconst 1, 1, 0) := am_code_of (M := tn_m30) rfl (by decide +kernel) rfl rfl
theorem kc_30_71 : am_code tn_G 30 71 = some (.iadd, 1, 0) := am_code_of (M := tn_m30) rfl (by decide +kernel) rfl rfl
theorem kc_30_72 : am_code tn_G 30 72 = some (.putfield 31, 3, 0) := am_code_of (M := tn_m30) rfl (by decide +kernel) rfl rfl
theorem kc_30_75 : am_code tn_G 30 75 = some (.aload_n 0, 1, 0) := am_code_of (M := tn_m30) rfl (by decide +kernel) rfl rfl
theorem kc_30_76 : am_code tn_G 30 76 = some (.dup, 1, 0) := am_code_of (M := tn_m30) rfl (by decide +kernel) rfl rfl
theorem kc_30_77 : am_code tn_G 30 77 = some (.getfield 27, 3, 0) := am_code_of (M := tn_m30) rfl (by decide +kernel) rfl rfl
theorem kf_30_27 : am_fld tn_G 30 27 = some (3, 6) := by decide +kernel
theorem kc_30_80 : am_code tn_G 30 80 = some (.iconst 1, 1, 0) := am_code_of (M := tn_m30) rfl (by decide +kernel) rfl rfl
theorem kc_30_81 : am_code tn_G 30 81 = some (.isub, 1, 0) := am_code_of (M := tn_m30) rfl (by decide +kernel) rfl rfl
theorem kc_30_82 : am_code tn_G 30 82 = some (.putfield 27, 3, 0) := am_code_of (M := tn_m30) rfl (by decide +kernel) rfl rfl
theorem kc_30_85 : am_code tn_G 30 85 = some (.iconst 1, 1, 0) := am_code_of (M := tn_m30) rfl (by decide +kernel) rfl rfl
theorem kc_30_86 : am_code tn_G 30 86 = some (.ireturn, 1, 0) := am_code_of (M := tn_m30) rfl (by decide +kernel) rfl rfl
-- 31: TermNet$Walk.sizeBelow(I)I
theorem kl_31 : am_ml tn_G 31 = 3 := rfl
theorem ko_31 : am_oc tn_G 31 = 3 := rfl
theorem kn_31 : am_nc tn_G 31 = 0 := rfl
theorem kr_31 : am_rt tn_G 31 = 1 := rfl
theorem kc_31_0 : am_code tn_G 31 0 = some (.aload_n 0, 1, 0) := am_code_of (M := tn_m31) rfl (by decide +kernel) rfl rfl
theorem kc_31_1 : am_code tn_G 31 1 = some (.iload_n 1, 1, 0) := am_code_of (M := tn_m31) rfl (by decide +kernel) rfl rfl
theorem kc_31_2 : am_code tn_G 31 2 = some (.invokevirtual 51, 3, 0) := am_code_of (M := tn_m31) rfl (by decide +kernel) rfl rfl
theorem ka_31_51 : am_cal tn_G 31 51 = some (0, 32, 1) := by decide +kernel
theorem kc_31_5 : am_code tn_G 31 5 = some (.iconst 0, 1, 0) := am_code_of (M := tn_m31) rfl (by decide +kernel) rfl rfl
theorem kc_31_6 : am_code tn_G 31 6 = some (.istore_n 2, 1, 0) := am_code_of (M := tn_m31) rfl (by decide +kernel) rfl rfl
theorem kc_31_7 : am_code tn_G 31 7 = some (.iload_n 2, 1, 0) := am_code_of (M := tn_m31) rfl (by decide +kernel) rfl rfl
theorem kc_31_8 : am_code tn_G 31 8 = some (.aload_n 0, 1, 0) := am_code_of (M := tn_m31) rfl (by decide +kernel) rfl rfl
theorem kc_31_9 : am_code tn_G 31 9 = some (.getfield 31, 3, 0) := am_code_of (M := tn_m31) rfl (by decide +kernel) rfl rfl
theorem kf_31_31 : am_fld tn_G 31 31 = some (3, 7) := by decide +kernel
theorem kc_31_12 : am_code tn_G 31 12 = some (.if_icmp .ge 30, 3, 42) := am_code_of (M := tn_m31) rfl (by decide +kernel) rfl (by decide +kernel)
theorem kc_31_15 : am_code tn_G 31 15 = some (.aload_n 0, 1, 0) := am_code_of (M := tn_m31) rfl (by decide +kernel) rfl rfl
theorem kc_31_16 : am_code tn_G 31 16 = some (.getfield 24, 3, 0) := am_code_of (M := tn_m31) rfl (by decide +kernel) rfl rfl
theorem kf_31_24 : am_fld tn_G 31 24 = some (3, 5) := by decide +kernel
theorem kc_31_19 : am_code tn_G 31 19 = some (.aload_n 0, 1, 0) := am_code_of (M := tn_m31) rfl (by decide +kernel) rfl rfl
theorem kc_31_20 : am_code tn_G 31 20 = some (.getfield 21, 3, 0) := am_code_of (M := tn_m31) rfl (by decide +kernel) rfl rfl
theorem kf_31_21 : am_fld tn_G 31 21 = some (3, 4) := by decide +kernel
theorem kc_31_23 : am_code tn_G 31 23 = some (.iload_n 2, 1, 0) := am_code_of (M := tn_m31) rfl (by decide +kernel) rfl rfl
theorem kc_31_24 : am_code tn_G 31 24 = some (.iaload, 1, 0) := am_code_of (M := tn_m31) rfl (by decide +kernel) rfl rfl
theorem kc_31_25 : am_code tn_G 31 25 = some (.aload_n 0, 1, 0) := am_code_of (M := tn_m31) rfl (by decide +kernel) rfl rfl
theorem kc_31_26 : am_code tn_G 31 26 = some (.aload_n 0, 1, 0) := am_code_of (M := tn_m31) rfl (by decide +kernel) rfl rfl
theorem kc_31_27 : am_code tn_G 31 27 = some (.getfield 21, 3, 0) := am_code_of (M := tn_m31) rfl (by decide +kernel) rfl rfl
theorem kc_31_30 : am_code tn_G 31 30 = some (.iload_n 2, 1, 0) := am_code_of (M := tn_m31) rfl (by decide +kernel) rfl rfl
theorem kc_31_31 : am_code tn_G 31 31 = some (.iaload, 1, 0) := am_code_of (M := tn_m31) rfl (by decide +kernel) rfl rfl
theorem kc_31_32 : am_code tn_G 31 32 = some (.invokevirtual 55, 3, 0) := am_code_of (M := tn_m31) rfl (by decide +kernel) rfl rfl
theorem ka_31_55 : am_cal tn_G 31 55 = some (0, 33, 1) := by decide +kernel
theorem kc_31_35 : am_code tn_G 31 35 = some (.iastore, 1, 0) := am_code_of (M := tn_m31) rfl (by decide +kernel) rfl rfl
theorem kc_31_36 : am_code tn_G 31 36 = some (.iinc 2 1, 3, 0) := am_code_of (M := tn_m31) rfl (by decide +kernel) rfl rfl
theorem kc_31_39 : am_code tn_G 31 39 = some (.goto (-32), 3, 7) := am_code_of (M := tn_m31) rfl (by decide +kernel) rfl (by decide +kernel)
theorem kc_31_42 : am_code tn_G 31 42 = some (.aload_n 0, 1, 0) := am_code_of (M := tn_m31) rfl (by decide +kernel) rfl rfl
theorem kc_31_43 : am_code tn_G 31 43 = some (.getfield 24, 3, 0) := am_code_of (M := tn_m31) rfl (by decide +kernel) rfl rfl
theorem kc_31_46 : am_code tn_G 31 46 = some (.aload_n 0, 1, 0) := am_code_of (M := tn_m31) rfl (by decide +kernel) rfl rfl
theorem kc_31_47 : am_code tn_G 31 47 = some (.getfield 34, 3, 0) := am_code_of (M := tn_m31) rfl (by decide +kernel) rfl rfl
theorem kf_31_34 : am_fld tn_G 31 34 = some (3, 0) := by decide +kernel
theorem kc_31_50 : am_code tn_G 31 50 = some (.iload_n 1, 1, 0) := am_code_of (M := tn_m31) rfl (by decide +kernel) rfl rfl
theorem kc_31_51 : am_code tn_G 31 51 = some (.invokevirtual 41, 3, 0) := am_code_of (M := tn_m31) rfl (by decide +kernel) rfl rfl
theorem ka_31_41 : am_cal tn_G 31 41 = some (0, 10, 1) := by decide +kernel
theorem kc_31_54 : am_code tn_G 31 54 = some (.iaload, 1, 0) := am_code_of (M := tn_m31) rfl (by decide +kernel) rfl rfl
theorem kc_31_55 : am_code tn_G 31 55 = some (.ireturn, 1, 0) := am_code_of (M := tn_m31) rfl (by decide +kernel) rfl rfl
-- 32: TermNet$Walk.overTree(I)V
theorem kl_32 : am_ml tn_G 32 = 2 := rfl
theorem ko_32 : am_oc tn_G 32 = 3 := rfl
theorem kn_32 : am_nc tn_G 32 = 0 := rfl
theorem kr_32 : am_rt tn_G 32 = 0 := rfl
theorem kc_32_0 : am_code tn_G 32 0 = some (.aload_n 0, 1, 0) := am_code_of (M := tn_m32) rfl (by decide +kernel) rfl rfl
theorem kc_32_1 : am_code tn_G 32 1 = some (.invokevirtual 38, 3, 0) := am_code_of (M := tn_m32) rfl (by decide +kernel) rfl rfl
theorem ka_32_38 : am_cal tn_G 32 38 = some (0, 27, 0) := by decide +kernel
theorem kc_32_4 : am_code tn_G 32 4 = some (.aload_n 0, 1, 0) := am_code_of (M := tn_m32) rfl (by decide +kernel) rfl rfl
theorem kc_32_5 : am_code tn_G 32 5 = some (.aload_n 0, 1, 0) := am_code_of (M := tn_m32) rfl (by decide +kernel) rfl rfl
theorem kc_32_6 : am_code tn_G 32 6 = some (.getfield 34, 3, 0) := am_code_of (M := tn_m32) rfl (by decide +kernel) rfl rfl
theorem kf_32_34 : am_fld tn_G 32 34 = some (3, 0) := by decide +kernel
theorem kc_32_9 : am_code tn_G 32 9 = some (.iload_n 1, 1, 0) := am_code_of (M := tn_m32) rfl (by decide +kernel) rfl rfl
theorem kc_32_10 : am_code tn_G 32 10 = some (.invokevirtual 41, 3, 0) := am_code_of (M := tn_m32) rfl (by decide +kernel) rfl rfl
theorem ka_32_41 : am_cal tn_G 32 41 = some (0, 10, 1) := by decide +kernel
theorem kc_32_13 : am_code tn_G 32 13 = some (.invokevirtual 47, 3, 0) := am_code_of (M := tn_m32) rfl (by decide +kernel) rfl rfl
theorem ka_32_47 : am_cal tn_G 32 47 = some (0, 28, 1) := by decide +kernel
theorem kc_32_16 : am_code tn_G 32 16 = some (.pop, 1, 0) := am_code_of (M := tn_m32) rfl (by decide +kernel) rfl rfl
theorem kc_32_17 : am_code tn_G 32 17 = some (.return_, 1, 0) := am_code_of (M := tn_m32) rfl (by decide +kernel) rfl rfl
-- 33: TermNet$Walk.sizeOver(I)I
theorem kl_33 : am_ml tn_G 33 = 5 := rfl
theorem ko_33 : am_oc tn_G 33 = 3 := rfl
theorem kn_33 : am_nc tn_G 33 = 0 := rfl
theorem kr_33 : am_rt tn_G 33 = 1 := rfl
theorem kc_33_0 : am_code tn_G 33 0 = some (.lconst 1, 1, 0) := am_code_of (M := tn_m33) rfl (by decide +kernel) rfl rfl
theorem kc_33_1 : am_code tn_G 33 1 = some (.lstore_n 2, 1, 0) := am_code_of (M := tn_m33) rfl (by decide +kernel) rfl rfl
theorem kc_33_2 : am_code tn_G 33 2 = some (.iconst 0, 1, 0) := am_code_of (M := tn_m33) rfl (by decide +kernel) rfl rfl
theorem kc_33_3 : am_code tn_G 33 3 = some (.istore 4, 2, 0) := am_code_of (M := tn_m33) rfl (by decide +kernel) rfl rfl
theorem kc_33_5 : am_code tn_G 33 5 = some (.iload 4, 2, 0) := am_code_of (M := tn_m33) rfl (by decide +kernel) rfl rfl
theorem kc_33_7 : am_code tn_G 33 7 = some (.aload_n 0, 1, 0) := am_code_of (M := tn_m33) rfl (by decide +kernel) rfl rfl
theorem kc_33_8 : am_code tn_G 33 8 = some (.getfield 34, 3, 0) := am_code_of (M := tn_m33) rfl (by decide +kernel) rfl rfl
theorem kf_33_34 : am_fld tn_G 33 34 = some (3, 0) := by decide +kernel
theorem kc_33_11 : am_code tn_G 33 11 = some (.iload_n 1, 1, 0) := am_code_of (M := tn_m33) rfl (by decide +kernel) rfl rfl
theorem kc_33_12 : am_code tn_G 33 12 = some (.invokevirtual 58, 3, 0) := am_code_of (M := tn_m33) rfl (by decide +kernel) rfl rfl
theorem ka_33_58 : am_cal tn_G 33 58 = some (0, 11, 1) := by decide +kernel
theorem kc_33_15 : am_code tn_G 33 15 = some (.if_icmp .ge 28, 3, 43) := am_code_of (M := tn_m33) rfl (by decide +kernel) rfl (by decide +kernel)
theorem kc_33_18 : am_code tn_G 33 18 = some (.lload_n 2, 1, 0) := am_code_of (M := tn_m33) rfl (by decide +kernel) rfl rfl
theorem kc_33_19 : am_code tn_G 33 19 = some (.aload_n 0, 1, 0) := am_code_of (M := tn_m33) rfl (by decide +kernel) rfl rfl
theorem kc_33_20 : am_code tn_G 33 20 = some (.getfield 24, 3, 0) := am_code_of (M := tn_m33) rfl (by decide +kernel) rfl rfl
theorem kf_33_24 : am_fld tn_G 33 24 = some (3, 5) := by decide +kernel
theorem kc_33_23 : am_code tn_G 33 23 = some (.aload_n 0, 1, 0) := am_code_of (M := tn_m33) rfl (by decide +kernel) rfl rfl
theorem kc_33_24 : am_code tn_G 33 24 = some (.getfield 34, 3, 0) := am_code_of (M := tn_m33) rfl (by decide +kernel) rfl rfl
theorem kc_33_27 : am_code tn_G 33 27 = some (.iload_n 1, 1, 0) := am_code_of (M := tn_m33) rfl (by decide +kernel) rfl rfl
theorem kc_33_28 : am_code tn_G 33 28 = some (.iload 4, 2, 0) := am_code_of (M := tn_m33) rfl (by decide +kernel) rfl rfl
theorem kc_33_30 : am_code tn_G 33 30 = some (.invokevirtual 61, 3, 0) := am_code_of (M := tn_m33) rfl (by decide +kernel) rfl rfl
theorem ka_33_61 : am_cal tn_G 33 61 = some (0, 12, 2) := by decide +kernel
theorem kc_33_33 : am_code tn_G 33 33 = some (.iaload, 1, 0) := am_code_of (M := tn_m33) rfl (by decide +kernel) rfl rfl
theorem kc_33_34 : am_code tn_G 33 34 = some (.i2l, 1, 0) := am_code_of (M := tn_m33) rfl (by decide +kernel) rfl rfl
theorem kc_33_35 : am_code tn_G 33 35 = some (.ladd, 1, 0) := am_code_of (M := tn_m33) rfl (by decide +kernel) rfl rfl
theorem kc_33_36 : am_code tn_G 33 36 = some (.lstore_n 2, 1, 0) := am_code_of (M := tn_m33) rfl (by decide +kernel) rfl rfl
theorem kc_33_37 : am_code tn_G 33 37 = some (.iinc 4 1, 3, 0) := am_code_of (M := tn_m33) rfl (by decide +kernel) rfl rfl
theorem kc_33_40 : am_code tn_G 33 40 = some (.goto (-35), 3, 5) := am_code_of (M := tn_m33) rfl (by decide +kernel) rfl (by decide +kernel)
theorem kc_33_43 : am_code tn_G 33 43 = some (.lload_n 2, 1, 0) := am_code_of (M := tn_m33) rfl (by decide +kernel) rfl rfl
theorem kc_33_44 : am_code tn_G 33 44 = some (.ldc2_w 65, 3, 0) := am_code_of (M := tn_m33) rfl (by decide +kernel) rfl rfl
theorem kL_33_65 : am_kl tn_G 33 65 = some 1000000000 := by decide +kernel
theorem kc_33_47 : am_code tn_G 33 47 = some (.invokestatic 67, 3, 0) := am_code_of (M := tn_m33) rfl (by decide +kernel) rfl rfl
theorem ka_33_67 : am_cal tn_G 33 67 = some (5, 0, 0) := by decide +kernel
theorem kc_33_50 : am_code tn_G 33 50 = some (.l2i, 1, 0) := am_code_of (M := tn_m33) rfl (by decide +kernel) rfl rfl
theorem kc_33_51 : am_code tn_G 33 51 = some (.ireturn, 1, 0) := am_code_of (M := tn_m33) rfl (by decide +kernel) rfl rfl
-- 34: TermNet$Walk.depthBelow(I)I
theorem kl_34 : am_ml tn_G 34 = 3 := rfl
theorem ko_34 : am_oc tn_G 34 = 3 := rfl
theorem kn_34 : am_nc tn_G 34 = 0 := rfl
theorem kr_34 : am_rt tn_G 34 = 1 := rfl
theorem kc_34_0 : am_code tn_G 34 0 = some (.aload_n 0, 1, 0) := am_code_of (M := tn_m34) rfl (by decide +kernel) rfl rfl
theorem kc_34_1 : am_code tn_G 34 1 = some (.iload_n 1, 1, 0) := am_code_of (M := tn_m34) rfl (by decide +kernel) rfl rfl
theorem kc_34_2 : am_code tn_G 34 2 = some (.invokevirtual 51, 3, 0) := am_code_of (M := tn_m34) rfl (by decide +kernel) rfl rfl
theorem ka_34_51 : am_cal tn_G 34 51 = some (0, 32, 1) := by decide +kernel
theorem kc_34_5 : am_code tn_G 34 5 = some (.iconst 0, 1, 0) := am_code_of (M := tn_m34) rfl (by decide +kernel) rfl rfl
theorem kc_34_6 : am_code tn_G 34 6 = some (.istore_n 2, 1, 0) := am_code_of (M := tn_m34) rfl (by decide +kernel) rfl rfl
theorem kc_34_7 : am_code tn_G 34 7 = some (.iload_n 2, 1, 0) := am_code_of (M := tn_m34) rfl (by decide +kernel) rfl rfl
theorem kc_34_8 : am_code tn_G 34 8 = some (.aload_n 0, 1, 0) := am_code_of (M := tn_m34) rfl (by decide +kernel) rfl rfl
theorem kc_34_9 : am_code tn_G 34 9 = some (.getfield 31, 3, 0) := am_code_of (M := tn_m34) rfl (by decide +kernel) rfl rfl
theorem kf_34_31 : am_fld tn_G 34 31 = some (3, 7) := by decide +kernel
theorem kc_34_12 : am_code tn_G 34 12 = some (.if_icmp .ge 30, 3, 42) := am_code_of (M := tn_m34) rfl (by decide +kernel) rfl (by decide +kernel)
theorem kc_34_15 : am_code tn_G 34 15 = some (.aload_n 0, 1, 0) := am_code_of (M := tn_m34) rfl (by decide +kernel) rfl rfl
theorem kc_34_16 : am_code tn_G 34 16 = some (.getfield 24, 3, 0) := am_code_of (M := tn_m34) rfl (by decide +kernel) rfl rfl
theorem kf_34_24 : am_fld tn_G 34 24 = some (3, 5) := by decide +kernel
theorem kc_34_19 : am_code tn_G 34 19 = some (.aload_n 0, 1, 0) := am_code_of (M := tn_m34) rfl (by decide +kernel) rfl rfl
theorem kc_34_20 : am_code tn_G 34 20 = some (.getfield 21, 3, 0) := am_code_of (M := tn_m34) rfl (by decide +kernel) rfl rfl
theorem kf_34_21 : am_fld tn_G 34 21 = some (3, 4) := by decide +kernel
theorem kc_34_23 : am_code tn_G 34 23 = some (.iload_n 2, 1, 0) := am_code_of (M := tn_m34) rfl (by decide +kernel) rfl rfl
theorem kc_34_24 : am_code tn_G 34 24 = some (.iaload, 1, 0) := am_code_of (M := tn_m34) rfl (by decide +kernel) rfl rfl
theorem kc_34_25 : am_code tn_G 34 25 = some (.aload_n 0, 1, 0) := am_code_of (M := tn_m34) rfl (by decide +kernel) rfl rfl
theorem kc_34_26 : am_code tn_G 34 26 = some (.aload_n 0, 1, 0) := am_code_of (M := tn_m34) rfl (by decide +kernel) rfl rfl
theorem kc_34_27 : am_code tn_G 34 27 = some (.getfield 21, 3, 0) := am_code_of (M := tn_m34) rfl (by decide +kernel) rfl rfl
theorem kc_34_30 : am_code tn_G 34 30 = some (.iload_n 2, 1, 0) := am_code_of (M := tn_m34) rfl (by decide +kernel) rfl rfl
theorem kc_34_31 : am_code tn_G 34 31 = some (.iaload, 1, 0) := am_code_of (M := tn_m34) rfl (by decide +kernel) rfl rfl
theorem kc_34_32 : am_code tn_G 34 32 = some (.invokevirtual 73, 3, 0) := am_code_of (M := tn_m34) rfl (by decide +kernel) rfl rfl
theorem ka_34_73 : am_cal tn_G 34 73 = some (0, 35, 1) := by decide +kernel
theorem kc_34_35 : am_code tn_G 34 35 = some (.iastore, 1, 0) := am_code_of (M := tn_m34) rfl (by decide +kernel) rfl rfl
theorem kc_34_36 : am_code tn_G 34 36 = some (.iinc 2 1, 3, 0) := am_code_of (M := tn_m34) rfl (by decide +kernel) rfl rfl
theorem kc_34_39 : am_code tn_G 34 39 = some (.goto (-32), 3, 7) := am_code_of (M := tn_m34) rfl (by decide +kernel) rfl (by decide +kernel)
theorem kc_34_42 : am_code tn_G 34 42 = some (.aload_n 0, 1, 0) := am_code_of (M := tn_m34) rfl (by decide +kernel) rfl rfl
theorem kc_34_43 : am_code tn_G 34 43 = some (.getfield 24, 3, 0) := am_code_of (M := tn_m34) rfl (by decide +kernel) rfl rfl
theorem kc_34_46 : am_code tn_G 34 46 = some (.aload_n 0, 1, 0) := am_code_of (M := tn_m34) rfl (by decide +kernel) rfl rfl
theorem kc_34_47 : am_code tn_G 34 47 = some (.getfield 34, 3, 0) := am_code_of (M := tn_m34) rfl (by decide +kernel) rfl rfl
theorem kf_34_34 : am_fld tn_G 34 34 = some (3, 0) := by decide +kernel
theorem kc_34_50 : am_code tn_G 34 50 = some (.iload_n 1, 1, 0) := am_code_of (M := tn_m34) rfl (by decide +kernel) rfl rfl
theorem kc_34_51 : am_code tn_G 34 51 = some (.invokevirtual 41, 3, 0) := am_code_of (M := tn_m34) rfl (by decide +kernel) rfl rfl
theorem ka_34_41 : am_cal tn_G 34 41 = some (0, 10, 1) := by decide +kernel
theorem kc_34_54 : am_code tn_G 34 54 = some (.iaload, 1, 0) := am_code_of (M := tn_m34) rfl (by decide +kernel) rfl rfl
theorem kc_34_55 : am_code tn_G 34 55 = some (.ireturn, 1, 0) := am_code_of (M := tn_m34) rfl (by decide +kernel) rfl rfl
-- 35: TermNet$Walk.depthOver(I)I
theorem kl_35 : am_ml tn_G 35 = 4 := rfl
theorem ko_35 : am_oc tn_G 35 = 3 := rfl
theorem kn_35 : am_nc tn_G 35 = 0 := rfl
theorem kr_35 : am_rt tn_G 35 = 1 := rfl
theorem kc_35_0 : am_code tn_G 35 0 = some (.iconst 0, 1, 0) := am_code_of (M := tn_m35) rfl (by decide +kernel) rfl rfl
theorem kc_35_1 : am_code tn_G 35 1 = some (.istore_n 2, 1, 0) := am_code_of (M := tn_m35) rfl (by decide +kernel) rfl rfl
theorem kc_35_2 : am_code tn_G 35 2 = some (.iconst 0, 1, 0) := am_code_of (M := tn_m35) rfl (by decide +kernel) rfl rfl
theorem kc_35_3 : am_code tn_G 35 3 = some (.istore_n 3, 1, 0) := am_code_of (M := tn_m35) rfl (by decide +kernel) rfl rfl
theorem kc_35_4 : am_code tn_G 35 4 = some (.iload_n 3, 1, 0) := am_code_of (M := tn_m35) rfl (by decide +kernel) rfl rfl
theorem kc_35_5 : am_code tn_G 35 5 = some (.aload_n 0, 1, 0) := am_code_of (M := tn_m35) rfl (by decide +kernel) rfl rfl
theorem kc_35_6 : am_code tn_G 35 6 = some (.getfield 34, 3, 0) := am_code_of (M := tn_m35) rfl (by decide +kernel) rfl rfl
theorem kf_35_34 : am_fld tn_G 35 34 = some (3, 0) := by decide +kernel
theorem kc_35_9 : am_code tn_G 35 9 = some (.iload_n 1, 1, 0) := am_code_of (M := tn_m35) rfl (by decide +kernel) rfl rfl
theorem kc_35_10 : am_code tn_G 35 10 = some (.invokevirtual 58, 3, 0) := am_code_of (M := tn_m35) rfl (by decide +kernel) rfl rfl
theorem ka_35_58 : am_cal tn_G 35 58 = some (0, 11, 1) := by decide +kernel
theorem kc_35_13 : am_code tn_G 35 13 = some (.if_icmp .ge 28, 3, 41) := am_code_of (M := tn_m35) rfl (by decide +kernel) rfl (by decide +kernel)
theorem kc_35_16 : am_code tn_G 35 16 = some (.iload_n 2, 1, 0) := am_code_of (M := tn_m35) rfl (by decide +kernel) rfl rfl
theorem kc_35_17 : am_code tn_G 35 17 = some (.aload_n 0, 1, 0) := am_code_of (M := tn_m35) rfl (by decide +kernel) rfl rfl
theorem kc_35_18 : am_code tn_G 35 18 = some (.getfield 24, 3, 0) := am_code_of (M := tn_m35) rfl (by decide +kernel) rfl rfl
theorem kf_35_24 : am_fld tn_G 35 24 = some (3, 5) := by decide +kernel
theorem kc_35_21 : am_code tn_G 35 21 = some (.aload_n 0, 1, 0) := am_code_of (M := tn_m35) rfl (by decide +kernel) rfl rfl
theorem kc_35_22 : am_code tn_G 35 22 = some (.getfield 34, 3, 0) := am_code_of (M := tn_m35) rfl (by decide +kernel) rfl rfl
theorem kc_35_25 : am_code tn_G 35 25 = some (.iload_n 1, 1, 0) := am_code_of (M := tn_m35) rfl (by decide +kernel) rfl rfl
theorem kc_35_26 : am_code tn_G 35 26 = some (.iload_n 3, 1, 0) := am_code_of (M := tn_m35) rfl (by decide +kernel) rfl rfl
theorem kc_35_27 : am_code tn_G 35 27 = some (.invokevirtual 61, 3, 0) := am_code_of (M := tn_m35) rfl (by decide +kernel) rfl rfl
theorem ka_35_61 : am_cal tn_G 35 61 = some (0, 12, 2) := by decide +kernel
theorem kc_35_30 : am_code tn_G 35 30 = some (.iaload, 1, 0) := am_code_of (M := tn_m35) rfl (by decide +kernel) rfl rfl
theorem kc_35_31 : am_code tn_G 35 31 = some (.invokestatic 76, 3, 0) := am_code_of (M := tn_m35) rfl (by decide +kernel) rfl rfl
theorem ka_35_76 : am_cal tn_G 35 76 = some (3, 0, 0) := by decide +kernel
theorem kc_35_34 : am_code tn_G 35 34 = some (.istore_n 2, 1, 0) := am_code_of (M := tn_m35) rfl (by decide +kernel) rfl rfl
theorem kc_35_35 : am_code tn_G 35 35 = some (.iinc 3 1, 3, 0) := am_code_of (M := tn_m35) rfl (by decide +kernel) rfl rfl
theorem kc_35_38 : am_code tn_G 35 38 = some (.goto (-34), 3, 4) := am_code_of (M := tn_m35) rfl (by decide +kernel) rfl (by decide +kernel)
theorem kc_35_41 : am_code tn_G 35 41 = some (.iload_n 2, 1, 0) := am_code_of (M := tn_m35) rfl (by decide +kernel) rfl rfl
theorem kc_35_42 : am_code tn_G 35 42 = some (.iconst 1, 1, 0) := am_code_of (M := tn_m35) rfl (by decide +kernel) rfl rfl
theorem kc_35_43 : am_code tn_G 35 43 = some (.iadd, 1, 0) := am_code_of (M := tn_m35) rfl (by decide +kernel) rfl rfl
theorem kc_35_44 : am_code tn_G 35 44 = some (.ireturn, 1, 0) := am_code_of (M := tn_m35) rfl (by decide +kernel) rfl rfl
-- 36: TermNet$Walk.findsBelow(II)Z
theorem kl_36 : am_ml tn_G 36 = 3 := rfl
theorem ko_36 : am_oc tn_G 36 = 3 := rfl
theorem kn_36 : am_nc tn_G 36 = 0 := rfl
theorem kr_36 : am_rt tn_G 36 = 2 := rfl
theorem kc_36_0 : am_code tn_G 36 0 = some (.aload_n 0, 1, 0) := am_code_of (M := tn_m36) rfl (by decide +kernel) rfl rfl
theorem kc_36_1 : am_code tn_G 36 1 = some (.iload_n 2, 1, 0) := am_code_of (M := tn_m36) rfl (by decide +kernel) rfl rfl
theorem kc_36_2 : am_code tn_G 36 2 = some (.invokevirtual 51, 3, 0) := am_code_of (M := tn_m36) rfl (by decide +kernel) rfl rfl
theorem ka_36_51 : am_cal tn_G 36 51 = some (0, 32, 1) := by decide +kernel
theorem kc_36_5 : am_code tn_G 36 5 = some (.aload_n 0, 1, 0) := am_code_of (M := tn_m36) rfl (by decide +kernel) rfl rfl
theorem kc_36_6 : am_code tn_G 36 6 = some (.getfield 9, 3, 0) := am_code_of (M := tn_m36) rfl (by decide +kernel) rfl rfl
theorem kf_36_9 : am_fld tn_G 36 9 = some (3, 1) := by decide +kernel
theorem kc_36_9 : am_code tn_G 36 9 = some (.aload_n 0, 1, 0) := am_code_of (M := tn_m36) rfl (by decide +kernel) rfl rfl
theorem kc_36_10 : am_code tn_G 36 10 = some (.getfield 34, 3, 0) := am_code_of (M := tn_m36) rfl (by decide +kernel) rfl rfl
theorem kf_36_34 : am_fld tn_G 36 34 = some (3, 0) := by decide +kernel
theorem kc_36_13 : am_code tn_G 36 13 = some (.iload_n 1, 1, 0) := am_code_of (M := tn_m36) rfl (by decide +kernel) rfl rfl
theorem kc_36_14 : am_code tn_G 36 14 = some (.invokevirtual 41, 3, 0) := am_code_of (M := tn_m36) rfl (by decide +kernel) rfl rfl
theorem ka_36_41 : am_cal tn_G 36 41 = some (0, 10, 1) := by decide +kernel
theorem kc_36_17 : am_code tn_G 36 17 = some (.iaload, 1, 0) := am_code_of (M := tn_m36) rfl (by decide +kernel) rfl rfl
theorem kc_36_18 : am_code tn_G 36 18 = some (.iconst 2, 1, 0) := am_code_of (M := tn_m36) rfl (by decide +kernel) rfl rfl
theorem kc_36_19 : am_code tn_G 36 19 = some (.if_icmp .ne 7, 3, 26) := am_code_of (M := tn_m36) rfl (by decide +kernel) rfl (by decide +kernel)
theorem kc_36_22 : am_code tn_G 36 22 = some (.iconst 1, 1, 0) := am_code_of (M := tn_m36) rfl (by decide +kernel) rfl rfl
theorem kc_36_23 : am_code tn_G 36 23 = some (.goto 4, 3, 27) := am_code_of (M := tn_m36) rfl (by decide +kernel) rfl (by decide +kernel)
theorem kc_36_26 : am_code tn_G 36 26 = some (.iconst 0, 1, 0) := am_code_of (M := tn_m36) rfl (by decide +kernel) rfl rfl
theorem kc_36_27 : am_code tn_G 36 27 = some (.ireturn, 1, 0) := am_code_of (M := tn_m36) rfl (by decide +kernel) rfl rfl
-- 37: TermNet$Walk.unknownsBelow(I)I
theorem kl_37 : am_ml tn_G 37 = 4 := rfl
theorem ko_37 : am_oc tn_G 37 = 3 := rfl
theorem kn_37 : am_nc tn_G 37 = 0 := rfl
theorem kr_37 : am_rt tn_G 37 = 1 := rfl
theorem kc_37_0 : am_code tn_G 37 0 = some (.aload_n 0, 1, 0) := am_code_of (M := tn_m37) rfl (by decide +kernel) rfl rfl
theorem kc_37_1 : am_code tn_G 37 1 = some (.iload_n 1, 1, 0) := am_code_of (M := tn_m37) rfl (by decide +kernel) rfl rfl
theorem kc_37_2 : am_code tn_G 37 2 = some (.invokevirtual 51, 3, 0) := am_code_of (M := tn_m37) rfl (by decide +kernel) rfl rfl
theorem ka_37_51 : am_cal tn_G 37 51 = some (0, 32, 1) := by decide +kernel
theorem kc_37_5 : am_code tn_G 37 5 = some (.iconst 0, 1, 0) := am_code_of (M := tn_m37) rfl (by decide +kernel) rfl rfl
theorem kc_37_6 : am_code tn_G 37 6 = some (.istore_n 2, 1, 0) := am_code_of (M := tn_m37) rfl (by decide +kernel) rfl rfl
theorem kc_37_7 : am_code tn_G 37 7 = some (.iconst 0, 1, 0) := am_code_of (M := tn_m37) rfl (by decide +kernel) rfl rfl
theorem kc_37_8 : am_code tn_G 37 8 = some (.istore_n 3, 1, 0) := am_code_of (M := tn_m37) rfl (by decide +kernel) rfl rfl
theorem kc_37_9 : am_code tn_G 37 9 = some (.iload_n 3, 1, 0) := am_code_of (M := tn_m37) rfl (by decide +kernel) rfl rfl
theorem kc_37_10 : am_code tn_G 37 10 = some (.aload_n 0, 1, 0) := am_code_of (M := tn_m37) rfl (by decide +kernel) rfl rfl
theorem kc_37_11 : am_code tn_G 37 11 = some (.getfield 31, 3, 0) := am_code_of (M := tn_m37) rfl (by decide +kernel) rfl rfl
theorem kf_37_31 : am_fld tn_G 37 31 = some (3, 7) := by decide +kernel
theorem kc_37_14 : am_code tn_G 37 14 = some (.if_icmp .ge 28, 3, 42) := am_code_of (M := tn_m37) rfl (by decide +kernel) rfl (by decide +kernel)
theorem kc_37_17 : am_code tn_G 37 17 = some (.aload_n 0, 1, 0) := am_code_of (M := tn_m37) rfl (by decide +kernel) rfl rfl
theorem kc_37_18 : am_code tn_G 37 18 = some (.getfield 34, 3, 0) := am_code_of (M := tn_m37) rfl (by decide +kernel) rfl rfl
theorem kf_37_34 : am_fld tn_G 37 34 = some (3, 0) := by decide +kernel
theorem kc_37_21 : am_code tn_G 37 21 = some (.aload_n 0, 1, 0) := am_code_of (M := tn_m37) rfl (by decide +kernel) rfl rfl
theorem kc_37_22 : am_code tn_G 37 22 = some (.getfield 21, 3, 0) := am_code_of (M := tn_m37) rfl (by decide +kernel) rfl rfl
theorem kf_37_21 : am_fld tn_G 37 21 = some (3, 4) := by decide +kernel
theorem kc_37_25 : am_code tn_G 37 25 = some (.iload_n 3, 1, 0) := am_code_of (M := tn_m37) rfl (by decide +kernel) rfl rfl
theorem kc_37_26 : am_code tn_G 37 26 = some (.iaload, 1, 0) := am_code_of (M := tn_m37) rfl (by decide +kernel) rfl rfl
theorem kc_37_27 : am_code tn_G 37 27 = some (.invokevirtual 79, 3, 0) := am_code_of (M := tn_m37) rfl (by decide +kernel) rfl rfl
theorem ka_37_79 : am_cal tn_G 37 79 = some (0, 15, 1) := by decide +kernel
theorem kc_37_30 : am_code tn_G 37 30 = some (.ifCond .ne 6, 3, 36) := am_code_of (M := tn_m37) rfl (by decide +kernel) rfl (by decide +kernel)
theorem kc_37_33 : am_code tn_G 37 33 = some (.iinc 2 1, 3, 0) := am_code_of (M := tn_m37) rfl (by decide +kernel) rfl rfl
theorem kc_37_36 : am_code tn_G 37 36 = some (.iinc 3 1, 3, 0) := am_code_of (M := tn_m37) rfl (by decide +kernel) rfl rfl
theorem kc_37_39 : am_code tn_G 37 39 = some (.goto (-30), 3, 9) := am_code_of (M := tn_m37) rfl (by decide +kernel) rfl (by decide +kernel)
theorem kc_37_42 : am_code tn_G 37 42 = some (.iload_n 2, 1, 0) := am_code_of (M := tn_m37) rfl (by decide +kernel) rfl rfl
theorem kc_37_43 : am_code tn_G 37 43 = some (.ireturn, 1, 0) := am_code_of (M := tn_m37) rfl (by decide +kernel) rfl rfl
-- 38: TermNet.count(I)I
theorem kl_38 : am_ml tn_G 38 = 2 := rfl
theorem ko_38 : am_oc tn_G 38 = 4 := rfl
theorem kn_38 : am_nc tn_G 38 = 0 := rfl
theorem kr_38 : am_rt tn_G 38 = 1 := rfl
theorem kc_38_0 : am_code tn_G 38 0 = some (.iload_n 1, 1, 0) := am_code_of (M := tn_m38) rfl (by decide +kernel) rfl rfl
theorem kc_38_1 : am_code tn_G 38 1 = some (.tableswitch 89 0 5 #[39, 47, 55, 60, 65, 81], 39, 90) := am_code_of (M := tn_m38) rfl (by decide +kernel) rfl (by decide +kernel)
theorem kc_38_40 : am_code tn_G 38 40 = some (.aload_n 0, 1, 0) := am_code_of (M := tn_m38) rfl (by decide +kernel) rfl rfl
theorem kc_38_41 : am_code tn_G 38 41 = some (.getfield 10, 3, 0) := am_code_of (M := tn_m38) rfl (by decide +kernel) rfl rfl
theorem kf_38_10 : am_fld tn_G 38 10 = some (4, 0) := by decide +kernel
theorem kc_38_44 : am_code tn_G 38 44 = some (.getfield 65, 3, 0) := am_code_of (M := tn_m38) rfl (by decide +kernel) rfl rfl
theorem kf_38_65 : am_fld tn_G 38 65 = some (1, 3) := by decide +kernel
theorem kc_38_47 : am_code tn_G 38 47 = some (.ireturn, 1, 0) := am_code_of (M := tn_m38) rfl (by decide +kernel) rfl rfl
theorem kc_38_48 : am_code tn_G 38 48 = some (.aload_n 0, 1, 0) := am_code_of (M := tn_m38) rfl (by decide +kernel) rfl rfl
theorem kc_38_49 : am_code tn_G 38 49 = some (.getfield 10, 3, 0) := am_code_of (M := tn_m38) rfl (by decide +kernel) rfl rfl
theorem kc_38_52 : am_code tn_G 38 52 = some (.getfield 115, 3, 0) := am_code_of (M := tn_m38) rfl (by decide +kernel) rfl rfl
theorem kf_38_115 : am_fld tn_G 38 115 = some (1, 4) := by decide +kernel
theorem kc_38_55 : am_code tn_G 38 55 = some (.ireturn, 1, 0) := am_code_of (M := tn_m38) rfl (by decide +kernel) rfl rfl
theorem kc_38_56 : am_code tn_G 38 56 = some (.aload_n 0, 1, 0) := am_code_of (M := tn_m38) rfl (by decide +kernel) rfl rfl
theorem kc_38_57 : am_code tn_G 38 57 = some (.getfield 51, 3, 0) := am_code_of (M := tn_m38) rfl (by decide +kernel) rfl rfl
theorem kf_38_51 : am_fld tn_G 38 51 = some (4, 7) := by decide +kernel
theorem kc_38_60 : am_code tn_G 38 60 = some (.ireturn, 1, 0) := am_code_of (M := tn_m38) rfl (by decide +kernel) rfl rfl
theorem kc_38_61 : am_code tn_G 38 61 = some (.aload_n 0, 1, 0) := am_code_of (M := tn_m38) rfl (by decide +kernel) rfl rfl
theorem kc_38_62 : am_code tn_G 38 62 = some (.getfield 55, 3, 0) := am_code_of (M := tn_m38) rfl (by decide +kernel) rfl rfl
theorem kf_38_55 : am_fld tn_G 38 55 = some (4, 8) := by decide +kernel
theorem kc_38_65 : am_code tn_G 38 65 = some (.ireturn, 1, 0) := am_code_of (M := tn_m38) rfl (by decide +kernel) rfl rfl
theorem kc_38_66 : am_code tn_G 38 66 = some (.aload_n 0, 1, 0) := am_code_of (M := tn_m38) rfl (by decide +kernel) rfl rfl
theorem kc_38_67 : am_code tn_G 38 67 = some (.getfield 10, 3, 0) := am_code_of (M := tn_m38) rfl (by decide +kernel) rfl rfl
theorem kc_38_70 : am_code tn_G 38 70 = some (.getfield 115, 3, 0) := am_code_of (M := tn_m38) rfl (by decide +kernel) rfl rfl
theorem kc_38_73 : am_code tn_G 38 73 = some (.aload_n 0, 1, 0) := am_code_of (M := tn_m38) rfl (by decide +kernel) rfl rfl
theorem kc_38_74 : am_code tn_G 38 74 = some (.getfield 21, 3, 0) := am_code_of (M := tn_m38) rfl (by decide +kernel) rfl rfl
theorem kf_38_21 : am_fld tn_G 38 21 = some (4, 1) := by decide +kernel
theorem kc_38_77 : am_code tn_G 38 77 = some (.getfield 104, 3, 0) := am_code_of (M := tn_m38) rfl (by decide +kernel) rfl rfl
theorem kf_38_104 : am_fld tn_G 38 104 = some (0, 5) := by decide +kernel
theorem kc_38_80 : am_code tn_G 38 80 = some (.isub, 1, 0) := am_code_of (M := tn_m38) rfl (by decide +kernel) rfl rfl
theorem kc_38_81 : am_code tn_G 38 81 = some (.ireturn, 1, 0) := am_code_of (M := tn_m38) rfl (by decide +kernel) rfl rfl
theorem kc_38_82 : am_code tn_G 38 82 = some (.aload_n 0, 1, 0) := am_code_of (M := tn_m38) rfl (by decide +kernel) rfl rfl
theorem kc_38_83 : am_code tn_G 38 83 = some (.getfield 21, 3, 0) := am_code_of (M := tn_m38) rfl (by decide +kernel) rfl rfl
theorem kc_38_86 : am_code tn_G 38 86 = some (.invokevirtual 169, 3, 0) := am_code_of (M := tn_m38) rfl (by decide +kernel) rfl rfl
theorem ka_38_169 : am_cal tn_G 38 169 = some (0, 0, 0) := by decide +kernel
theorem kc_38_89 : am_code tn_G 38 89 = some (.ireturn, 1, 0) := am_code_of (M := tn_m38) rfl (by decide +kernel) rfl rfl
theorem kc_38_90 : am_code tn_G 38 90 = some (.iconst (-1), 1, 0) := am_code_of (M := tn_m38) rfl (by decide +kernel) rfl rfl
theorem kc_38_91 : am_code tn_G 38 91 = some (.ireturn, 1, 0) := am_code_of (M := tn_m38) rfl (by decide +kernel) rfl rfl
-- 39: TermNet.sign(I)I
theorem kl_39 : am_ml tn_G 39 = 2 := rfl
theorem ko_39 : am_oc tn_G 39 = 4 := rfl
theorem kn_39 : am_nc tn_G 39 = 1 := rfl
theorem kr_39 : am_rt tn_G 39 = 1 := rfl
theorem kc_39_0 : am_code tn_G 39 0 = some (.iload_n 1, 1, 0) := am_code_of (M := tn_m39) rfl (by decide +kernel) rfl rfl
theorem kc_39_1 : am_code tn_G 39 1 = some (.ifCond .lt 8, 3, 9) := am_code_of (M := tn_m39) rfl (by decide +kernel) rfl (by decide +kernel)
theorem kc_39_4 : am_code tn_G 39 4 = some (.iload_n 1, 1, 0) := am_code_of (M := tn_m39) rfl (by decide +kernel) rfl rfl
theorem kc_39_5 : am_code tn_G 39 5 = some (.iconst 3, 1, 0) := am_code_of (M := tn_m39) rfl (by decide +kernel) rfl rfl
theorem kc_39_6 : am_code tn_G 39 6 = some (.if_icmp .le 13, 3, 19) := am_code_of (M := tn_m39) rfl (by decide +kernel) rfl (by decide +kernel)
theorem kc_39_9 : am_code tn_G 39 9 = some (.new 58, 3, 0) := am_code_of (M := tn_m39) rfl (by decide +kernel) rfl rfl
theorem kt_39_9 : am_th tn_G 39 9 = some "java/lang/IllegalArgumentException" := by decide +kernel
theorem kc_39_19 : am_code tn_G 39 19 = some (.aload_n 0, 1, 0) := am_code_of (M := tn_m39) rfl (by decide +kernel) rfl rfl
theorem kc_39_20 : am_code tn_G 39 20 = some (.getfield 10, 3, 0) := am_code_of (M := tn_m39) rfl (by decide +kernel) rfl rfl
theorem kf_39_10 : am_fld tn_G 39 10 = some (4, 0) := by decide +kernel
theorem kc_39_23 : am_code tn_G 39 23 = some (.getfield 65, 3, 0) := am_code_of (M := tn_m39) rfl (by decide +kernel) rfl rfl
theorem kf_39_65 : am_fld tn_G 39 65 = some (1, 3) := by decide +kernel
theorem kc_39_26 : am_code tn_G 39 26 = some (.bipush 40, 2, 0) := am_code_of (M := tn_m39) rfl (by decide +kernel) rfl rfl
theorem kc_39_28 : am_code tn_G 39 28 = some (.if_icmp .ne 13, 3, 41) := am_code_of (M := tn_m39) rfl (by decide +kernel) rfl (by decide +kernel)
theorem kc_39_31 : am_code tn_G 39 31 = some (.new 68, 3, 0) := am_code_of (M := tn_m39) rfl (by decide +kernel) rfl rfl
theorem kt_39_31 : am_th tn_G 39 31 = some "java/lang/IndexOutOfBoundsException" := by decide +kernel
theorem kc_39_41 : am_code tn_G 39 41 = some (.aload_n 0, 1, 0) := am_code_of (M := tn_m39) rfl (by decide +kernel) rfl rfl
theorem kc_39_42 : am_code tn_G 39 42 = some (.getfield 10, 3, 0) := am_code_of (M := tn_m39) rfl (by decide +kernel) rfl rfl
theorem kc_39_45 : am_code tn_G 39 45 = some (.iload_n 1, 1, 0) := am_code_of (M := tn_m39) rfl (by decide +kernel) rfl rfl
theorem kc_39_46 : am_code tn_G 39 46 = some (.invokevirtual 73, 3, 0) := am_code_of (M := tn_m39) rfl (by decide +kernel) rfl rfl
theorem ka_39_73 : am_cal tn_G 39 73 = some (0, 16, 1) := by decide +kernel
theorem kc_39_49 : am_code tn_G 39 49 = some (.ireturn, 1, 0) := am_code_of (M := tn_m39) rfl (by decide +kernel) rfl rfl
-- 40: TermNet.unknown()I
theorem kl_40 : am_ml tn_G 40 = 2 := rfl
theorem ko_40 : am_oc tn_G 40 = 4 := rfl
theorem kn_40 : am_nc tn_G 40 = 1 := rfl
theorem kr_40 : am_rt tn_G 40 = 1 := rfl
theorem kc_40_0 : am_code tn_G 40 0 = some (.aload_n 0, 1, 0) := am_code_of (M := tn_m40) rfl (by decide +kernel) rfl rfl
theorem kc_40_1 : am_code tn_G 40 1 = some (.invokevirtual 77, 3, 0) := am_code_of (M := tn_m40) rfl (by decide +kernel) rfl rfl
theorem ka_40_77 : am_cal tn_G 40 77 = some (0, 41, 0) := by decide +kernel
theorem kc_40_4 : am_code tn_G 40 4 = some (.aload_n 0, 1, 0) := am_code_of (M := tn_m40) rfl (by decide +kernel) rfl rfl
theorem kc_40_5 : am_code tn_G 40 5 = some (.getfield 10, 3, 0) := am_code_of (M := tn_m40) rfl (by decide +kernel) rfl rfl
theorem kf_40_10 : am_fld tn_G 40 10 = some (4, 0) := by decide +kernel
theorem kc_40_8 : am_code tn_G 40 8 = some (.invokevirtual 80, 3, 0) := am_code_of (M := tn_m40) rfl (by decide +kernel) rfl rfl
theorem ka_40_80 : am_cal tn_G 40 80 = some (0, 17, 0) := by decide +kernel
theorem kc_40_11 : am_code tn_G 40 11 = some (.istore_n 1, 1, 0) := am_code_of (M := tn_m40) rfl (by decide +kernel) rfl rfl
theorem kc_40_12 : am_code tn_G 40 12 = some (.aload_n 0, 1, 0) := am_code_of (M := tn_m40) rfl (by decide +kernel) rfl rfl
theorem kc_40_13 : am_code tn_G 40 13 = some (.getfield 21, 3, 0) := am_code_of (M := tn_m40) rfl (by decide +kernel) rfl rfl
theorem kf_40_21 : am_fld tn_G 40 21 = some (4, 1) := by decide +kernel
theorem kc_40_16 : am_code tn_G 40 16 = some (.iload_n 1, 1, 0) := am_code_of (M := tn_m40) rfl (by decide +kernel) rfl rfl
theorem kc_40_17 : am_code tn_G 40 17 = some (.invokevirtual 84, 3, 0) := am_code_of (M := tn_m40) rfl (by decide +kernel) rfl rfl
theorem ka_40_84 : am_cal tn_G 40 84 = some (0, 1, 1) := by decide +kernel
theorem kc_40_20 : am_code tn_G 40 20 = some (.iload_n 1, 1, 0) := am_code_of (M := tn_m40) rfl (by decide +kernel) rfl rfl
theorem kc_40_21 : am_code tn_G 40 21 = some (.ireturn, 1, 0) := am_code_of (M := tn_m40) rfl (by decide +kernel) rfl rfl
-- 41: TermNet.refuseWhenFull()V
theorem kl_41 : am_ml tn_G 41 = 1 := rfl
theorem ko_41 : am_oc tn_G 41 = 4 := rfl
theorem kn_41 : am_nc tn_G 41 = 1 := rfl
theorem kr_41 : am_rt tn_G 41 = 0 := rfl
theorem kc_41_0 : am_code tn_G 41 0 = some (.aload_n 0, 1, 0) := am_code_of (M := tn_m41) rfl (by decide +kernel) rfl rfl
theorem kc_41_1 : am_code tn_G 41 1 = some (.getfield 10, 3, 0) := am_code_of (M := tn_m41) rfl (by decide +kernel) rfl rfl
theorem kf_41_10 : am_fld tn_G 41 10 = some (4, 0) := by decide +kernel
theorem kc_41_4 : am_code tn_G 41 4 = some (.getfield 115, 3, 0) := am_code_of (M := tn_m41) rfl (by decide +kernel) rfl rfl
theorem kf_41_115 : am_fld tn_G 41 115 = some (1, 4) := by decide +kernel
theorem kc_41_7 : am_code tn_G 41 7 = some (.sipush 400, 3, 0) := am_code_of (M := tn_m41) rfl (by decide +kernel) rfl rfl
theorem kc_41_10 : am_code tn_G 41 10 = some (.if_icmp .ne 13, 3, 23) := am_code_of (M := tn_m41) rfl (by decide +kernel) rfl (by decide +kernel)
theorem kc_41_13 : am_code tn_G 41 13 = some (.new 68, 3, 0) := am_code_of (M := tn_m41) rfl (by decide +kernel) rfl rfl
theorem kt_41_13 : am_th tn_G 41 13 = some "java/lang/IndexOutOfBoundsException" := by decide +kernel
theorem kc_41_23 : am_code tn_G 41 23 = some (.return_, 1, 0) := am_code_of (M := tn_m41) rfl (by decide +kernel) rfl rfl
-- 42: TermNet.term(IIII)I
theorem kl_42 : am_ml tn_G 42 = 6 := rfl
theorem ko_42 : am_oc tn_G 42 = 4 := rfl
theorem kn_42 : am_nc tn_G 42 = 1 := rfl
theorem kr_42 : am_rt tn_G 42 = 1 := rfl
theorem kc_42_0 : am_code tn_G 42 0 = some (.aload_n 0, 1, 0) := am_code_of (M := tn_m42) rfl (by decide +kernel) rfl rfl
theorem kc_42_1 : am_code tn_G 42 1 = some (.getfield 10, 3, 0) := am_code_of (M := tn_m42) rfl (by decide +kernel) rfl rfl
theorem kf_42_10 : am_fld tn_G 42 10 = some (4, 0) := by decide +kernel
theorem kc_42_4 : am_code tn_G 42 4 = some (.iload_n 1, 1, 0) := am_code_of (M := tn_m42) rfl (by decide +kernel) rfl rfl
theorem kc_42_5 : am_code tn_G 42 5 = some (.iload_n 2, 1, 0) := am_code_of (M := tn_m42) rfl (by decide +kernel) rfl rfl
theorem kc_42_6 : am_code tn_G 42 6 = some (.iload_n 3, 1, 0) := am_code_of (M := tn_m42) rfl (by decide +kernel) rfl rfl
theorem kc_42_7 : am_code tn_G 42 7 = some (.iload 4, 2, 0) := am_code_of (M := tn_m42) rfl (by decide +kernel) rfl rfl
theorem kc_42_9 : am_code tn_G 42 9 = some (.invokevirtual 88, 3, 0) := am_code_of (M := tn_m42) rfl (by decide +kernel) rfl rfl
theorem ka_42_88 : am_cal tn_G 42 88 = some (0, 18, 4) := by decide +kernel
theorem kc_42_12 : am_code tn_G 42 12 = some (.ifCond .ne 13, 3, 25) := am_code_of (M := tn_m42) rfl (by decide +kernel) rfl (by decide +kernel)
theorem kc_42_15 : am_code tn_G 42 15 = some (.new 58, 3, 0) := am_code_of (M := tn_m42) rfl (by decide +kernel) rfl rfl
theorem kt_42_15 : am_th tn_G 42 15 = some "java/lang/IllegalArgumentException" := by decide +kernel
theorem kc_42_25 : am_code tn_G 42 25 = some (.aload_n 0, 1, 0) := am_code_of (M := tn_m42) rfl (by decide +kernel) rfl rfl
theorem kc_42_26 : am_code tn_G 42 26 = some (.invokevirtual 77, 3, 0) := am_code_of (M := tn_m42) rfl (by decide +kernel) rfl rfl
theorem ka_42_77 : am_cal tn_G 42 77 = some (0, 41, 0) := by decide +kernel
theorem kc_42_29 : am_code tn_G 42 29 = some (.aload_n 0, 1, 0) := am_code_of (M := tn_m42) rfl (by decide +kernel) rfl rfl
theorem kc_42_30 : am_code tn_G 42 30 = some (.getfield 10, 3, 0) := am_code_of (M := tn_m42) rfl (by decide +kernel) rfl rfl
theorem kc_42_33 : am_code tn_G 42 33 = some (.iload_n 1, 1, 0) := am_code_of (M := tn_m42) rfl (by decide +kernel) rfl rfl
theorem kc_42_34 : am_code tn_G 42 34 = some (.iload_n 2, 1, 0) := am_code_of (M := tn_m42) rfl (by decide +kernel) rfl rfl
theorem kc_42_35 : am_code tn_G 42 35 = some (.iload_n 3, 1, 0) := am_code_of (M := tn_m42) rfl (by decide +kernel) rfl rfl
theorem kc_42_36 : am_code tn_G 42 36 = some (.iload 4, 2, 0) := am_code_of (M := tn_m42) rfl (by decide +kernel) rfl rfl
theorem kc_42_38 : am_code tn_G 42 38 = some (.invokevirtual 94, 3, 0) := am_code_of (M := tn_m42) rfl (by decide +kernel) rfl rfl
theorem ka_42_94 : am_cal tn_G 42 94 = some (0, 20, 4) := by decide +kernel
theorem kc_42_41 : am_code tn_G 42 41 = some (.istore 5, 2, 0) := am_code_of (M := tn_m42) rfl (by decide +kernel) rfl rfl
theorem kc_42_43 : am_code tn_G 42 43 = some (.aload_n 0, 1, 0) := am_code_of (M := tn_m42) rfl (by decide +kernel) rfl rfl
theorem kc_42_44 : am_code tn_G 42 44 = some (.getfield 21, 3, 0) := am_code_of (M := tn_m42) rfl (by decide +kernel) rfl rfl
theorem kf_42_21 : am_fld tn_G 42 21 = some (4, 1) := by decide +kernel
theorem kc_42_47 : am_code tn_G 42 47 = some (.iload 5, 2, 0) := am_code_of (M := tn_m42) rfl (by decide +kernel) rfl rfl
theorem kc_42_49 : am_code tn_G 42 49 = some (.invokevirtual 84, 3, 0) := am_code_of (M := tn_m42) rfl (by decide +kernel) rfl rfl
theorem ka_42_84 : am_cal tn_G 42 84 = some (0, 1, 1) := by decide +kernel
theorem kc_42_52 : am_code tn_G 42 52 = some (.aload_n 0, 1, 0) := am_code_of (M := tn_m42) rfl (by decide +kernel) rfl rfl
theorem kc_42_53 : am_code tn_G 42 53 = some (.getfield 21, 3, 0) := am_code_of (M := tn_m42) rfl (by decide +kernel) rfl rfl
theorem kc_42_56 : am_code tn_G 42 56 = some (.iload 5, 2, 0) := am_code_of (M := tn_m42) rfl (by decide +kernel) rfl rfl
theorem kc_42_58 : am_code tn_G 42 58 = some (.invokevirtual 98, 3, 0) := am_code_of (M := tn_m42) rfl (by decide +kernel) rfl rfl
theorem ka_42_98 : am_cal tn_G 42 98 = some (0, 2, 1) := by decide +kernel
theorem kc_42_61 : am_code tn_G 42 61 = some (.iload 5, 2, 0) := am_code_of (M := tn_m42) rfl (by decide +kernel) rfl rfl
theorem kc_42_63 : am_code tn_G 42 63 = some (.ireturn, 1, 0) := am_code_of (M := tn_m42) rfl (by decide +kernel) rfl rfl
-- 43: TermNet.equal(II)Z
theorem kl_43 : am_ml tn_G 43 = 4 := rfl
theorem ko_43 : am_oc tn_G 43 = 4 := rfl
theorem kn_43 : am_nc tn_G 43 = 2 := rfl
theorem kr_43 : am_rt tn_G 43 = 2 := rfl
theorem kc_43_0 : am_code tn_G 43 0 = some (.aload_n 0, 1, 0) := am_code_of (M := tn_m43) rfl (by decide +kernel) rfl rfl
theorem kc_43_1 : am_code tn_G 43 1 = some (.iload_n 1, 1, 0) := am_code_of (M := tn_m43) rfl (by decide +kernel) rfl rfl
theorem kc_43_2 : am_code tn_G 43 2 = some (.invokevirtual 101, 3, 0) := am_code_of (M := tn_m43) rfl (by decide +kernel) rfl rfl
theorem ka_43_101 : am_cal tn_G 43 101 = some (0, 44, 1) := by decide +kernel
theorem kc_43_5 : am_code tn_G 43 5 = some (.aload_n 0, 1, 0) := am_code_of (M := tn_m43) rfl (by decide +kernel) rfl rfl
theorem kc_43_6 : am_code tn_G 43 6 = some (.iload_n 2, 1, 0) := am_code_of (M := tn_m43) rfl (by decide +kernel) rfl rfl
theorem kc_43_7 : am_code tn_G 43 7 = some (.invokevirtual 101, 3, 0) := am_code_of (M := tn_m43) rfl (by decide +kernel) rfl rfl
theorem kc_43_10 : am_code tn_G 43 10 = some (.aload_n 0, 1, 0) := am_code_of (M := tn_m43) rfl (by decide +kernel) rfl rfl
theorem kc_43_11 : am_code tn_G 43 11 = some (.getfield 21, 3, 0) := am_code_of (M := tn_m43) rfl (by decide +kernel) rfl rfl
theorem kf_43_21 : am_fld tn_G 43 21 = some (4, 1) := by decide +kernel
theorem kc_43_14 : am_code tn_G 43 14 = some (.getfield 104, 3, 0) := am_code_of (M := tn_m43) rfl (by decide +kernel) rfl rfl
theorem kf_43_104 : am_fld tn_G 43 104 = some (0, 5) := by decide +kernel
theorem kc_43_17 : am_code tn_G 43 17 = some (.istore_n 3, 1, 0) := am_code_of (M := tn_m43) rfl (by decide +kernel) rfl rfl
theorem kc_43_18 : am_code tn_G 43 18 = some (.aload_n 0, 1, 0) := am_code_of (M := tn_m43) rfl (by decide +kernel) rfl rfl
theorem kc_43_19 : am_code tn_G 43 19 = some (.getfield 21, 3, 0) := am_code_of (M := tn_m43) rfl (by decide +kernel) rfl rfl
theorem kc_43_22 : am_code tn_G 43 22 = some (.iload_n 1, 1, 0) := am_code_of (M := tn_m43) rfl (by decide +kernel) rfl rfl
theorem kc_43_23 : am_code tn_G 43 23 = some (.iload_n 2, 1, 0) := am_code_of (M := tn_m43) rfl (by decide +kernel) rfl rfl
theorem kc_43_24 : am_code tn_G 43 24 = some (.invokevirtual 107, 3, 0) := am_code_of (M := tn_m43) rfl (by decide +kernel) rfl rfl
theorem ka_43_107 : am_cal tn_G 43 107 = some (0, 4, 2) := by decide +kernel
theorem kc_43_27 : am_code tn_G 43 27 = some (.aload_n 0, 1, 0) := am_code_of (M := tn_m43) rfl (by decide +kernel) rfl rfl
theorem kc_43_28 : am_code tn_G 43 28 = some (.getfield 21, 3, 0) := am_code_of (M := tn_m43) rfl (by decide +kernel) rfl rfl
theorem kc_43_31 : am_code tn_G 43 31 = some (.iload_n 3, 1, 0) := am_code_of (M := tn_m43) rfl (by decide +kernel) rfl rfl
theorem kc_43_32 : am_code tn_G 43 32 = some (.invokevirtual 111, 3, 0) := am_code_of (M := tn_m43) rfl (by decide +kernel) rfl rfl
theorem ka_43_111 : am_cal tn_G 43 111 = some (0, 7, 1) := by decide +kernel
theorem kc_43_35 : am_code tn_G 43 35 = some (.ifCond .eq 20, 3, 55) := am_code_of (M := tn_m43) rfl (by decide +kernel) rfl (by decide +kernel)
theorem kc_43_38 : am_code tn_G 43 38 = some (.aload_n 0, 1, 0) := am_code_of (M := tn_m43) rfl (by decide +kernel) rfl rfl
theorem kc_43_39 : am_code tn_G 43 39 = some (.getfield 30, 3, 0) := am_code_of (M := tn_m43) rfl (by decide +kernel) rfl rfl
theorem kf_43_30 : am_fld tn_G 43 30 = some (4, 2) := by decide +kernel
theorem kc_43_42 : am_code tn_G 43 42 = some (.aload_n 0, 1, 0) := am_code_of (M := tn_m43) rfl (by decide +kernel) rfl rfl
theorem kc_43_43 : am_code tn_G 43 43 = some (.getfield 10, 3, 0) := am_code_of (M := tn_m43) rfl (by decide +kernel) rfl rfl
theorem kf_43_10 : am_fld tn_G 43 10 = some (4, 0) := by decide +kernel
theorem kc_43_46 : am_code tn_G 43 46 = some (.getfield 115, 3, 0) := am_code_of (M := tn_m43) rfl (by decide +kernel) rfl rfl
theorem kf_43_115 : am_fld tn_G 43 115 = some (1, 4) := by decide +kernel
theorem kc_43_49 : am_code tn_G 43 49 = some (.invokevirtual 118, 3, 0) := am_code_of (M := tn_m43) rfl (by decide +kernel) rfl rfl
theorem ka_43_118 : am_cal tn_G 43 118 = some (0, 26, 1) := by decide +kernel
theorem kc_43_52 : am_code tn_G 43 52 = some (.ifCond .ne 13, 3, 65) := am_code_of (M := tn_m43) rfl (by decide +kernel) rfl (by decide +kernel)
theorem kc_43_55 : am_code tn_G 43 55 = some (.aload_n 0, 1, 0) := am_code_of (M := tn_m43) rfl (by decide +kernel) rfl rfl
theorem kc_43_56 : am_code tn_G 43 56 = some (.getfield 21, 3, 0) := am_code_of (M := tn_m43) rfl (by decide +kernel) rfl rfl
theorem kc_43_59 : am_code tn_G 43 59 = some (.iload_n 3, 1, 0) := am_code_of (M := tn_m43) rfl (by decide +kernel) rfl rfl
theorem kc_43_60 : am_code tn_G 43 60 = some (.invokevirtual 121, 3, 0) := am_code_of (M := tn_m43) rfl (by decide +kernel) rfl rfl
theorem ka_43_121 : am_cal tn_G 43 121 = some (0, 13, 1) := by decide +kernel
theorem kc_43_63 : am_code tn_G 43 63 = some (.iconst 0, 1, 0) := am_code_of (M := tn_m43) rfl (by decide +kernel) rfl rfl
theorem kc_43_64 : am_code tn_G 43 64 = some (.ireturn, 1, 0) := am_code_of (M := tn_m43) rfl (by decide +kernel) rfl rfl
theorem kc_43_65 : am_code tn_G 43 65 = some (.aload_n 0, 1, 0) := am_code_of (M := tn_m43) rfl (by decide +kernel) rfl rfl
theorem kc_43_66 : am_code tn_G 43 66 = some (.getfield 37, 3, 0) := am_code_of (M := tn_m43) rfl (by decide +kernel) rfl rfl
theorem kf_43_37 : am_fld tn_G 43 37 = some (4, 3) := by decide +kernel
theorem kc_43_69 : am_code tn_G 43 69 = some (.aload_n 0, 1, 0) := am_code_of (M := tn_m43) rfl (by decide +kernel) rfl rfl
theorem kc_43_70 : am_code tn_G 43 70 = some (.getfield 30, 3, 0) := am_code_of (M := tn_m43) rfl (by decide +kernel) rfl rfl
theorem kc_43_73 : am_code tn_G 43 73 = some (.invokevirtual 124, 3, 0) := am_code_of (M := tn_m43) rfl (by decide +kernel) rfl rfl
theorem ka_43_124 : am_cal tn_G 43 124 = some (0, 23, 1) := by decide +kernel
theorem kc_43_76 : am_code tn_G 43 76 = some (.aload_n 0, 1, 0) := am_code_of (M := tn_m43) rfl (by decide +kernel) rfl rfl
theorem kc_43_77 : am_code tn_G 43 77 = some (.dup, 1, 0) := am_code_of (M := tn_m43) rfl (by decide +kernel) rfl rfl
theorem kc_43_78 : am_code tn_G 43 78 = some (.getfield 55, 3, 0) := am_code_of (M := tn_m43) rfl (by decide +kernel) rfl rfl
theorem kf_43_55 : am_fld tn_G 43 55 = some (4, 8) := by decide +kernel
theorem kc_43_81 : am_code tn_G 43 81 = some (.iconst 1, 1, 0) := am_code_of (M := tn_m43) rfl (by decide +kernel) rfl rfl
theorem kc_43_82 : am_code tn_G 43 82 = some (.iadd, 1, 0) := am_code_of (M := tn_m43) rfl (by decide +kernel) rfl rfl
theorem kc_43_83 : am_code tn_G 43 83 = some (.putfield 55, 3, 0) := am_code_of (M := tn_m43) rfl (by decide +kernel) rfl rfl
theorem kc_43_86 : am_code tn_G 43 86 = some (.iconst 1, 1, 0) := am_code_of (M := tn_m43) rfl (by decide +kernel) rfl rfl
theorem kc_43_87 : am_code tn_G 43 87 = some (.ireturn, 1, 0) := am_code_of (M := tn_m43) rfl (by decide +kernel) rfl rfl
-- 44: TermNet.refuseUnlessTerm(I)V
theorem kl_44 : am_ml tn_G 44 = 2 := rfl
theorem ko_44 : am_oc tn_G 44 = 4 := rfl
theorem kn_44 : am_nc tn_G 44 = 1 := rfl
theorem kr_44 : am_rt tn_G 44 = 0 := rfl
theorem kc_44_0 : am_code tn_G 44 0 = some (.aload_n 0, 1, 0) := am_code_of (M := tn_m44) rfl (by decide +kernel) rfl rfl
theorem kc_44_1 : am_code tn_G 44 1 = some (.getfield 10, 3, 0) := am_code_of (M := tn_m44) rfl (by decide +kernel) rfl rfl
theorem kf_44_10 : am_fld tn_G 44 10 = some (4, 0) := by decide +kernel
theorem kc_44_4 : am_code tn_G 44 4 = some (.iload_n 1, 1, 0) := am_code_of (M := tn_m44) rfl (by decide +kernel) rfl rfl
theorem kc_44_5 : am_code tn_G 44 5 = some (.invokevirtual 172, 3, 0) := am_code_of (M := tn_m44) rfl (by decide +kernel) rfl rfl
theorem ka_44_172 : am_cal tn_G 44 172 = some (0, 19, 1) := by decide +kernel
theorem kc_44_8 : am_code tn_G 44 8 = some (.ifCond .ne 13, 3, 21) := am_code_of (M := tn_m44) rfl (by decide +kernel) rfl (by decide +kernel)
theorem kc_44_11 : am_code tn_G 44 11 = some (.new 58, 3, 0) := am_code_of (M := tn_m44) rfl (by decide +kernel) rfl rfl
theorem kt_44_11 : am_th tn_G 44 11 = some "java/lang/IllegalArgumentException" := by decide +kernel
theorem kc_44_21 : am_code tn_G 44 21 = some (.return_, 1, 0) := am_code_of (M := tn_m44) rfl (by decide +kernel) rfl rfl
-- 45: TermNet.same(II)Z
theorem kl_45 : am_ml tn_G 45 = 3 := rfl
theorem ko_45 : am_oc tn_G 45 = 4 := rfl
theorem kn_45 : am_nc tn_G 45 = 2 := rfl
theorem kr_45 : am_rt tn_G 45 = 2 := rfl
theorem kc_45_0 : am_code tn_G 45 0 = some (.aload_n 0, 1, 0) := am_code_of (M := tn_m45) rfl (by decide +kernel) rfl rfl
theorem kc_45_1 : am_code tn_G 45 1 = some (.iload_n 1, 1, 0) := am_code_of (M := tn_m45) rfl (by decide +kernel) rfl rfl
theorem kc_45_2 : am_code tn_G 45 2 = some (.invokevirtual 101, 3, 0) := am_code_of (M := tn_m45) rfl (by decide +kernel) rfl rfl
theorem ka_45_101 : am_cal tn_G 45 101 = some (0, 44, 1) := by decide +kernel
theorem kc_45_5 : am_code tn_G 45 5 = some (.aload_n 0, 1, 0) := am_code_of (M := tn_m45) rfl (by decide +kernel) rfl rfl
theorem kc_45_6 : am_code tn_G 45 6 = some (.iload_n 2, 1, 0) := am_code_of (M := tn_m45) rfl (by decide +kernel) rfl rfl
theorem kc_45_7 : am_code tn_G 45 7 = some (.invokevirtual 101, 3, 0) := am_code_of (M := tn_m45) rfl (by decide +kernel) rfl rfl
theorem kc_45_10 : am_code tn_G 45 10 = some (.aload_n 0, 1, 0) := am_code_of (M := tn_m45) rfl (by decide +kernel) rfl rfl
theorem kc_45_11 : am_code tn_G 45 11 = some (.getfield 21, 3, 0) := am_code_of (M := tn_m45) rfl (by decide +kernel) rfl rfl
theorem kf_45_21 : am_fld tn_G 45 21 = some (4, 1) := by decide +kernel
theorem kc_45_14 : am_code tn_G 45 14 = some (.iload_n 1, 1, 0) := am_code_of (M := tn_m45) rfl (by decide +kernel) rfl rfl
theorem kc_45_15 : am_code tn_G 45 15 = some (.invokevirtual 128, 3, 0) := am_code_of (M := tn_m45) rfl (by decide +kernel) rfl rfl
theorem ka_45_128 : am_cal tn_G 45 128 = some (0, 10, 1) := by decide +kernel
theorem kc_45_18 : am_code tn_G 45 18 = some (.aload_n 0, 1, 0) := am_code_of (M := tn_m45) rfl (by decide +kernel) rfl rfl
theorem kc_45_19 : am_code tn_G 45 19 = some (.getfield 21, 3, 0) := am_code_of (M := tn_m45) rfl (by decide +kernel) rfl rfl
theorem kc_45_22 : am_code tn_G 45 22 = some (.iload_n 2, 1, 0) := am_code_of (M := tn_m45) rfl (by decide +kernel) rfl rfl
theorem kc_45_23 : am_code tn_G 45 23 = some (.invokevirtual 128, 3, 0) := am_code_of (M := tn_m45) rfl (by decide +kernel) rfl rfl
theorem kc_45_26 : am_code tn_G 45 26 = some (.if_icmp .ne 7, 3, 33) := am_code_of (M := tn_m45) rfl (by decide +kernel) rfl (by decide +kernel)
theorem kc_45_29 : am_code tn_G 45 29 = some (.iconst 1, 1, 0) := am_code_of (M := tn_m45) rfl (by decide +kernel) rfl rfl
theorem kc_45_30 : am_code tn_G 45 30 = some (.goto 4, 3, 34) := am_code_of (M := tn_m45) rfl (by decide +kernel) rfl (by decide +kernel)
theorem kc_45_33 : am_code tn_G 45 33 = some (.iconst 0, 1, 0) := am_code_of (M := tn_m45) rfl (by decide +kernel) rfl rfl
theorem kc_45_34 : am_code tn_G 45 34 = some (.ireturn, 1, 0) := am_code_of (M := tn_m45) rfl (by decide +kernel) rfl rfl
-- 46: TermNet.top(I)I
theorem kl_46 : am_ml tn_G 46 = 2 := rfl
theorem ko_46 : am_oc tn_G 46 = 4 := rfl
theorem kn_46 : am_nc tn_G 46 = 1 := rfl
theorem kr_46 : am_rt tn_G 46 = 1 := rfl
theorem kc_46_0 : am_code tn_G 46 0 = some (.aload_n 0, 1, 0) := am_code_of (M := tn_m46) rfl (by decide +kernel) rfl rfl
theorem kc_46_1 : am_code tn_G 46 1 = some (.iload_n 1, 1, 0) := am_code_of (M := tn_m46) rfl (by decide +kernel) rfl rfl
theorem kc_46_2 : am_code tn_G 46 2 = some (.invokevirtual 101, 3, 0) := am_code_of (M := tn_m46) rfl (by decide +kernel) rfl rfl
theorem ka_46_101 : am_cal tn_G 46 101 = some (0, 44, 1) := by decide +kernel
theorem kc_46_5 : am_code tn_G 46 5 = some (.aload_n 0, 1, 0) := am_code_of (M := tn_m46) rfl (by decide +kernel) rfl rfl
theorem kc_46_6 : am_code tn_G 46 6 = some (.getfield 21, 3, 0) := am_code_of (M := tn_m46) rfl (by decide +kernel) rfl rfl
theorem kf_46_21 : am_fld tn_G 46 21 = some (4, 1) := by decide +kernel
theorem kc_46_9 : am_code tn_G 46 9 = some (.iload_n 1, 1, 0) := am_code_of (M := tn_m46) rfl (by decide +kernel) rfl rfl
theorem kc_46_10 : am_code tn_G 46 10 = some (.invokevirtual 131, 3, 0) := am_code_of (M := tn_m46) rfl (by decide +kernel) rfl rfl
theorem ka_46_131 : am_cal tn_G 46 131 = some (0, 15, 1) := by decide +kernel
theorem kc_46_13 : am_code tn_G 46 13 = some (.ifCond .eq 22, 3, 35) := am_code_of (M := tn_m46) rfl (by decide +kernel) rfl (by decide +kernel)
theorem kc_46_16 : am_code tn_G 46 16 = some (.aload_n 0, 1, 0) := am_code_of (M := tn_m46) rfl (by decide +kernel) rfl rfl
theorem kc_46_17 : am_code tn_G 46 17 = some (.getfield 10, 3, 0) := am_code_of (M := tn_m46) rfl (by decide +kernel) rfl rfl
theorem kf_46_10 : am_fld tn_G 46 10 = some (4, 0) := by decide +kernel
theorem kc_46_20 : am_code tn_G 46 20 = some (.getfield 134, 3, 0) := am_code_of (M := tn_m46) rfl (by decide +kernel) rfl rfl
theorem kf_46_134 : am_fld tn_G 46 134 = some (1, 1) := by decide +kernel
theorem kc_46_23 : am_code tn_G 46 23 = some (.aload_n 0, 1, 0) := am_code_of (M := tn_m46) rfl (by decide +kernel) rfl rfl
theorem kc_46_24 : am_code tn_G 46 24 = some (.getfield 21, 3, 0) := am_code_of (M := tn_m46) rfl (by decide +kernel) rfl rfl
theorem kc_46_27 : am_code tn_G 46 27 = some (.iload_n 1, 1, 0) := am_code_of (M := tn_m46) rfl (by decide +kernel) rfl rfl
theorem kc_46_28 : am_code tn_G 46 28 = some (.invokevirtual 137, 3, 0) := am_code_of (M := tn_m46) rfl (by decide +kernel) rfl rfl
theorem ka_46_137 : am_cal tn_G 46 137 = some (0, 9, 1) := by decide +kernel
theorem kc_46_31 : am_code tn_G 46 31 = some (.iaload, 1, 0) := am_code_of (M := tn_m46) rfl (by decide +kernel) rfl rfl
theorem kc_46_32 : am_code tn_G 46 32 = some (.goto 4, 3, 36) := am_code_of (M := tn_m46) rfl (by decide +kernel) rfl (by decide +kernel)
theorem kc_46_35 : am_code tn_G 46 35 = some (.iconst (-1), 1, 0) := am_code_of (M := tn_m46) rfl (by decide +kernel) rfl rfl
theorem kc_46_36 : am_code tn_G 46 36 = some (.ireturn, 1, 0) := am_code_of (M := tn_m46) rfl (by decide +kernel) rfl rfl
-- 47: TermNet.part(II)I
theorem kl_47 : am_ml tn_G 47 = 3 := rfl
theorem ko_47 : am_oc tn_G 47 = 4 := rfl
theorem kn_47 : am_nc tn_G 47 = 2 := rfl
theorem kr_47 : am_rt tn_G 47 = 1 := rfl
theorem kc_47_0 : am_code tn_G 47 0 = some (.aload_n 0, 1, 0) := am_code_of (M := tn_m47) rfl (by decide +kernel) rfl rfl
theorem kc_47_1 : am_code tn_G 47 1 = some (.iload_n 1, 1, 0) := am_code_of (M := tn_m47) rfl (by decide +kernel) rfl rfl
theorem kc_47_2 : am_code tn_G 47 2 = some (.invokevirtual 101, 3, 0) := am_code_of (M := tn_m47) rfl (by decide +kernel) rfl rfl
theorem ka_47_101 : am_cal tn_G 47 101 = some (0, 44, 1) := by decide +kernel
theorem kc_47_5 : am_code tn_G 47 5 = some (.iload_n 2, 1, 0) := am_code_of (M := tn_m47) rfl (by decide +kernel) rfl rfl
theorem kc_47_6 : am_code tn_G 47 6 = some (.ifCond .lt 15, 3, 21) := am_code_of (M := tn_m47) rfl (by decide +kernel) rfl (by decide +kernel)
theorem kc_47_9 : am_code tn_G 47 9 = some (.iload_n 2, 1, 0) := am_code_of (M := tn_m47) rfl (by decide +kernel) rfl rfl
theorem kc_47_10 : am_code tn_G 47 10 = some (.aload_n 0, 1, 0) := am_code_of (M := tn_m47) rfl (by decide +kernel) rfl rfl
theorem kc_47_11 : am_code tn_G 47 11 = some (.getfield 21, 3, 0) := am_code_of (M := tn_m47) rfl (by decide +kernel) rfl rfl
theorem kf_47_21 : am_fld tn_G 47 21 = some (4, 1) := by decide +kernel
theorem kc_47_14 : am_code tn_G 47 14 = some (.iload_n 1, 1, 0) := am_code_of (M := tn_m47) rfl (by decide +kernel) rfl rfl
theorem kc_47_15 : am_code tn_G 47 15 = some (.invokevirtual 140, 3, 0) := am_code_of (M := tn_m47) rfl (by decide +kernel) rfl rfl
theorem ka_47_140 : am_cal tn_G 47 140 = some (0, 11, 1) := by decide +kernel
theorem kc_47_18 : am_code tn_G 47 18 = some (.if_icmp .lt 13, 3, 31) := am_code_of (M := tn_m47) rfl (by decide +kernel) rfl (by decide +kernel)
theorem kc_47_21 : am_code tn_G 47 21 = some (.new 143, 3, 0) := am_code_of (M := tn_m47) rfl (by decide +kernel) rfl rfl
theorem kt_47_21 : am_th tn_G 47 21 = some "java/util/NoSuchElementException" := by decide +kernel
theorem kc_47_31 : am_code tn_G 47 31 = some (.aload_n 0, 1, 0) := am_code_of (M := tn_m47) rfl (by decide +kernel) rfl rfl
theorem kc_47_32 : am_code tn_G 47 32 = some (.getfield 21, 3, 0) := am_code_of (M := tn_m47) rfl (by decide +kernel) rfl rfl
theorem kc_47_35 : am_code tn_G 47 35 = some (.iload_n 1, 1, 0) := am_code_of (M := tn_m47) rfl (by decide +kernel) rfl rfl
theorem kc_47_36 : am_code tn_G 47 36 = some (.iload_n 2, 1, 0) := am_code_of (M := tn_m47) rfl (by decide +kernel) rfl rfl
theorem kc_47_37 : am_code tn_G 47 37 = some (.invokevirtual 148, 3, 0) := am_code_of (M := tn_m47) rfl (by decide +kernel) rfl rfl
theorem ka_47_148 : am_cal tn_G 47 148 = some (0, 12, 2) := by decide +kernel
theorem kc_47_40 : am_code tn_G 47 40 = some (.ireturn, 1, 0) := am_code_of (M := tn_m47) rfl (by decide +kernel) rfl rfl
-- 48: TermNet.least(I)I
theorem kl_48 : am_ml tn_G 48 = 2 := rfl
theorem ko_48 : am_oc tn_G 48 = 4 := rfl
theorem kn_48 : am_nc tn_G 48 = 1 := rfl
theorem kr_48 : am_rt tn_G 48 = 1 := rfl
theorem kc_48_0 : am_code tn_G 48 0 = some (.aload_n 0, 1, 0) := am_code_of (M := tn_m48) rfl (by decide +kernel) rfl rfl
theorem kc_48_1 : am_code tn_G 48 1 = some (.iload_n 1, 1, 0) := am_code_of (M := tn_m48) rfl (by decide +kernel) rfl rfl
theorem kc_48_2 : am_code tn_G 48 2 = some (.invokevirtual 101, 3, 0) := am_code_of (M := tn_m48) rfl (by decide +kernel) rfl rfl
theorem ka_48_101 : am_cal tn_G 48 101 = some (0, 44, 1) := by decide +kernel
theorem kc_48_5 : am_code tn_G 48 5 = some (.aload_n 0, 1, 0) := am_code_of (M := tn_m48) rfl (by decide +kernel) rfl rfl
theorem kc_48_6 : am_code tn_G 48 6 = some (.getfield 21, 3, 0) := am_code_of (M := tn_m48) rfl (by decide +kernel) rfl rfl
theorem kf_48_21 : am_fld tn_G 48 21 = some (4, 1) := by decide +kernel
theorem kc_48_9 : am_code tn_G 48 9 = some (.iload_n 1, 1, 0) := am_code_of (M := tn_m48) rfl (by decide +kernel) rfl rfl
theorem kc_48_10 : am_code tn_G 48 10 = some (.invokevirtual 128, 3, 0) := am_code_of (M := tn_m48) rfl (by decide +kernel) rfl rfl
theorem ka_48_128 : am_cal tn_G 48 128 = some (0, 10, 1) := by decide +kernel
theorem kc_48_13 : am_code tn_G 48 13 = some (.ireturn, 1, 0) := am_code_of (M := tn_m48) rfl (by decide +kernel) rfl rfl
-- 49: TermNet.size(I)I
theorem kl_49 : am_ml tn_G 49 = 2 := rfl
theorem ko_49 : am_oc tn_G 49 = 4 := rfl
theorem kn_49 : am_nc tn_G 49 = 1 := rfl
theorem kr_49 : am_rt tn_G 49 = 1 := rfl
theorem kc_49_0 : am_code tn_G 49 0 = some (.aload_n 0, 1, 0) := am_code_of (M := tn_m49) rfl (by decide +kernel) rfl rfl
theorem kc_49_1 : am_code tn_G 49 1 = some (.iload_n 1, 1, 0) := am_code_of (M := tn_m49) rfl (by decide +kernel) rfl rfl
theorem kc_49_2 : am_code tn_G 49 2 = some (.invokevirtual 101, 3, 0) := am_code_of (M := tn_m49) rfl (by decide +kernel) rfl rfl
theorem ka_49_101 : am_cal tn_G 49 101 = some (0, 44, 1) := by decide +kernel
theorem kc_49_5 : am_code tn_G 49 5 = some (.aload_n 0, 1, 0) := am_code_of (M := tn_m49) rfl (by decide +kernel) rfl rfl
theorem kc_49_6 : am_code tn_G 49 6 = some (.getfield 30, 3, 0) := am_code_of (M := tn_m49) rfl (by decide +kernel) rfl rfl
theorem kf_49_30 : am_fld tn_G 49 30 = some (4, 2) := by decide +kernel
theorem kc_49_9 : am_code tn_G 49 9 = some (.iload_n 1, 1, 0) := am_code_of (M := tn_m49) rfl (by decide +kernel) rfl rfl
theorem kc_49_10 : am_code tn_G 49 10 = some (.invokevirtual 152, 3, 0) := am_code_of (M := tn_m49) rfl (by decide +kernel) rfl rfl
theorem ka_49_152 : am_cal tn_G 49 152 = some (0, 31, 1) := by decide +kernel
theorem kc_49_13 : am_code tn_G 49 13 = some (.ireturn, 1, 0) := am_code_of (M := tn_m49) rfl (by decide +kernel) rfl rfl
-- 50: TermNet.depth(I)I
theorem kl_50 : am_ml tn_G 50 = 2 := rfl
theorem ko_50 : am_oc tn_G 50 = 4 := rfl
theorem kn_50 : am_nc tn_G 50 = 1 := rfl
theorem kr_50 : am_rt tn_G 50 = 1 := rfl
theorem kc_50_0 : am_code tn_G 50 0 = some (.aload_n 0, 1, 0) := am_code_of (M := tn_m50) rfl (by decide +kernel) rfl rfl
theorem kc_50_1 : am_code tn_G 50 1 = some (.iload_n 1, 1, 0) := am_code_of (M := tn_m50) rfl (by decide +kernel) rfl rfl
theorem kc_50_2 : am_code tn_G 50 2 = some (.invokevirtual 101, 3, 0) := am_code_of (M := tn_m50) rfl (by decide +kernel) rfl rfl
theorem ka_50_101 : am_cal tn_G 50 101 = some (0, 44, 1) := by decide +kernel
theorem kc_50_5 : am_code tn_G 50 5 = some (.aload_n 0, 1, 0) := am_code_of (M := tn_m50) rfl (by decide +kernel) rfl rfl
theorem kc_50_6 : am_code tn_G 50 6 = some (.getfield 30, 3, 0) := am_code_of (M := tn_m50) rfl (by decide +kernel) rfl rfl
theorem kf_50_30 : am_fld tn_G 50 30 = some (4, 2) := by decide +kernel
theorem kc_50_9 : am_code tn_G 50 9 = some (.iload_n 1, 1, 0) := am_code_of (M := tn_m50) rfl (by decide +kernel) rfl rfl
theorem kc_50_10 : am_code tn_G 50 10 = some (.invokevirtual 155, 3, 0) := am_code_of (M := tn_m50) rfl (by decide +kernel) rfl rfl
theorem ka_50_155 : am_cal tn_G 50 155 = some (0, 34, 1) := by decide +kernel
theorem kc_50_13 : am_code tn_G 50 13 = some (.ireturn, 1, 0) := am_code_of (M := tn_m50) rfl (by decide +kernel) rfl rfl
-- 51: TermNet.inside(II)Z
theorem kl_51 : am_ml tn_G 51 = 3 := rfl
theorem ko_51 : am_oc tn_G 51 = 4 := rfl
theorem kn_51 : am_nc tn_G 51 = 2 := rfl
theorem kr_51 : am_rt tn_G 51 = 2 := rfl
theorem kc_51_0 : am_code tn_G 51 0 = some (.aload_n 0, 1, 0) := am_code_of (M := tn_m51) rfl (by decide +kernel) rfl rfl
theorem kc_51_1 : am_code tn_G 51 1 = some (.iload_n 1, 1, 0) := am_code_of (M := tn_m51) rfl (by decide +kernel) rfl rfl
theorem kc_51_2 : am_code tn_G 51 2 = some (.invokevirtual 101, 3, 0) := am_code_of (M := tn_m51) rfl (by decide +kernel) rfl rfl
theorem ka_51_101 : am_cal tn_G 51 101 = some (0, 44, 1) := by decide +kernel
theorem kc_51_5 : am_code tn_G 51 5 = some (.aload_n 0, 1, 0) := am_code_of (M := tn_m51) rfl (by decide +kernel) rfl rfl
theorem kc_51_6 : am_code tn_G 51 6 = some (.iload_n 2, 1, 0) := am_code_of (M := tn_m51) rfl (by decide +kernel) rfl rfl
theorem kc_51_7 : am_code tn_G 51 7 = some (.invokevirtual 101, 3, 0) := am_code_of (M := tn_m51) rfl (by decide +kernel) rfl rfl
theorem kc_51_10 : am_code tn_G 51 10 = some (.aload_n 0, 1, 0) := am_code_of (M := tn_m51) rfl (by decide +kernel) rfl rfl
theorem kc_51_11 : am_code tn_G 51 11 = some (.getfield 21, 3, 0) := am_code_of (M := tn_m51) rfl (by decide +kernel) rfl rfl
theorem kf_51_21 : am_fld tn_G 51 21 = some (4, 1) := by decide +kernel
theorem kc_51_14 : am_code tn_G 51 14 = some (.iload_n 1, 1, 0) := am_code_of (M := tn_m51) rfl (by decide +kernel) rfl rfl
theorem kc_51_15 : am_code tn_G 51 15 = some (.invokevirtual 131, 3, 0) := am_code_of (M := tn_m51) rfl (by decide +kernel) rfl rfl
theorem ka_51_131 : am_cal tn_G 51 131 = some (0, 15, 1) := by decide +kernel
theorem kc_51_18 : am_code tn_G 51 18 = some (.ifCond .ne 19, 3, 37) := am_code_of (M := tn_m51) rfl (by decide +kernel) rfl (by decide +kernel)
theorem kc_51_21 : am_code tn_G 51 21 = some (.aload_n 0, 1, 0) := am_code_of (M := tn_m51) rfl (by decide +kernel) rfl rfl
theorem kc_51_22 : am_code tn_G 51 22 = some (.getfield 30, 3, 0) := am_code_of (M := tn_m51) rfl (by decide +kernel) rfl rfl
theorem kf_51_30 : am_fld tn_G 51 30 = some (4, 2) := by decide +kernel
theorem kc_51_25 : am_code tn_G 51 25 = some (.iload_n 1, 1, 0) := am_code_of (M := tn_m51) rfl (by decide +kernel) rfl rfl
theorem kc_51_26 : am_code tn_G 51 26 = some (.iload_n 2, 1, 0) := am_code_of (M := tn_m51) rfl (by decide +kernel) rfl rfl
theorem kc_51_27 : am_code tn_G 51 27 = some (.invokevirtual 158, 3, 0) := am_code_of (M := tn_m51) rfl (by decide +kernel) rfl rfl
theorem ka_51_158 : am_cal tn_G 51 158 = some (0, 36, 2) := by decide +kernel
theorem kc_51_30 : am_code tn_G 51 30 = some (.ifCond .eq 7, 3, 37) := am_code_of (M := tn_m51) rfl (by decide +kernel) rfl (by decide +kernel)
theorem kc_51_33 : am_code tn_G 51 33 = some (.iconst 1, 1, 0) := am_code_of (M := tn_m51) rfl (by decide +kernel) rfl rfl
theorem kc_51_34 : am_code tn_G 51 34 = some (.goto 4, 3, 38) := am_code_of (M := tn_m51) rfl (by decide +kernel) rfl (by decide +kernel)
theorem kc_51_37 : am_code tn_G 51 37 = some (.iconst 0, 1, 0) := am_code_of (M := tn_m51) rfl (by decide +kernel) rfl rfl
theorem kc_51_38 : am_code tn_G 51 38 = some (.ireturn, 1, 0) := am_code_of (M := tn_m51) rfl (by decide +kernel) rfl rfl
-- 52: TermNet.unknowns(I)I
theorem kl_52 : am_ml tn_G 52 = 2 := rfl
theorem ko_52 : am_oc tn_G 52 = 4 := rfl
theorem kn_52 : am_nc tn_G 52 = 1 := rfl
theorem kr_52 : am_rt tn_G 52 = 1 := rfl
theorem kc_52_0 : am_code tn_G 52 0 = some (.aload_n 0, 1, 0) := am_code_of (M := tn_m52) rfl (by decide +kernel) rfl rfl
theorem kc_52_1 : am_code tn_G 52 1 = some (.iload_n 1, 1, 0) := am_code_of (M := tn_m52) rfl (by decide +kernel) rfl rfl
theorem kc_52_2 : am_code tn_G 52 2 = some (.invokevirtual 101, 3, 0) := am_code_of (M := tn_m52) rfl (by decide +kernel) rfl rfl
theorem ka_52_101 : am_cal tn_G 52 101 = some (0, 44, 1) := by decide +kernel
theorem kc_52_5 : am_code tn_G 52 5 = some (.aload_n 0, 1, 0) := am_code_of (M := tn_m52) rfl (by decide +kernel) rfl rfl
theorem kc_52_6 : am_code tn_G 52 6 = some (.getfield 30, 3, 0) := am_code_of (M := tn_m52) rfl (by decide +kernel) rfl rfl
theorem kf_52_30 : am_fld tn_G 52 30 = some (4, 2) := by decide +kernel
theorem kc_52_9 : am_code tn_G 52 9 = some (.iload_n 1, 1, 0) := am_code_of (M := tn_m52) rfl (by decide +kernel) rfl rfl
theorem kc_52_10 : am_code tn_G 52 10 = some (.invokevirtual 162, 3, 0) := am_code_of (M := tn_m52) rfl (by decide +kernel) rfl rfl
theorem ka_52_162 : am_cal tn_G 52 162 = some (0, 37, 1) := by decide +kernel
theorem kc_52_13 : am_code tn_G 52 13 = some (.ireturn, 1, 0) := am_code_of (M := tn_m52) rfl (by decide +kernel) rfl rfl
-- 53: TermNet.mark()I
theorem kl_53 : am_ml tn_G 53 = 1 := rfl
theorem ko_53 : am_oc tn_G 53 = 4 := rfl
theorem kn_53 : am_nc tn_G 53 = 1 := rfl
theorem kr_53 : am_rt tn_G 53 = 1 := rfl
theorem kc_53_0 : am_code tn_G 53 0 = some (.aload_n 0, 1, 0) := am_code_of (M := tn_m53) rfl (by decide +kernel) rfl rfl
theorem kc_53_1 : am_code tn_G 53 1 = some (.getfield 51, 3, 0) := am_code_of (M := tn_m53) rfl (by decide +kernel) rfl rfl
theorem kf_53_51 : am_fld tn_G 53 51 = some (4, 7) := by decide +kernel
theorem kc_53_4 : am_code tn_G 53 4 = some (.bipush 20, 2, 0) := am_code_of (M := tn_m53) rfl (by decide +kernel) rfl rfl
theorem kc_53_6 : am_code tn_G 53 6 = some (.if_icmp .ne 13, 3, 19) := am_code_of (M := tn_m53) rfl (by decide +kernel) rfl (by decide +kernel)
theorem kc_53_9 : am_code tn_G 53 9 = some (.new 68, 3, 0) := am_code_of (M := tn_m53) rfl (by decide +kernel) rfl rfl
theorem kt_53_9 : am_th tn_G 53 9 = some "java/lang/IndexOutOfBoundsException" := by decide +kernel
theorem kc_53_19 : am_code tn_G 53 19 = some (.aload_n 0, 1, 0) := am_code_of (M := tn_m53) rfl (by decide +kernel) rfl rfl
theorem kc_53_20 : am_code tn_G 53 20 = some (.getfield 41, 3, 0) := am_code_of (M := tn_m53) rfl (by decide +kernel) rfl rfl
theorem kf_53_41 : am_fld tn_G 53 41 = some (4, 4) := by decide +kernel
theorem kc_53_23 : am_code tn_G 53 23 = some (.aload_n 0, 1, 0) := am_code_of (M := tn_m53) rfl (by decide +kernel) rfl rfl
theorem kc_53_24 : am_code tn_G 53 24 = some (.getfield 51, 3, 0) := am_code_of (M := tn_m53) rfl (by decide +kernel) rfl rfl
theorem kc_53_27 : am_code tn_G 53 27 = some (.aload_n 0, 1, 0) := am_code_of (M := tn_m53) rfl (by decide +kernel) rfl rfl
theorem kc_53_28 : am_code tn_G 53 28 = some (.getfield 10, 3, 0) := am_code_of (M := tn_m53) rfl (by decide +kernel) rfl rfl
theorem kf_53_10 : am_fld tn_G 53 10 = some (4, 0) := by decide +kernel
theorem kc_53_31 : am_code tn_G 53 31 = some (.getfield 115, 3, 0) := am_code_of (M := tn_m53) rfl (by decide +kernel) rfl rfl
theorem kf_53_115 : am_fld tn_G 53 115 = some (1, 4) := by decide +kernel
theorem kc_53_34 : am_code tn_G 53 34 = some (.iastore, 1, 0) := am_code_of (M := tn_m53) rfl (by decide +kernel) rfl rfl
theorem kc_53_35 : am_code tn_G 53 35 = some (.aload_n 0, 1, 0) := am_code_of (M := tn_m53) rfl (by decide +kernel) rfl rfl
theorem kc_53_36 : am_code tn_G 53 36 = some (.getfield 45, 3, 0) := am_code_of (M := tn_m53) rfl (by decide +kernel) rfl rfl
theorem kf_53_45 : am_fld tn_G 53 45 = some (4, 5) := by decide +kernel
theorem kc_53_39 : am_code tn_G 53 39 = some (.aload_n 0, 1, 0) := am_code_of (M := tn_m53) rfl (by decide +kernel) rfl rfl
theorem kc_53_40 : am_code tn_G 53 40 = some (.getfield 51, 3, 0) := am_code_of (M := tn_m53) rfl (by decide +kernel) rfl rfl
theorem kc_53_43 : am_code tn_G 53 43 = some (.aload_n 0, 1, 0) := am_code_of (M := tn_m53) rfl (by decide +kernel) rfl rfl
theorem kc_53_44 : am_code tn_G 53 44 = some (.getfield 21, 3, 0) := am_code_of (M := tn_m53) rfl (by decide +kernel) rfl rfl
theorem kf_53_21 : am_fld tn_G 53 21 = some (4, 1) := by decide +kernel
theorem kc_53_47 : am_code tn_G 53 47 = some (.getfield 104, 3, 0) := am_code_of (M := tn_m53) rfl (by decide +kernel) rfl rfl
theorem kf_53_104 : am_fld tn_G 53 104 = some (0, 5) := by decide +kernel
theorem kc_53_50 : am_code tn_G 53 50 = some (.iastore, 1, 0) := am_code_of (M := tn_m53) rfl (by decide +kernel) rfl rfl
theorem kc_53_51 : am_code tn_G 53 51 = some (.aload_n 0, 1, 0) := am_code_of (M := tn_m53) rfl (by decide +kernel) rfl rfl
theorem kc_53_52 : am_code tn_G 53 52 = some (.getfield 48, 3, 0) := am_code_of (M := tn_m53) rfl (by decide +kernel) rfl rfl
theorem kf_53_48 : am_fld tn_G 53 48 = some (4, 6) := by decide +kernel
theorem kc_53_55 : am_code tn_G 53 55 = some (.aload_n 0, 1, 0) := am_code_of (M := tn_m53) rfl (by decide +kernel) rfl rfl
theorem kc_53_56 : am_code tn_G 53 56 = some (.getfield 51, 3, 0) := am_code_of (M := tn_m53) rfl (by decide +kernel) rfl rfl
theorem kc_53_59 : am_code tn_G 53 59 = some (.aload_n 0, 1, 0) := am_code_of (M := tn_m53) rfl (by decide +kernel) rfl rfl
theorem kc_53_60 : am_code tn_G 53 60 = some (.getfield 55, 3, 0) := am_code_of (M := tn_m53) rfl (by decide +kernel) rfl rfl
theorem kf_53_55 : am_fld tn_G 53 55 = some (4, 8) := by decide +kernel
theorem kc_53_63 : am_code tn_G 53 63 = some (.iastore, 1, 0) := am_code_of (M := tn_m53) rfl (by decide +kernel) rfl rfl
theorem kc_53_64 : am_code tn_G 53 64 = some (.aload_n 0, 1, 0) := am_code_of (M := tn_m53) rfl (by decide +kernel) rfl rfl
theorem kc_53_65 : am_code tn_G 53 65 = some (.dup, 1, 0) := am_code_of (M := tn_m53) rfl (by decide +kernel) rfl rfl
theorem kc_53_66 : am_code tn_G 53 66 = some (.getfield 51, 3, 0) := am_code_of (M := tn_m53) rfl (by decide +kernel) rfl rfl
theorem kc_53_69 : am_code tn_G 53 69 = some (.iconst 1, 1, 0) := am_code_of (M := tn_m53) rfl (by decide +kernel) rfl rfl
theorem kc_53_70 : am_code tn_G 53 70 = some (.iadd, 1, 0) := am_code_of (M := tn_m53) rfl (by decide +kernel) rfl rfl
theorem kc_53_71 : am_code tn_G 53 71 = some (.putfield 51, 3, 0) := am_code_of (M := tn_m53) rfl (by decide +kernel) rfl rfl
theorem kc_53_74 : am_code tn_G 53 74 = some (.aload_n 0, 1, 0) := am_code_of (M := tn_m53) rfl (by decide +kernel) rfl rfl
theorem kc_53_75 : am_code tn_G 53 75 = some (.getfield 51, 3, 0) := am_code_of (M := tn_m53) rfl (by decide +kernel) rfl rfl
theorem kc_53_78 : am_code tn_G 53 78 = some (.ireturn, 1, 0) := am_code_of (M := tn_m53) rfl (by decide +kernel) rfl rfl
-- 54: TermNet.back()I
theorem kl_54 : am_ml tn_G 54 = 1 := rfl
theorem ko_54 : am_oc tn_G 54 = 4 := rfl
theorem kn_54 : am_nc tn_G 54 = 1 := rfl
theorem kr_54 : am_rt tn_G 54 = 1 := rfl
theorem kc_54_0 : am_code tn_G 54 0 = some (.aload_n 0, 1, 0) := am_code_of (M := tn_m54) rfl (by decide +kernel) rfl rfl
theorem kc_54_1 : am_code tn_G 54 1 = some (.getfield 51, 3, 0) := am_code_of (M := tn_m54) rfl (by decide +kernel) rfl rfl
theorem kf_54_51 : am_fld tn_G 54 51 = some (4, 7) := by decide +kernel
theorem kc_54_4 : am_code tn_G 54 4 = some (.ifCond .ne 13, 3, 17) := am_code_of (M := tn_m54) rfl (by decide +kernel) rfl (by decide +kernel)
theorem kc_54_7 : am_code tn_G 54 7 = some (.new 143, 3, 0) := am_code_of (M := tn_m54) rfl (by decide +kernel) rfl rfl
theorem kt_54_7 : am_th tn_G 54 7 = some "java/util/NoSuchElementException" := by decide +kernel
theorem kc_54_17 : am_code tn_G 54 17 = some (.aload_n 0, 1, 0) := am_code_of (M := tn_m54) rfl (by decide +kernel) rfl rfl
theorem kc_54_18 : am_code tn_G 54 18 = some (.dup, 1, 0) := am_code_of (M := tn_m54) rfl (by decide +kernel) rfl rfl
theorem kc_54_19 : am_code tn_G 54 19 = some (.getfield 51, 3, 0) := am_code_of (M := tn_m54) rfl (by decide +kernel) rfl rfl
theorem kc_54_22 : am_code tn_G 54 22 = some (.iconst 1, 1, 0) := am_code_of (M := tn_m54) rfl (by decide +kernel) rfl rfl
theorem kc_54_23 : am_code tn_G 54 23 = some (.isub, 1, 0) := am_code_of (M := tn_m54) rfl (by decide +kernel) rfl rfl
theorem kc_54_24 : am_code tn_G 54 24 = some (.putfield 51, 3, 0) := am_code_of (M := tn_m54) rfl (by decide +kernel) rfl rfl
theorem kc_54_27 : am_code tn_G 54 27 = some (.aload_n 0, 1, 0) := am_code_of (M := tn_m54) rfl (by decide +kernel) rfl rfl
theorem kc_54_28 : am_code tn_G 54 28 = some (.getfield 21, 3, 0) := am_code_of (M := tn_m54) rfl (by decide +kernel) rfl rfl
theorem kf_54_21 : am_fld tn_G 54 21 = some (4, 1) := by decide +kernel
theorem kc_54_31 : am_code tn_G 54 31 = some (.aload_n 0, 1, 0) := am_code_of (M := tn_m54) rfl (by decide +kernel) rfl rfl
theorem kc_54_32 : am_code tn_G 54 32 = some (.getfield 45, 3, 0) := am_code_of (M := tn_m54) rfl (by decide +kernel) rfl rfl
theorem kf_54_45 : am_fld tn_G 54 45 = some (4, 5) := by decide +kernel
theorem kc_54_35 : am_code tn_G 54 35 = some (.aload_n 0, 1, 0) := am_code_of (M := tn_m54) rfl (by decide +kernel) rfl rfl
theorem kc_54_36 : am_code tn_G 54 36 = some (.getfield 51, 3, 0) := am_code_of (M := tn_m54) rfl (by decide +kernel) rfl rfl
theorem kc_54_39 : am_code tn_G 54 39 = some (.iaload, 1, 0) := am_code_of (M := tn_m54) rfl (by decide +kernel) rfl rfl
theorem kc_54_40 : am_code tn_G 54 40 = some (.invokevirtual 121, 3, 0) := am_code_of (M := tn_m54) rfl (by decide +kernel) rfl rfl
theorem ka_54_121 : am_cal tn_G 54 121 = some (0, 13, 1) := by decide +kernel
theorem kc_54_43 : am_code tn_G 54 43 = some (.aload_n 0, 1, 0) := am_code_of (M := tn_m54) rfl (by decide +kernel) rfl rfl
theorem kc_54_44 : am_code tn_G 54 44 = some (.getfield 10, 3, 0) := am_code_of (M := tn_m54) rfl (by decide +kernel) rfl rfl
theorem kf_54_10 : am_fld tn_G 54 10 = some (4, 0) := by decide +kernel
theorem kc_54_47 : am_code tn_G 54 47 = some (.aload_n 0, 1, 0) := am_code_of (M := tn_m54) rfl (by decide +kernel) rfl rfl
theorem kc_54_48 : am_code tn_G 54 48 = some (.getfield 41, 3, 0) := am_code_of (M := tn_m54) rfl (by decide +kernel) rfl rfl
theorem kf_54_41 : am_fld tn_G 54 41 = some (4, 4) := by decide +kernel
theorem kc_54_51 : am_code tn_G 54 51 = some (.aload_n 0, 1, 0) := am_code_of (M := tn_m54) rfl (by decide +kernel) rfl rfl
theorem kc_54_52 : am_code tn_G 54 52 = some (.getfield 51, 3, 0) := am_code_of (M := tn_m54) rfl (by decide +kernel) rfl rfl
theorem kc_54_55 : am_code tn_G 54 55 = some (.iaload, 1, 0) := am_code_of (M := tn_m54) rfl (by decide +kernel) rfl rfl
theorem kc_54_56 : am_code tn_G 54 56 = some (.putfield 115, 3, 0) := am_code_of (M := tn_m54) rfl (by decide +kernel) rfl rfl
theorem kf_54_115 : am_fld tn_G 54 115 = some (1, 4) := by decide +kernel
theorem kc_54_59 : am_code tn_G 54 59 = some (.aload_n 0, 1, 0) := am_code_of (M := tn_m54) rfl (by decide +kernel) rfl rfl
theorem kc_54_60 : am_code tn_G 54 60 = some (.aload_n 0, 1, 0) := am_code_of (M := tn_m54) rfl (by decide +kernel) rfl rfl
theorem kc_54_61 : am_code tn_G 54 61 = some (.getfield 48, 3, 0) := am_code_of (M := tn_m54) rfl (by decide +kernel) rfl rfl
theorem kf_54_48 : am_fld tn_G 54 48 = some (4, 6) := by decide +kernel
theorem kc_54_64 : am_code tn_G 54 64 = some (.aload_n 0, 1, 0) := am_code_of (M := tn_m54) rfl (by decide +kernel) rfl rfl
theorem kc_54_65 : am_code tn_G 54 65 = some (.getfield 51, 3, 0) := am_code_of (M := tn_m54) rfl (by decide +kernel) rfl rfl
theorem kc_54_68 : am_code tn_G 54 68 = some (.iaload, 1, 0) := am_code_of (M := tn_m54) rfl (by decide +kernel) rfl rfl
theorem kc_54_69 : am_code tn_G 54 69 = some (.putfield 55, 3, 0) := am_code_of (M := tn_m54) rfl (by decide +kernel) rfl rfl
theorem kf_54_55 : am_fld tn_G 54 55 = some (4, 8) := by decide +kernel
theorem kc_54_72 : am_code tn_G 54 72 = some (.aload_n 0, 1, 0) := am_code_of (M := tn_m54) rfl (by decide +kernel) rfl rfl
theorem kc_54_73 : am_code tn_G 54 73 = some (.getfield 51, 3, 0) := am_code_of (M := tn_m54) rfl (by decide +kernel) rfl rfl
theorem kc_54_76 : am_code tn_G 54 76 = some (.ireturn, 1, 0) := am_code_of (M := tn_m54) rfl (by decide +kernel) rfl rfl
-- 77: java/lang/Math.floorMod(II)I
theorem kl_77 : am_ml tn_G 77 = 3 := rfl
theorem ko_77 : am_oc tn_G 77 = 6 := rfl
theorem kn_77 : am_nc tn_G 77 = 0 := rfl
theorem kr_77 : am_rt tn_G 77 = 1 := rfl
theorem kc_77_0 : am_code tn_G 77 0 = some (.iload_n 0, 1, 0) := am_code_of (M := tn_m77) rfl (by decide +kernel) rfl rfl
theorem kc_77_1 : am_code tn_G 77 1 = some (.iload_n 1, 1, 0) := am_code_of (M := tn_m77) rfl (by decide +kernel) rfl rfl
theorem kc_77_2 : am_code tn_G 77 2 = some (.irem, 1, 0) := am_code_of (M := tn_m77) rfl (by decide +kernel) rfl rfl
theorem kc_77_3 : am_code tn_G 77 3 = some (.istore_n 2, 1, 0) := am_code_of (M := tn_m77) rfl (by decide +kernel) rfl rfl
theorem kc_77_4 : am_code tn_G 77 4 = some (.iload_n 0, 1, 0) := am_code_of (M := tn_m77) rfl (by decide +kernel) rfl rfl
theorem kc_77_5 : am_code tn_G 77 5 = some (.iload_n 1, 1, 0) := am_code_of (M := tn_m77) rfl (by decide +kernel) rfl rfl
theorem kc_77_6 : am_code tn_G 77 6 = some (.ixor, 1, 0) := am_code_of (M := tn_m77) rfl (by decide +kernel) rfl rfl
theorem kc_77_7 : am_code tn_G 77 7 = some (.ifCond .ge 11, 3, 18) := am_code_of (M := tn_m77) rfl (by decide +kernel) rfl (by decide +kernel)
theorem kc_77_10 : am_code tn_G 77 10 = some (.iload_n 2, 1, 0) := am_code_of (M := tn_m77) rfl (by decide +kernel) rfl rfl
theorem kc_77_11 : am_code tn_G 77 11 = some (.ifCond .eq 7, 3, 18) := am_code_of (M := tn_m77) rfl (by decide +kernel) rfl (by decide +kernel)
theorem kc_77_14 : am_code tn_G 77 14 = some (.iload_n 2, 1, 0) := am_code_of (M := tn_m77) rfl (by decide +kernel) rfl rfl
theorem kc_77_15 : am_code tn_G 77 15 = some (.iload_n 1, 1, 0) := am_code_of (M := tn_m77) rfl (by decide +kernel) rfl rfl
theorem kc_77_16 : am_code tn_G 77 16 = some (.iadd, 1, 0) := am_code_of (M := tn_m77) rfl (by decide +kernel) rfl rfl
theorem kc_77_17 : am_code tn_G 77 17 = some (.ireturn, 1, 0) := am_code_of (M := tn_m77) rfl (by decide +kernel) rfl rfl
theorem kc_77_18 : am_code tn_G 77 18 = some (.iload_n 2, 1, 0) := am_code_of (M := tn_m77) rfl (by decide +kernel) rfl rfl
theorem kc_77_19 : am_code tn_G 77 19 = some (.ireturn, 1, 0) := am_code_of (M := tn_m77) rfl (by decide +kernel) rfl rfl
-- 78: java/util/Arrays.fill([II)V
theorem kl_78 : am_ml tn_G 78 = 4 := rfl
theorem ko_78 : am_oc tn_G 78 = 7 := rfl
theorem kn_78 : am_nc tn_G 78 = 0 := rfl
theorem kr_78 : am_rt tn_G 78 = 0 := rfl
theorem kc_78_0 : am_code tn_G 78 0 = some (.iconst 0, 1, 0) := am_code_of (M := tn_m78) rfl (by decide +kernel) rfl rfl
theorem kc_78_1 : am_code tn_G 78 1 = some (.istore_n 2, 1, 0) := am_code_of (M := tn_m78) rfl (by decide +kernel) rfl rfl
theorem kc_78_2 : am_code tn_G 78 2 = some (.aload_n 0, 1, 0) := am_code_of (M := tn_m78) rfl (by decide +kernel) rfl rfl
theorem kc_78_3 : am_code tn_G 78 3 = some (.arraylength, 1, 0) := am_code_of (M := tn_m78) rfl (by decide +kernel) rfl rfl
theorem kc_78_4 : am_code tn_G 78 4 = some (.istore_n 3, 1, 0) := am_code_of (M := tn_m78) rfl (by decide +kernel) rfl rfl
theorem kc_78_5 : am_code tn_G 78 5 = some (.iload_n 2, 1, 0) := am_code_of (M := tn_m78) rfl (by decide +kernel) rfl rfl
theorem kc_78_6 : am_code tn_G 78 6 = some (.iload_n 3, 1, 0) := am_code_of (M := tn_m78) rfl (by decide +kernel) rfl rfl
theorem kc_78_7 : am_code tn_G 78 7 = some (.if_icmp .ge 13, 3, 20) := am_code_of (M := tn_m78) rfl (by decide +kernel) rfl (by decide +kernel)
theorem kc_78_10 : am_code tn_G 78 10 = some (.aload_n 0, 1, 0) := am_code_of (M := tn_m78) rfl (by decide +kernel) rfl rfl
theorem kc_78_11 : am_code tn_G 78 11 = some (.iload_n 2, 1, 0) := am_code_of (M := tn_m78) rfl (by decide +kernel) rfl rfl
theorem kc_78_12 : am_code tn_G 78 12 = some (.iload_n 1, 1, 0) := am_code_of (M := tn_m78) rfl (by decide +kernel) rfl rfl
theorem kc_78_13 : am_code tn_G 78 13 = some (.iastore, 1, 0) := am_code_of (M := tn_m78) rfl (by decide +kernel) rfl rfl
theorem kc_78_14 : am_code tn_G 78 14 = some (.iinc 2 1, 3, 0) := am_code_of (M := tn_m78) rfl (by decide +kernel) rfl rfl
theorem kc_78_17 : am_code tn_G 78 17 = some (.goto (-12), 3, 5) := am_code_of (M := tn_m78) rfl (by decide +kernel) rfl (by decide +kernel)
theorem kc_78_20 : am_code tn_G 78 20 = some (.return_, 1, 0) := am_code_of (M := tn_m78) rfl (by decide +kernel) rfl rfl
end
section
/-! Rows of the code, laid by wip/whole/mk04.py: kc_method_pc, kf_ a field, ka_ a call, ki_ kL_ constants, kt_ a throw; kl_ locals, ko_ class, kn_ room, kr_ answer -/
-- 55: TermNetModel.thrown()I
theorem kl_55 : am_ml tn_G 55 = 1 := rfl
theorem ko_55 : am_oc tn_G 55 = 5 := rfl
theorem kn_55 : am_nc tn_G 55 = 0 := rfl
theorem kr_55 : am_rt tn_G 55 = 1 := rfl
theorem kc_55_0 : am_code tn_G 55 0 = some (.aload_n 0, 1, 0) := am_code_of (M := tn_m55) rfl (by decide +kernel) rfl rfl
theorem kc_55_1 : am_code tn_G 55 1 = some (.getfield 50, 3, 0) := am_code_of (M := tn_m55) rfl (by decide +kernel) rfl rfl
theorem kf_55_50 : am_fld tn_G 55 50 = some (5, 7) := by decide +kernel
theorem kc_55_4 : am_code tn_G 55 4 = some (.ireturn, 1, 0) := am_code_of (M := tn_m55) rfl (by decide +kernel) rfl rfl
-- 56: TermNetModel.sign(I)I
theorem kl_56 : am_ml tn_G 56 = 2 := rfl
theorem ko_56 : am_oc tn_G 56 = 5 := rfl
theorem kn_56 : am_nc tn_G 56 = 0 := rfl
theorem kr_56 : am_rt tn_G 56 = 1 := rfl
theorem kc_56_0 : am_code tn_G 56 0 = some (.aload_n 0, 1, 0) := am_code_of (M := tn_m56) rfl (by decide +kernel) rfl rfl
theorem kc_56_1 : am_code tn_G 56 1 = some (.iload_n 1, 1, 0) := am_code_of (M := tn_m56) rfl (by decide +kernel) rfl rfl
theorem kc_56_2 : am_code tn_G 56 2 = some (.ifCond .lt 8, 3, 10) := am_code_of (M := tn_m56) rfl (by decide +kernel) rfl (by decide +kernel)
theorem kc_56_5 : am_code tn_G 56 5 = some (.iload_n 1, 1, 0) := am_code_of (M := tn_m56) rfl (by decide +kernel) rfl rfl
theorem kc_56_6 : am_code tn_G 56 6 = some (.iconst 3, 1, 0) := am_code_of (M := tn_m56) rfl (by decide +kernel) rfl rfl
theorem kc_56_7 : am_code tn_G 56 7 = some (.if_icmp .le 7, 3, 14) := am_code_of (M := tn_m56) rfl (by decide +kernel) rfl (by decide +kernel)
theorem kc_56_10 : am_code tn_G 56 10 = some (.iconst 1, 1, 0) := am_code_of (M := tn_m56) rfl (by decide +kernel) rfl rfl
theorem kc_56_11 : am_code tn_G 56 11 = some (.goto 17, 3, 28) := am_code_of (M := tn_m56) rfl (by decide +kernel) rfl (by decide +kernel)
theorem kc_56_14 : am_code tn_G 56 14 = some (.aload_n 0, 1, 0) := am_code_of (M := tn_m56) rfl (by decide +kernel) rfl rfl
theorem kc_56_15 : am_code tn_G 56 15 = some (.getfield 57, 3, 0) := am_code_of (M := tn_m56) rfl (by decide +kernel) rfl rfl
theorem kf_56_57 : am_fld tn_G 56 57 = some (5, 3) := by decide +kernel
theorem kc_56_18 : am_code tn_G 56 18 = some (.bipush 40, 2, 0) := am_code_of (M := tn_m56) rfl (by decide +kernel) rfl rfl
theorem kc_56_20 : am_code tn_G 56 20 = some (.if_icmp .ne 7, 3, 27) := am_code_of (M := tn_m56) rfl (by decide +kernel) rfl (by decide +kernel)
theorem kc_56_23 : am_code tn_G 56 23 = some (.iconst 2, 1, 0) := am_code_of (M := tn_m56) rfl (by decide +kernel) rfl rfl
theorem kc_56_24 : am_code tn_G 56 24 = some (.goto 4, 3, 28) := am_code_of (M := tn_m56) rfl (by decide +kernel) rfl (by decide +kernel)
theorem kc_56_27 : am_code tn_G 56 27 = some (.iconst 0, 1, 0) := am_code_of (M := tn_m56) rfl (by decide +kernel) rfl rfl
theorem kc_56_28 : am_code tn_G 56 28 = some (.putfield 50, 3, 0) := am_code_of (M := tn_m56) rfl (by decide +kernel) rfl rfl
theorem kf_56_50 : am_fld tn_G 56 50 = some (5, 7) := by decide +kernel
theorem kc_56_31 : am_code tn_G 56 31 = some (.aload_n 0, 1, 0) := am_code_of (M := tn_m56) rfl (by decide +kernel) rfl rfl
theorem kc_56_32 : am_code tn_G 56 32 = some (.getfield 50, 3, 0) := am_code_of (M := tn_m56) rfl (by decide +kernel) rfl rfl
theorem kc_56_35 : am_code tn_G 56 35 = some (.ifCond .le 5, 3, 40) := am_code_of (M := tn_m56) rfl (by decide +kernel) rfl (by decide +kernel)
theorem kc_56_38 : am_code tn_G 56 38 = some (.iconst 0, 1, 0) := am_code_of (M := tn_m56) rfl (by decide +kernel) rfl rfl
theorem kc_56_39 : am_code tn_G 56 39 = some (.ireturn, 1, 0) := am_code_of (M := tn_m56) rfl (by decide +kernel) rfl rfl
theorem kc_56_40 : am_code tn_G 56 40 = some (.aload_n 0, 1, 0) := am_code_of (M := tn_m56) rfl (by decide +kernel) rfl rfl
theorem kc_56_41 : am_code tn_G 56 41 = some (.getfield 9, 3, 0) := am_code_of (M := tn_m56) rfl (by decide +kernel) rfl rfl
theorem kf_56_9 : am_fld tn_G 56 9 = some (5, 0) := by decide +kernel
theorem kc_56_44 : am_code tn_G 56 44 = some (.aload_n 0, 1, 0) := am_code_of (M := tn_m56) rfl (by decide +kernel) rfl rfl
theorem kc_56_45 : am_code tn_G 56 45 = some (.getfield 57, 3, 0) := am_code_of (M := tn_m56) rfl (by decide +kernel) rfl rfl
theorem kc_56_48 : am_code tn_G 56 48 = some (.iload_n 1, 1, 0) := am_code_of (M := tn_m56) rfl (by decide +kernel) rfl rfl
theorem kc_56_49 : am_code tn_G 56 49 = some (.iastore, 1, 0) := am_code_of (M := tn_m56) rfl (by decide +kernel) rfl rfl
theorem kc_56_50 : am_code tn_G 56 50 = some (.aload_n 0, 1, 0) := am_code_of (M := tn_m56) rfl (by decide +kernel) rfl rfl
theorem kc_56_51 : am_code tn_G 56 51 = some (.dup, 1, 0) := am_code_of (M := tn_m56) rfl (by decide +kernel) rfl rfl
theorem kc_56_52 : am_code tn_G 56 52 = some (.getfield 57, 3, 0) := am_code_of (M := tn_m56) rfl (by decide +kernel) rfl rfl
theorem kc_56_55 : am_code tn_G 56 55 = some (.iconst 1, 1, 0) := am_code_of (M := tn_m56) rfl (by decide +kernel) rfl rfl
theorem kc_56_56 : am_code tn_G 56 56 = some (.iadd, 1, 0) := am_code_of (M := tn_m56) rfl (by decide +kernel) rfl rfl
theorem kc_56_57 : am_code tn_G 56 57 = some (.putfield 57, 3, 0) := am_code_of (M := tn_m56) rfl (by decide +kernel) rfl rfl
theorem kc_56_60 : am_code tn_G 56 60 = some (.aload_n 0, 1, 0) := am_code_of (M := tn_m56) rfl (by decide +kernel) rfl rfl
theorem kc_56_61 : am_code tn_G 56 61 = some (.getfield 57, 3, 0) := am_code_of (M := tn_m56) rfl (by decide +kernel) rfl rfl
theorem kc_56_64 : am_code tn_G 56 64 = some (.iconst 1, 1, 0) := am_code_of (M := tn_m56) rfl (by decide +kernel) rfl rfl
theorem kc_56_65 : am_code tn_G 56 65 = some (.isub, 1, 0) := am_code_of (M := tn_m56) rfl (by decide +kernel) rfl rfl
theorem kc_56_66 : am_code tn_G 56 66 = some (.ireturn, 1, 0) := am_code_of (M := tn_m56) rfl (by decide +kernel) rfl rfl
-- 57: TermNetModel.unknown()I
theorem kl_57 : am_ml tn_G 57 = 1 := rfl
theorem ko_57 : am_oc tn_G 57 = 5 := rfl
theorem kn_57 : am_nc tn_G 57 = 0 := rfl
theorem kr_57 : am_rt tn_G 57 = 1 := rfl
theorem kc_57_0 : am_code tn_G 57 0 = some (.aload_n 0, 1, 0) := am_code_of (M := tn_m57) rfl (by decide +kernel) rfl rfl
theorem kc_57_1 : am_code tn_G 57 1 = some (.aload_n 0, 1, 0) := am_code_of (M := tn_m57) rfl (by decide +kernel) rfl rfl
theorem kc_57_2 : am_code tn_G 57 2 = some (.getfield 54, 3, 0) := am_code_of (M := tn_m57) rfl (by decide +kernel) rfl rfl
theorem kf_57_54 : am_fld tn_G 57 54 = some (5, 4) := by decide +kernel
theorem kc_57_5 : am_code tn_G 57 5 = some (.sipush 400, 3, 0) := am_code_of (M := tn_m57) rfl (by decide +kernel) rfl rfl
theorem kc_57_8 : am_code tn_G 57 8 = some (.if_icmp .ne 7, 3, 15) := am_code_of (M := tn_m57) rfl (by decide +kernel) rfl (by decide +kernel)
theorem kc_57_11 : am_code tn_G 57 11 = some (.iconst 1, 1, 0) := am_code_of (M := tn_m57) rfl (by decide +kernel) rfl rfl
theorem kc_57_12 : am_code tn_G 57 12 = some (.goto 4, 3, 16) := am_code_of (M := tn_m57) rfl (by decide +kernel) rfl (by decide +kernel)
theorem kc_57_15 : am_code tn_G 57 15 = some (.iconst 0, 1, 0) := am_code_of (M := tn_m57) rfl (by decide +kernel) rfl rfl
theorem kc_57_16 : am_code tn_G 57 16 = some (.putfield 50, 3, 0) := am_code_of (M := tn_m57) rfl (by decide +kernel) rfl rfl
theorem kf_57_50 : am_fld tn_G 57 50 = some (5, 7) := by decide +kernel
theorem kc_57_19 : am_code tn_G 57 19 = some (.aload_n 0, 1, 0) := am_code_of (M := tn_m57) rfl (by decide +kernel) rfl rfl
theorem kc_57_20 : am_code tn_G 57 20 = some (.getfield 50, 3, 0) := am_code_of (M := tn_m57) rfl (by decide +kernel) rfl rfl
theorem kc_57_23 : am_code tn_G 57 23 = some (.ifCond .le 7, 3, 30) := am_code_of (M := tn_m57) rfl (by decide +kernel) rfl (by decide +kernel)
theorem kc_57_26 : am_code tn_G 57 26 = some (.iconst 0, 1, 0) := am_code_of (M := tn_m57) rfl (by decide +kernel) rfl rfl
theorem kc_57_27 : am_code tn_G 57 27 = some (.goto 11, 3, 38) := am_code_of (M := tn_m57) rfl (by decide +kernel) rfl (by decide +kernel)
theorem kc_57_30 : am_code tn_G 57 30 = some (.aload_n 0, 1, 0) := am_code_of (M := tn_m57) rfl (by decide +kernel) rfl rfl
theorem kc_57_31 : am_code tn_G 57 31 = some (.iconst (-1), 1, 0) := am_code_of (M := tn_m57) rfl (by decide +kernel) rfl rfl
theorem kc_57_32 : am_code tn_G 57 32 = some (.iconst 0, 1, 0) := am_code_of (M := tn_m57) rfl (by decide +kernel) rfl rfl
theorem kc_57_33 : am_code tn_G 57 33 = some (.iconst 0, 1, 0) := am_code_of (M := tn_m57) rfl (by decide +kernel) rfl rfl
theorem kc_57_34 : am_code tn_G 57 34 = some (.iconst 0, 1, 0) := am_code_of (M := tn_m57) rfl (by decide +kernel) rfl rfl
theorem kc_57_35 : am_code tn_G 57 35 = some (.invokevirtual 64, 3, 0) := am_code_of (M := tn_m57) rfl (by decide +kernel) rfl rfl
theorem ka_57_64 : am_cal tn_G 57 64 = some (0, 58, 4) := by decide +kernel
theorem kc_57_38 : am_code tn_G 57 38 = some (.ireturn, 1, 0) := am_code_of (M := tn_m57) rfl (by decide +kernel) rfl rfl
-- 58: TermNetModel.add(IIII)I
theorem kl_58 : am_ml tn_G 58 = 6 := rfl
theorem ko_58 : am_oc tn_G 58 = 5 := rfl
theorem kn_58 : am_nc tn_G 58 = 0 := rfl
theorem kr_58 : am_rt tn_G 58 = 1 := rfl
theorem kc_58_0 : am_code tn_G 58 0 = some (.aload_n 0, 1, 0) := am_code_of (M := tn_m58) rfl (by decide +kernel) rfl rfl
theorem kc_58_1 : am_code tn_G 58 1 = some (.getfield 13, 3, 0) := am_code_of (M := tn_m58) rfl (by decide +kernel) rfl rfl
theorem kf_58_13 : am_fld tn_G 58 13 = some (5, 1) := by decide +kernel
theorem kc_58_4 : am_code tn_G 58 4 = some (.aload_n 0, 1, 0) := am_code_of (M := tn_m58) rfl (by decide +kernel) rfl rfl
theorem kc_58_5 : am_code tn_G 58 5 = some (.getfield 54, 3, 0) := am_code_of (M := tn_m58) rfl (by decide +kernel) rfl rfl
theorem kf_58_54 : am_fld tn_G 58 54 = some (5, 4) := by decide +kernel
theorem kc_58_8 : am_code tn_G 58 8 = some (.iload_n 1, 1, 0) := am_code_of (M := tn_m58) rfl (by decide +kernel) rfl rfl
theorem kc_58_9 : am_code tn_G 58 9 = some (.iastore, 1, 0) := am_code_of (M := tn_m58) rfl (by decide +kernel) rfl rfl
theorem kc_58_10 : am_code tn_G 58 10 = some (.aload_n 0, 1, 0) := am_code_of (M := tn_m58) rfl (by decide +kernel) rfl rfl
theorem kc_58_11 : am_code tn_G 58 11 = some (.getfield 16, 3, 0) := am_code_of (M := tn_m58) rfl (by decide +kernel) rfl rfl
theorem kf_58_16 : am_fld tn_G 58 16 = some (5, 2) := by decide +kernel
theorem kc_58_14 : am_code tn_G 58 14 = some (.iconst 3, 1, 0) := am_code_of (M := tn_m58) rfl (by decide +kernel) rfl rfl
theorem kc_58_15 : am_code tn_G 58 15 = some (.aload_n 0, 1, 0) := am_code_of (M := tn_m58) rfl (by decide +kernel) rfl rfl
theorem kc_58_16 : am_code tn_G 58 16 = some (.getfield 54, 3, 0) := am_code_of (M := tn_m58) rfl (by decide +kernel) rfl rfl
theorem kc_58_19 : am_code tn_G 58 19 = some (.imul, 1, 0) := am_code_of (M := tn_m58) rfl (by decide +kernel) rfl rfl
theorem kc_58_20 : am_code tn_G 58 20 = some (.iload_n 2, 1, 0) := am_code_of (M := tn_m58) rfl (by decide +kernel) rfl rfl
theorem kc_58_21 : am_code tn_G 58 21 = some (.iastore, 1, 0) := am_code_of (M := tn_m58) rfl (by decide +kernel) rfl rfl
theorem kc_58_22 : am_code tn_G 58 22 = some (.aload_n 0, 1, 0) := am_code_of (M := tn_m58) rfl (by decide +kernel) rfl rfl
theorem kc_58_23 : am_code tn_G 58 23 = some (.getfield 16, 3, 0) := am_code_of (M := tn_m58) rfl (by decide +kernel) rfl rfl
theorem kc_58_26 : am_code tn_G 58 26 = some (.iconst 3, 1, 0) := am_code_of (M := tn_m58) rfl (by decide +kernel) rfl rfl
theorem kc_58_27 : am_code tn_G 58 27 = some (.aload_n 0, 1, 0) := am_code_of (M := tn_m58) rfl (by decide +kernel) rfl rfl
theorem kc_58_28 : am_code tn_G 58 28 = some (.getfield 54, 3, 0) := am_code_of (M := tn_m58) rfl (by decide +kernel) rfl rfl
theorem kc_58_31 : am_code tn_G 58 31 = some (.imul, 1, 0) := am_code_of (M := tn_m58) rfl (by decide +kernel) rfl rfl
theorem kc_58_32 : am_code tn_G 58 32 = some (.iconst 1, 1, 0) := am_code_of (M := tn_m58) rfl (by decide +kernel) rfl rfl
theorem kc_58_33 : am_code tn_G 58 33 = some (.iadd, 1, 0) := am_code_of (M := tn_m58) rfl (by decide +kernel) rfl rfl
theorem kc_58_34 : am_code tn_G 58 34 = some (.iload_n 3, 1, 0) := am_code_of (M := tn_m58) rfl (by decide +kernel) rfl rfl
theorem kc_58_35 : am_code tn_G 58 35 = some (.iastore, 1, 0) := am_code_of (M := tn_m58) rfl (by decide +kernel) rfl rfl
theorem kc_58_36 : am_code tn_G 58 36 = some (.aload_n 0, 1, 0) := am_code_of (M := tn_m58) rfl (by decide +kernel) rfl rfl
theorem kc_58_37 : am_code tn_G 58 37 = some (.getfield 16, 3, 0) := am_code_of (M := tn_m58) rfl (by decide +kernel) rfl rfl
theorem kc_58_40 : am_code tn_G 58 40 = some (.iconst 3, 1, 0) := am_code_of (M := tn_m58) rfl (by decide +kernel) rfl rfl
theorem kc_58_41 : am_code tn_G 58 41 = some (.aload_n 0, 1, 0) := am_code_of (M := tn_m58) rfl (by decide +kernel) rfl rfl
theorem kc_58_42 : am_code tn_G 58 42 = some (.getfield 54, 3, 0) := am_code_of (M := tn_m58) rfl (by decide +kernel) rfl rfl
theorem kc_58_45 : am_code tn_G 58 45 = some (.imul, 1, 0) := am_code_of (M := tn_m58) rfl (by decide +kernel) rfl rfl
theorem kc_58_46 : am_code tn_G 58 46 = some (.iconst 2, 1, 0) := am_code_of (M := tn_m58) rfl (by decide +kernel) rfl rfl
theorem kc_58_47 : am_code tn_G 58 47 = some (.iadd, 1, 0) := am_code_of (M := tn_m58) rfl (by decide +kernel) rfl rfl
theorem kc_58_48 : am_code tn_G 58 48 = some (.iload 4, 2, 0) := am_code_of (M := tn_m58) rfl (by decide +kernel) rfl rfl
theorem kc_58_50 : am_code tn_G 58 50 = some (.iastore, 1, 0) := am_code_of (M := tn_m58) rfl (by decide +kernel) rfl rfl
theorem kc_58_51 : am_code tn_G 58 51 = some (.aload_n 0, 1, 0) := am_code_of (M := tn_m58) rfl (by decide +kernel) rfl rfl
theorem kc_58_52 : am_code tn_G 58 52 = some (.getfield 19, 3, 0) := am_code_of (M := tn_m58) rfl (by decide +kernel) rfl rfl
theorem kf_58_19 : am_fld tn_G 58 19 = some (5, 8) := by decide +kernel
theorem kc_58_55 : am_code tn_G 58 55 = some (.aload_n 0, 1, 0) := am_code_of (M := tn_m58) rfl (by decide +kernel) rfl rfl
theorem kc_58_56 : am_code tn_G 58 56 = some (.getfield 54, 3, 0) := am_code_of (M := tn_m58) rfl (by decide +kernel) rfl rfl
theorem kc_58_59 : am_code tn_G 58 59 = some (.aload_n 0, 1, 0) := am_code_of (M := tn_m58) rfl (by decide +kernel) rfl rfl
theorem kc_58_60 : am_code tn_G 58 60 = some (.getfield 54, 3, 0) := am_code_of (M := tn_m58) rfl (by decide +kernel) rfl rfl
theorem kc_58_63 : am_code tn_G 58 63 = some (.iastore, 1, 0) := am_code_of (M := tn_m58) rfl (by decide +kernel) rfl rfl
theorem kc_58_64 : am_code tn_G 58 64 = some (.aload_n 0, 1, 0) := am_code_of (M := tn_m58) rfl (by decide +kernel) rfl rfl
theorem kc_58_65 : am_code tn_G 58 65 = some (.dup, 1, 0) := am_code_of (M := tn_m58) rfl (by decide +kernel) rfl rfl
theorem kc_58_66 : am_code tn_G 58 66 = some (.getfield 54, 3, 0) := am_code_of (M := tn_m58) rfl (by decide +kernel) rfl rfl
theorem kc_58_69 : am_code tn_G 58 69 = some (.iconst 1, 1, 0) := am_code_of (M := tn_m58) rfl (by decide +kernel) rfl rfl
theorem kc_58_70 : am_code tn_G 58 70 = some (.iadd, 1, 0) := am_code_of (M := tn_m58) rfl (by decide +kernel) rfl rfl
theorem kc_58_71 : am_code tn_G 58 71 = some (.putfield 54, 3, 0) := am_code_of (M := tn_m58) rfl (by decide +kernel) rfl rfl
theorem kc_58_74 : am_code tn_G 58 74 = some (.aload_n 0, 1, 0) := am_code_of (M := tn_m58) rfl (by decide +kernel) rfl rfl
theorem kc_58_75 : am_code tn_G 58 75 = some (.aload_n 0, 1, 0) := am_code_of (M := tn_m58) rfl (by decide +kernel) rfl rfl
theorem kc_58_76 : am_code tn_G 58 76 = some (.getfield 19, 3, 0) := am_code_of (M := tn_m58) rfl (by decide +kernel) rfl rfl
theorem kc_58_79 : am_code tn_G 58 79 = some (.invokevirtual 60, 3, 0) := am_code_of (M := tn_m58) rfl (by decide +kernel) rfl rfl
theorem ka_58_60 : am_cal tn_G 58 60 = some (0, 59, 1) := by decide +kernel
theorem kc_58_82 : am_code tn_G 58 82 = some (.istore 5, 2, 0) := am_code_of (M := tn_m58) rfl (by decide +kernel) rfl rfl
theorem kc_58_84 : am_code tn_G 58 84 = some (.aload_n 0, 1, 0) := am_code_of (M := tn_m58) rfl (by decide +kernel) rfl rfl
theorem kc_58_85 : am_code tn_G 58 85 = some (.getfield 54, 3, 0) := am_code_of (M := tn_m58) rfl (by decide +kernel) rfl rfl
theorem kc_58_88 : am_code tn_G 58 88 = some (.iconst 1, 1, 0) := am_code_of (M := tn_m58) rfl (by decide +kernel) rfl rfl
theorem kc_58_89 : am_code tn_G 58 89 = some (.isub, 1, 0) := am_code_of (M := tn_m58) rfl (by decide +kernel) rfl rfl
theorem kc_58_90 : am_code tn_G 58 90 = some (.ireturn, 1, 0) := am_code_of (M := tn_m58) rfl (by decide +kernel) rfl rfl
-- 59: TermNetModel.close([I)Z
theorem kl_59 : am_ml tn_G 59 = 7 := rfl
theorem ko_59 : am_oc tn_G 59 = 5 := rfl
theorem kn_59 : am_nc tn_G 59 = 0 := rfl
theorem kr_59 : am_rt tn_G 59 = 2 := rfl
theorem kc_59_0 : am_code tn_G 59 0 = some (.iconst 1, 1, 0) := am_code_of (M := tn_m59) rfl (by decide +kernel) rfl rfl
theorem kc_59_1 : am_code tn_G 59 1 = some (.istore_n 2, 1, 0) := am_code_of (M := tn_m59) rfl (by decide +kernel) rfl rfl
theorem kc_59_2 : am_code tn_G 59 2 = some (.iload_n 2, 1, 0) := am_code_of (M := tn_m59) rfl (by decide +kernel) rfl rfl
theorem kc_59_3 : am_code tn_G 59 3 = some (.ifCond .eq 289, 3, 292) := am_code_of (M := tn_m59) rfl (by decide +kernel) rfl (by decide +kernel)
theorem kc_59_6 : am_code tn_G 59 6 = some (.iconst 0, 1, 0) := am_code_of (M := tn_m59) rfl (by decide +kernel) rfl rfl
theorem kc_59_7 : am_code tn_G 59 7 = some (.istore_n 2, 1, 0) := am_code_of (M := tn_m59) rfl (by decide +kernel) rfl rfl
theorem kc_59_8 : am_code tn_G 59 8 = some (.iconst 0, 1, 0) := am_code_of (M := tn_m59) rfl (by decide +kernel) rfl rfl
theorem kc_59_9 : am_code tn_G 59 9 = some (.istore_n 3, 1, 0) := am_code_of (M := tn_m59) rfl (by decide +kernel) rfl rfl
theorem kc_59_10 : am_code tn_G 59 10 = some (.iload_n 3, 1, 0) := am_code_of (M := tn_m59) rfl (by decide +kernel) rfl rfl
theorem kc_59_11 : am_code tn_G 59 11 = some (.aload_n 0, 1, 0) := am_code_of (M := tn_m59) rfl (by decide +kernel) rfl rfl
theorem kc_59_12 : am_code tn_G 59 12 = some (.getfield 54, 3, 0) := am_code_of (M := tn_m59) rfl (by decide +kernel) rfl rfl
theorem kf_59_54 : am_fld tn_G 59 54 = some (5, 4) := by decide +kernel
theorem kc_59_15 : am_code tn_G 59 15 = some (.if_icmp .ge 274, 3, 289) := am_code_of (M := tn_m59) rfl (by decide +kernel) rfl (by decide +kernel)
theorem kc_59_18 : am_code tn_G 59 18 = some (.iconst 0, 1, 0) := am_code_of (M := tn_m59) rfl (by decide +kernel) rfl rfl
theorem kc_59_19 : am_code tn_G 59 19 = some (.istore 4, 2, 0) := am_code_of (M := tn_m59) rfl (by decide +kernel) rfl rfl
theorem kc_59_21 : am_code tn_G 59 21 = some (.iload 4, 2, 0) := am_code_of (M := tn_m59) rfl (by decide +kernel) rfl rfl
theorem kc_59_23 : am_code tn_G 59 23 = some (.iload_n 3, 1, 0) := am_code_of (M := tn_m59) rfl (by decide +kernel) rfl rfl
theorem kc_59_24 : am_code tn_G 59 24 = some (.if_icmp .ge 259, 3, 283) := am_code_of (M := tn_m59) rfl (by decide +kernel) rfl (by decide +kernel)
theorem kc_59_27 : am_code tn_G 59 27 = some (.aload_n 0, 1, 0) := am_code_of (M := tn_m59) rfl (by decide +kernel) rfl rfl
theorem kc_59_28 : am_code tn_G 59 28 = some (.getfield 13, 3, 0) := am_code_of (M := tn_m59) rfl (by decide +kernel) rfl rfl
theorem kf_59_13 : am_fld tn_G 59 13 = some (5, 1) := by decide +kernel
theorem kc_59_31 : am_code tn_G 59 31 = some (.iload_n 3, 1, 0) := am_code_of (M := tn_m59) rfl (by decide +kernel) rfl rfl
theorem kc_59_32 : am_code tn_G 59 32 = some (.iaload, 1, 0) := am_code_of (M := tn_m59) rfl (by decide +kernel) rfl rfl
theorem kc_59_33 : am_code tn_G 59 33 = some (.ifCond .lt 250, 3, 283) := am_code_of (M := tn_m59) rfl (by decide +kernel) rfl (by decide +kernel)
theorem kc_59_36 : am_code tn_G 59 36 = some (.aload_n 0, 1, 0) := am_code_of (M := tn_m59) rfl (by decide +kernel) rfl rfl
theorem kc_59_37 : am_code tn_G 59 37 = some (.getfield 13, 3, 0) := am_code_of (M := tn_m59) rfl (by decide +kernel) rfl rfl
theorem kc_59_40 : am_code tn_G 59 40 = some (.iload 4, 2, 0) := am_code_of (M := tn_m59) rfl (by decide +kernel) rfl rfl
theorem kc_59_42 : am_code tn_G 59 42 = some (.iaload, 1, 0) := am_code_of (M := tn_m59) rfl (by decide +kernel) rfl rfl
theorem kc_59_43 : am_code tn_G 59 43 = some (.ifCond .ge 6, 3, 49) := am_code_of (M := tn_m59) rfl (by decide +kernel) rfl (by decide +kernel)
theorem kc_59_46 : am_code tn_G 59 46 = some (.goto 231, 3, 277) := am_code_of (M := tn_m59) rfl (by decide +kernel) rfl (by decide +kernel)
theorem kc_59_49 : am_code tn_G 59 49 = some (.aload_n 1, 1, 0) := am_code_of (M := tn_m59) rfl (by decide +kernel) rfl rfl
theorem kc_59_50 : am_code tn_G 59 50 = some (.iload_n 3, 1, 0) := am_code_of (M := tn_m59) rfl (by decide +kernel) rfl rfl
theorem kc_59_51 : am_code tn_G 59 51 = some (.iaload, 1, 0) := am_code_of (M := tn_m59) rfl (by decide +kernel) rfl rfl
theorem kc_59_52 : am_code tn_G 59 52 = some (.aload_n 1, 1, 0) := am_code_of (M := tn_m59) rfl (by decide +kernel) rfl rfl
theorem kc_59_53 : am_code tn_G 59 53 = some (.iload 4, 2, 0) := am_code_of (M := tn_m59) rfl (by decide +kernel) rfl rfl
theorem kc_59_55 : am_code tn_G 59 55 = some (.iaload, 1, 0) := am_code_of (M := tn_m59) rfl (by decide +kernel) rfl rfl
theorem kc_59_56 : am_code tn_G 59 56 = some (.if_icmp .ne 21, 3, 77) := am_code_of (M := tn_m59) rfl (by decide +kernel) rfl (by decide +kernel)
theorem kc_59_59 : am_code tn_G 59 59 = some (.aload_n 0, 1, 0) := am_code_of (M := tn_m59) rfl (by decide +kernel) rfl rfl
theorem kc_59_60 : am_code tn_G 59 60 = some (.getfield 13, 3, 0) := am_code_of (M := tn_m59) rfl (by decide +kernel) rfl rfl
theorem kc_59_63 : am_code tn_G 59 63 = some (.iload_n 3, 1, 0) := am_code_of (M := tn_m59) rfl (by decide +kernel) rfl rfl
theorem kc_59_64 : am_code tn_G 59 64 = some (.iaload, 1, 0) := am_code_of (M := tn_m59) rfl (by decide +kernel) rfl rfl
theorem kc_59_65 : am_code tn_G 59 65 = some (.aload_n 0, 1, 0) := am_code_of (M := tn_m59) rfl (by decide +kernel) rfl rfl
theorem kc_59_66 : am_code tn_G 59 66 = some (.getfield 13, 3, 0) := am_code_of (M := tn_m59) rfl (by decide +kernel) rfl rfl
theorem kc_59_69 : am_code tn_G 59 69 = some (.iload 4, 2, 0) := am_code_of (M := tn_m59) rfl (by decide +kernel) rfl rfl
theorem kc_59_71 : am_code tn_G 59 71 = some (.iaload, 1, 0) := am_code_of (M := tn_m59) rfl (by decide +kernel) rfl rfl
theorem kc_59_72 : am_code tn_G 59 72 = some (.if_icmp .eq 5, 3, 77) := am_code_of (M := tn_m59) rfl (by decide +kernel) rfl (by decide +kernel)
theorem kc_59_75 : am_code tn_G 59 75 = some (.iconst 0, 1, 0) := am_code_of (M := tn_m59) rfl (by decide +kernel) rfl rfl
theorem kc_59_76 : am_code tn_G 59 76 = some (.ireturn, 1, 0) := am_code_of (M := tn_m59) rfl (by decide +kernel) rfl rfl
theorem kc_59_77 : am_code tn_G 59 77 = some (.aload_n 0, 1, 0) := am_code_of (M := tn_m59) rfl (by decide +kernel) rfl rfl
theorem kc_59_78 : am_code tn_G 59 78 = some (.getfield 13, 3, 0) := am_code_of (M := tn_m59) rfl (by decide +kernel) rfl rfl
theorem kc_59_81 : am_code tn_G 59 81 = some (.iload_n 3, 1, 0) := am_code_of (M := tn_m59) rfl (by decide +kernel) rfl rfl
theorem kc_59_82 : am_code tn_G 59 82 = some (.iaload, 1, 0) := am_code_of (M := tn_m59) rfl (by decide +kernel) rfl rfl
theorem kc_59_83 : am_code tn_G 59 83 = some (.aload_n 0, 1, 0) := am_code_of (M := tn_m59) rfl (by decide +kernel) rfl rfl
theorem kc_59_84 : am_code tn_G 59 84 = some (.getfield 13, 3, 0) := am_code_of (M := tn_m59) rfl (by decide +kernel) rfl rfl
theorem kc_59_87 : am_code tn_G 59 87 = some (.iload 4, 2, 0) := am_code_of (M := tn_m59) rfl (by decide +kernel) rfl rfl
theorem kc_59_89 : am_code tn_G 59 89 = some (.iaload, 1, 0) := am_code_of (M := tn_m59) rfl (by decide +kernel) rfl rfl
theorem kc_59_90 : am_code tn_G 59 90 = some (.if_icmp .eq 6, 3, 96) := am_code_of (M := tn_m59) rfl (by decide +kernel) rfl (by decide +kernel)
theorem kc_59_93 : am_code tn_G 59 93 = some (.goto 184, 3, 277) := am_code_of (M := tn_m59) rfl (by decide +kernel) rfl (by decide +kernel)
theorem kc_59_96 : am_code tn_G 59 96 = some (.iconst 0, 1, 0) := am_code_of (M := tn_m59) rfl (by decide +kernel) rfl rfl
theorem kc_59_97 : am_code tn_G 59 97 = some (.istore 5, 2, 0) := am_code_of (M := tn_m59) rfl (by decide +kernel) rfl rfl
theorem kc_59_99 : am_code tn_G 59 99 = some (.iconst 0, 1, 0) := am_code_of (M := tn_m59) rfl (by decide +kernel) rfl rfl
theorem kc_59_100 : am_code tn_G 59 100 = some (.istore 6, 2, 0) := am_code_of (M := tn_m59) rfl (by decide +kernel) rfl rfl
theorem kc_59_102 : am_code tn_G 59 102 = some (.iload 6, 2, 0) := am_code_of (M := tn_m59) rfl (by decide +kernel) rfl rfl
theorem kc_59_104 : am_code tn_G 59 104 = some (.aload_n 0, 1, 0) := am_code_of (M := tn_m59) rfl (by decide +kernel) rfl rfl
theorem kc_59_105 : am_code tn_G 59 105 = some (.getfield 9, 3, 0) := am_code_of (M := tn_m59) rfl (by decide +kernel) rfl rfl
theorem kf_59_9 : am_fld tn_G 59 9 = some (5, 0) := by decide +kernel
theorem kc_59_108 : am_code tn_G 59 108 = some (.aload_n 0, 1, 0) := am_code_of (M := tn_m59) rfl (by decide +kernel) rfl rfl
theorem kc_59_109 : am_code tn_G 59 109 = some (.getfield 13, 3, 0) := am_code_of (M := tn_m59) rfl (by decide +kernel) rfl rfl
theorem kc_59_112 : am_code tn_G 59 112 = some (.iload_n 3, 1, 0) := am_code_of (M := tn_m59) rfl (by decide +kernel) rfl rfl
theorem kc_59_113 : am_code tn_G 59 113 = some (.iaload, 1, 0) := am_code_of (M := tn_m59) rfl (by decide +kernel) rfl rfl
theorem kc_59_114 : am_code tn_G 59 114 = some (.iaload, 1, 0) := am_code_of (M := tn_m59) rfl (by decide +kernel) rfl rfl
theorem kc_59_115 : am_code tn_G 59 115 = some (.if_icmp .ge 42, 3, 157) := am_code_of (M := tn_m59) rfl (by decide +kernel) rfl (by decide +kernel)
theorem kc_59_118 : am_code tn_G 59 118 = some (.aload_n 1, 1, 0) := am_code_of (M := tn_m59) rfl (by decide +kernel) rfl rfl
theorem kc_59_119 : am_code tn_G 59 119 = some (.aload_n 0, 1, 0) := am_code_of (M := tn_m59) rfl (by decide +kernel) rfl rfl
theorem kc_59_120 : am_code tn_G 59 120 = some (.getfield 16, 3, 0) := am_code_of (M := tn_m59) rfl (by decide +kernel) rfl rfl
theorem kf_59_16 : am_fld tn_G 59 16 = some (5, 2) := by decide +kernel
theorem kc_59_123 : am_code tn_G 59 123 = some (.iconst 3, 1, 0) := am_code_of (M := tn_m59) rfl (by decide +kernel) rfl rfl
theorem kc_59_124 : am_code tn_G 59 124 = some (.iload_n 3, 1, 0) := am_code_of (M := tn_m59) rfl (by decide +kernel) rfl rfl
theorem kc_59_125 : am_code tn_G 59 125 = some (.imul, 1, 0) := am_code_of (M := tn_m59) rfl (by decide +kernel) rfl rfl
theorem kc_59_126 : am_code tn_G 59 126 = some (.iload 6, 2, 0) := am_code_of (M := tn_m59) rfl (by decide +kernel) rfl rfl
theorem kc_59_128 : am_code tn_G 59 128 = some (.iadd, 1, 0) := am_code_of (M := tn_m59) rfl (by decide +kernel) rfl rfl
theorem kc_59_129 : am_code tn_G 59 129 = some (.iaload, 1, 0) := am_code_of (M := tn_m59) rfl (by decide +kernel) rfl rfl
theorem kc_59_130 : am_code tn_G 59 130 = some (.iaload, 1, 0) := am_code_of (M := tn_m59) rfl (by decide +kernel) rfl rfl
theorem kc_59_131 : am_code tn_G 59 131 = some (.aload_n 1, 1, 0) := am_code_of (M := tn_m59) rfl (by decide +kernel) rfl rfl
theorem kc_59_132 : am_code tn_G 59 132 = some (.aload_n 0, 1, 0) := am_code_of (M := tn_m59) rfl (by decide +kernel) rfl rfl
theorem kc_59_133 : am_code tn_G 59 133 = some (.getfield 16, 3, 0) := am_code_of (M := tn_m59) rfl (by decide +kernel) rfl rfl
theorem kc_59_136 : am_code tn_G 59 136 = some (.iconst 3, 1, 0) := am_code_of (M := tn_m59) rfl (by decide +kernel) rfl rfl
theorem kc_59_137 : am_code tn_G 59 137 = some (.iload 4, 2, 0) := am_code_of (M := tn_m59) rfl (by decide +kernel) rfl rfl
theorem kc_59_139 : am_code tn_G 59 139 = some (.imul, 1, 0) := am_code_of (M := tn_m59) rfl (by decide +kernel) rfl rfl
theorem kc_59_140 : am_code tn_G 59 140 = some (.iload 6, 2, 0) := am_code_of (M := tn_m59) rfl (by decide +kernel) rfl rfl
theorem kc_59_142 : am_code tn_G 59 142 = some (.iadd, 1, 0) := am_code_of (M := tn_m59) rfl (by decide +kernel) rfl rfl
theorem kc_59_143 : am_code tn_G 59 143 = some (.iaload, 1, 0) := am_code_of (M := tn_m59) rfl (by decide +kernel) rfl rfl
theorem kc_59_144 : am_code tn_G 59 144 = some (.iaload, 1, 0) := am_code_of (M := tn_m59) rfl (by decide +kernel) rfl rfl
theorem kc_59_145 : am_code tn_G 59 145 = some (.if_icmp .ne 6, 3, 151) := am_code_of (M := tn_m59) rfl (by decide +kernel) rfl (by decide +kernel)
theorem kc_59_148 : am_code tn_G 59 148 = some (.iinc 5 1, 3, 0) := am_code_of (M := tn_m59) rfl (by decide +kernel) rfl rfl
theorem kc_59_151 : am_code tn_G 59 151 = some (.iinc 6 1, 3, 0) := am_code_of (M := tn_m59) rfl (by decide +kernel) rfl rfl
theorem kc_59_154 : am_code tn_G 59 154 = some (.goto (-52), 3, 102) := am_code_of (M := tn_m59) rfl (by decide +kernel) rfl (by decide +kernel)
theorem kc_59_157 : am_code tn_G 59 157 = some (.aload_n 1, 1, 0) := am_code_of (M := tn_m59) rfl (by decide +kernel) rfl rfl
theorem kc_59_158 : am_code tn_G 59 158 = some (.iload_n 3, 1, 0) := am_code_of (M := tn_m59) rfl (by decide +kernel) rfl rfl
theorem kc_59_159 : am_code tn_G 59 159 = some (.iaload, 1, 0) := am_code_of (M := tn_m59) rfl (by decide +kernel) rfl rfl
theorem kc_59_160 : am_code tn_G 59 160 = some (.aload_n 1, 1, 0) := am_code_of (M := tn_m59) rfl (by decide +kernel) rfl rfl
theorem kc_59_161 : am_code tn_G 59 161 = some (.iload 4, 2, 0) := am_code_of (M := tn_m59) rfl (by decide +kernel) rfl rfl
theorem kc_59_163 : am_code tn_G 59 163 = some (.iaload, 1, 0) := am_code_of (M := tn_m59) rfl (by decide +kernel) rfl rfl
theorem kc_59_164 : am_code tn_G 59 164 = some (.if_icmp .eq 32, 3, 196) := am_code_of (M := tn_m59) rfl (by decide +kernel) rfl (by decide +kernel)
theorem kc_59_167 : am_code tn_G 59 167 = some (.iload 5, 2, 0) := am_code_of (M := tn_m59) rfl (by decide +kernel) rfl rfl
theorem kc_59_169 : am_code tn_G 59 169 = some (.aload_n 0, 1, 0) := am_code_of (M := tn_m59) rfl (by decide +kernel) rfl rfl
theorem kc_59_170 : am_code tn_G 59 170 = some (.getfield 9, 3, 0) := am_code_of (M := tn_m59) rfl (by decide +kernel) rfl rfl
theorem kc_59_173 : am_code tn_G 59 173 = some (.aload_n 0, 1, 0) := am_code_of (M := tn_m59) rfl (by decide +kernel) rfl rfl
theorem kc_59_174 : am_code tn_G 59 174 = some (.getfield 13, 3, 0) := am_code_of (M := tn_m59) rfl (by decide +kernel) rfl rfl
theorem kc_59_177 : am_code tn_G 59 177 = some (.iload_n 3, 1, 0) := am_code_of (M := tn_m59) rfl (by decide +kernel) rfl rfl
theorem kc_59_178 : am_code tn_G 59 178 = some (.iaload, 1, 0) := am_code_of (M := tn_m59) rfl (by decide +kernel) rfl rfl
theorem kc_59_179 : am_code tn_G 59 179 = some (.iaload, 1, 0) := am_code_of (M := tn_m59) rfl (by decide +kernel) rfl rfl
theorem kc_59_180 : am_code tn_G 59 180 = some (.if_icmp .ne 16, 3, 196) := am_code_of (M := tn_m59) rfl (by decide +kernel) rfl (by decide +kernel)
theorem kc_59_183 : am_code tn_G 59 183 = some (.aload_n 0, 1, 0) := am_code_of (M := tn_m59) rfl (by decide +kernel) rfl rfl
theorem kc_59_184 : am_code tn_G 59 184 = some (.aload_n 1, 1, 0) := am_code_of (M := tn_m59) rfl (by decide +kernel) rfl rfl
theorem kc_59_185 : am_code tn_G 59 185 = some (.iload_n 3, 1, 0) := am_code_of (M := tn_m59) rfl (by decide +kernel) rfl rfl
theorem kc_59_186 : am_code tn_G 59 186 = some (.iload 4, 2, 0) := am_code_of (M := tn_m59) rfl (by decide +kernel) rfl rfl
theorem kc_59_188 : am_code tn_G 59 188 = some (.invokevirtual 72, 3, 0) := am_code_of (M := tn_m59) rfl (by decide +kernel) rfl rfl
theorem ka_59_72 : am_cal tn_G 59 72 = some (0, 60, 3) := by decide +kernel
theorem kc_59_191 : am_code tn_G 59 191 = some (.iconst 1, 1, 0) := am_code_of (M := tn_m59) rfl (by decide +kernel) rfl rfl
theorem kc_59_192 : am_code tn_G 59 192 = some (.istore_n 2, 1, 0) := am_code_of (M := tn_m59) rfl (by decide +kernel) rfl rfl
theorem kc_59_193 : am_code tn_G 59 193 = some (.goto 84, 3, 277) := am_code_of (M := tn_m59) rfl (by decide +kernel) rfl (by decide +kernel)
theorem kc_59_196 : am_code tn_G 59 196 = some (.aload_n 1, 1, 0) := am_code_of (M := tn_m59) rfl (by decide +kernel) rfl rfl
theorem kc_59_197 : am_code tn_G 59 197 = some (.iload_n 3, 1, 0) := am_code_of (M := tn_m59) rfl (by decide +kernel) rfl rfl
theorem kc_59_198 : am_code tn_G 59 198 = some (.iaload, 1, 0) := am_code_of (M := tn_m59) rfl (by decide +kernel) rfl rfl
theorem kc_59_199 : am_code tn_G 59 199 = some (.aload_n 1, 1, 0) := am_code_of (M := tn_m59) rfl (by decide +kernel) rfl rfl
theorem kc_59_200 : am_code tn_G 59 200 = some (.iload 4, 2, 0) := am_code_of (M := tn_m59) rfl (by decide +kernel) rfl rfl
theorem kc_59_202 : am_code tn_G 59 202 = some (.iaload, 1, 0) := am_code_of (M := tn_m59) rfl (by decide +kernel) rfl rfl
theorem kc_59_203 : am_code tn_G 59 203 = some (.if_icmp .ne 74, 3, 277) := am_code_of (M := tn_m59) rfl (by decide +kernel) rfl (by decide +kernel)
theorem kc_59_206 : am_code tn_G 59 206 = some (.iload 5, 2, 0) := am_code_of (M := tn_m59) rfl (by decide +kernel) rfl rfl
theorem kc_59_208 : am_code tn_G 59 208 = some (.aload_n 0, 1, 0) := am_code_of (M := tn_m59) rfl (by decide +kernel) rfl rfl
theorem kc_59_209 : am_code tn_G 59 209 = some (.getfield 9, 3, 0) := am_code_of (M := tn_m59) rfl (by decide +kernel) rfl rfl
theorem kc_59_212 : am_code tn_G 59 212 = some (.aload_n 0, 1, 0) := am_code_of (M := tn_m59) rfl (by decide +kernel) rfl rfl
theorem kc_59_213 : am_code tn_G 59 213 = some (.getfield 13, 3, 0) := am_code_of (M := tn_m59) rfl (by decide +kernel) rfl rfl
theorem kc_59_216 : am_code tn_G 59 216 = some (.iload_n 3, 1, 0) := am_code_of (M := tn_m59) rfl (by decide +kernel) rfl rfl
theorem kc_59_217 : am_code tn_G 59 217 = some (.iaload, 1, 0) := am_code_of (M := tn_m59) rfl (by decide +kernel) rfl rfl
theorem kc_59_218 : am_code tn_G 59 218 = some (.iaload, 1, 0) := am_code_of (M := tn_m59) rfl (by decide +kernel) rfl rfl
theorem kc_59_219 : am_code tn_G 59 219 = some (.if_icmp .ge 58, 3, 277) := am_code_of (M := tn_m59) rfl (by decide +kernel) rfl (by decide +kernel)
theorem kc_59_222 : am_code tn_G 59 222 = some (.iconst 0, 1, 0) := am_code_of (M := tn_m59) rfl (by decide +kernel) rfl rfl
theorem kc_59_223 : am_code tn_G 59 223 = some (.istore 6, 2, 0) := am_code_of (M := tn_m59) rfl (by decide +kernel) rfl rfl
theorem kc_59_225 : am_code tn_G 59 225 = some (.iload 6, 2, 0) := am_code_of (M := tn_m59) rfl (by decide +kernel) rfl rfl
theorem kc_59_227 : am_code tn_G 59 227 = some (.aload_n 0, 1, 0) := am_code_of (M := tn_m59) rfl (by decide +kernel) rfl rfl
theorem kc_59_228 : am_code tn_G 59 228 = some (.getfield 9, 3, 0) := am_code_of (M := tn_m59) rfl (by decide +kernel) rfl rfl
theorem kc_59_231 : am_code tn_G 59 231 = some (.aload_n 0, 1, 0) := am_code_of (M := tn_m59) rfl (by decide +kernel) rfl rfl
theorem kc_59_232 : am_code tn_G 59 232 = some (.getfield 13, 3, 0) := am_code_of (M := tn_m59) rfl (by decide +kernel) rfl rfl
theorem kc_59_235 : am_code tn_G 59 235 = some (.iload_n 3, 1, 0) := am_code_of (M := tn_m59) rfl (by decide +kernel) rfl rfl
theorem kc_59_236 : am_code tn_G 59 236 = some (.iaload, 1, 0) := am_code_of (M := tn_m59) rfl (by decide +kernel) rfl rfl
theorem kc_59_237 : am_code tn_G 59 237 = some (.iaload, 1, 0) := am_code_of (M := tn_m59) rfl (by decide +kernel) rfl rfl
theorem kc_59_238 : am_code tn_G 59 238 = some (.if_icmp .ge 37, 3, 275) := am_code_of (M := tn_m59) rfl (by decide +kernel) rfl (by decide +kernel)
theorem kc_59_241 : am_code tn_G 59 241 = some (.aload_n 0, 1, 0) := am_code_of (M := tn_m59) rfl (by decide +kernel) rfl rfl
theorem kc_59_242 : am_code tn_G 59 242 = some (.aload_n 1, 1, 0) := am_code_of (M := tn_m59) rfl (by decide +kernel) rfl rfl
theorem kc_59_243 : am_code tn_G 59 243 = some (.aload_n 0, 1, 0) := am_code_of (M := tn_m59) rfl (by decide +kernel) rfl rfl
theorem kc_59_244 : am_code tn_G 59 244 = some (.getfield 16, 3, 0) := am_code_of (M := tn_m59) rfl (by decide +kernel) rfl rfl
theorem kc_59_247 : am_code tn_G 59 247 = some (.iconst 3, 1, 0) := am_code_of (M := tn_m59) rfl (by decide +kernel) rfl rfl
theorem kc_59_248 : am_code tn_G 59 248 = some (.iload_n 3, 1, 0) := am_code_of (M := tn_m59) rfl (by decide +kernel) rfl rfl
theorem kc_59_249 : am_code tn_G 59 249 = some (.imul, 1, 0) := am_code_of (M := tn_m59) rfl (by decide +kernel) rfl rfl
theorem kc_59_250 : am_code tn_G 59 250 = some (.iload 6, 2, 0) := am_code_of (M := tn_m59) rfl (by decide +kernel) rfl rfl
theorem kc_59_252 : am_code tn_G 59 252 = some (.iadd, 1, 0) := am_code_of (M := tn_m59) rfl (by decide +kernel) rfl rfl
theorem kc_59_253 : am_code tn_G 59 253 = some (.iaload, 1, 0) := am_code_of (M := tn_m59) rfl (by decide +kernel) rfl rfl
theorem kc_59_254 : am_code tn_G 59 254 = some (.aload_n 0, 1, 0) := am_code_of (M := tn_m59) rfl (by decide +kernel) rfl rfl
theorem kc_59_255 : am_code tn_G 59 255 = some (.getfield 16, 3, 0) := am_code_of (M := tn_m59) rfl (by decide +kernel) rfl rfl
theorem kc_59_258 : am_code tn_G 59 258 = some (.iconst 3, 1, 0) := am_code_of (M := tn_m59) rfl (by decide +kernel) rfl rfl
theorem kc_59_259 : am_code tn_G 59 259 = some (.iload 4, 2, 0) := am_code_of (M := tn_m59) rfl (by decide +kernel) rfl rfl
theorem kc_59_261 : am_code tn_G 59 261 = some (.imul, 1, 0) := am_code_of (M := tn_m59) rfl (by decide +kernel) rfl rfl
theorem kc_59_262 : am_code tn_G 59 262 = some (.iload 6, 2, 0) := am_code_of (M := tn_m59) rfl (by decide +kernel) rfl rfl
theorem kc_59_264 : am_code tn_G 59 264 = some (.iadd, 1, 0) := am_code_of (M := tn_m59) rfl (by decide +kernel) rfl rfl
theorem kc_59_265 : am_code tn_G 59 265 = some (.iaload, 1, 0) := am_code_of (M := tn_m59) rfl (by decide +kernel) rfl rfl
theorem kc_59_266 : am_code tn_G 59 266 = some (.invokevirtual 72, 3, 0) := am_code_of (M := tn_m59) rfl (by decide +kernel) rfl rfl
theorem kc_59_269 : am_code tn_G 59 269 = some (.iinc 6 1, 3, 0) := am_code_of (M := tn_m59) rfl (by decide +kernel) rfl rfl
theorem kc_59_272 : am_code tn_G 59 272 = some (.goto (-47), 3, 225) := am_code_of (M := tn_m59) rfl (by decide +kernel) rfl (by decide +kernel)
theorem kc_59_275 : am_code tn_G 59 275 = some (.iconst 1, 1, 0) := am_code_of (M := tn_m59) rfl (by decide +kernel) rfl rfl
theorem kc_59_276 : am_code tn_G 59 276 = some (.istore_n 2, 1, 0) := am_code_of (M := tn_m59) rfl (by decide +kernel) rfl rfl
theorem kc_59_277 : am_code tn_G 59 277 = some (.iinc 4 1, 3, 0) := am_code_of (M := tn_m59) rfl (by decide +kernel) rfl rfl
theorem kc_59_280 : am_code tn_G 59 280 = some (.goto (-259), 3, 21) := am_code_of (M := tn_m59) rfl (by decide +kernel) rfl (by decide +kernel)
theorem kc_59_283 : am_code tn_G 59 283 = some (.iinc 3 1, 3, 0) := am_code_of (M := tn_m59) rfl (by decide +kernel) rfl rfl
theorem kc_59_286 : am_code tn_G 59 286 = some (.goto (-276), 3, 10) := am_code_of (M := tn_m59) rfl (by decide +kernel) rfl (by decide +kernel)
theorem kc_59_289 : am_code tn_G 59 289 = some (.goto (-287), 3, 2) := am_code_of (M := tn_m59) rfl (by decide +kernel) rfl (by decide +kernel)
theorem kc_59_292 : am_code tn_G 59 292 = some (.iconst 1, 1, 0) := am_code_of (M := tn_m59) rfl (by decide +kernel) rfl rfl
theorem kc_59_293 : am_code tn_G 59 293 = some (.ireturn, 1, 0) := am_code_of (M := tn_m59) rfl (by decide +kernel) rfl rfl
-- 60: TermNetModel.join([III)V
theorem kl_60 : am_ml tn_G 60 = 7 := rfl
theorem ko_60 : am_oc tn_G 60 = 5 := rfl
theorem kn_60 : am_nc tn_G 60 = 0 := rfl
theorem kr_60 : am_rt tn_G 60 = 0 := rfl
theorem kc_60_0 : am_code tn_G 60 0 = some (.aload_n 1, 1, 0) := am_code_of (M := tn_m60) rfl (by decide +kernel) rfl rfl
theorem kc_60_1 : am_code tn_G 60 1 = some (.iload_n 2, 1, 0) := am_code_of (M := tn_m60) rfl (by decide +kernel) rfl rfl
theorem kc_60_2 : am_code tn_G 60 2 = some (.iaload, 1, 0) := am_code_of (M := tn_m60) rfl (by decide +kernel) rfl rfl
theorem kc_60_3 : am_code tn_G 60 3 = some (.aload_n 1, 1, 0) := am_code_of (M := tn_m60) rfl (by decide +kernel) rfl rfl
theorem kc_60_4 : am_code tn_G 60 4 = some (.iload_n 3, 1, 0) := am_code_of (M := tn_m60) rfl (by decide +kernel) rfl rfl
theorem kc_60_5 : am_code tn_G 60 5 = some (.iaload, 1, 0) := am_code_of (M := tn_m60) rfl (by decide +kernel) rfl rfl
theorem kc_60_6 : am_code tn_G 60 6 = some (.if_icmp .ge 9, 3, 15) := am_code_of (M := tn_m60) rfl (by decide +kernel) rfl (by decide +kernel)
theorem kc_60_9 : am_code tn_G 60 9 = some (.aload_n 1, 1, 0) := am_code_of (M := tn_m60) rfl (by decide +kernel) rfl rfl
theorem kc_60_10 : am_code tn_G 60 10 = some (.iload_n 2, 1, 0) := am_code_of (M := tn_m60) rfl (by decide +kernel) rfl rfl
theorem kc_60_11 : am_code tn_G 60 11 = some (.iaload, 1, 0) := am_code_of (M := tn_m60) rfl (by decide +kernel) rfl rfl
theorem kc_60_12 : am_code tn_G 60 12 = some (.goto 6, 3, 18) := am_code_of (M := tn_m60) rfl (by decide +kernel) rfl (by decide +kernel)
theorem kc_60_15 : am_code tn_G 60 15 = some (.aload_n 1, 1, 0) := am_code_of (M := tn_m60) rfl (by decide +kernel) rfl rfl
theorem kc_60_16 : am_code tn_G 60 16 = some (.iload_n 3, 1, 0) := am_code_of (M := tn_m60) rfl (by decide +kernel) rfl rfl
theorem kc_60_17 : am_code tn_G 60 17 = some (.iaload, 1, 0) := am_code_of (M := tn_m60) rfl (by decide +kernel) rfl rfl
theorem kc_60_18 : am_code tn_G 60 18 = some (.istore 4, 2, 0) := am_code_of (M := tn_m60) rfl (by decide +kernel) rfl rfl
theorem kc_60_20 : am_code tn_G 60 20 = some (.aload_n 1, 1, 0) := am_code_of (M := tn_m60) rfl (by decide +kernel) rfl rfl
theorem kc_60_21 : am_code tn_G 60 21 = some (.iload_n 2, 1, 0) := am_code_of (M := tn_m60) rfl (by decide +kernel) rfl rfl
theorem kc_60_22 : am_code tn_G 60 22 = some (.iaload, 1, 0) := am_code_of (M := tn_m60) rfl (by decide +kernel) rfl rfl
theorem kc_60_23 : am_code tn_G 60 23 = some (.aload_n 1, 1, 0) := am_code_of (M := tn_m60) rfl (by decide +kernel) rfl rfl
theorem kc_60_24 : am_code tn_G 60 24 = some (.iload_n 3, 1, 0) := am_code_of (M := tn_m60) rfl (by decide +kernel) rfl rfl
theorem kc_60_25 : am_code tn_G 60 25 = some (.iaload, 1, 0) := am_code_of (M := tn_m60) rfl (by decide +kernel) rfl rfl
theorem kc_60_26 : am_code tn_G 60 26 = some (.if_icmp .ge 9, 3, 35) := am_code_of (M := tn_m60) rfl (by decide +kernel) rfl (by decide +kernel)
theorem kc_60_29 : am_code tn_G 60 29 = some (.aload_n 1, 1, 0) := am_code_of (M := tn_m60) rfl (by decide +kernel) rfl rfl
theorem kc_60_30 : am_code tn_G 60 30 = some (.iload_n 3, 1, 0) := am_code_of (M := tn_m60) rfl (by decide +kernel) rfl rfl
theorem kc_60_31 : am_code tn_G 60 31 = some (.iaload, 1, 0) := am_code_of (M := tn_m60) rfl (by decide +kernel) rfl rfl
theorem kc_60_32 : am_code tn_G 60 32 = some (.goto 6, 3, 38) := am_code_of (M := tn_m60) rfl (by decide +kernel) rfl (by decide +kernel)
theorem kc_60_35 : am_code tn_G 60 35 = some (.aload_n 1, 1, 0) := am_code_of (M := tn_m60) rfl (by decide +kernel) rfl rfl
theorem kc_60_36 : am_code tn_G 60 36 = some (.iload_n 2, 1, 0) := am_code_of (M := tn_m60) rfl (by decide +kernel) rfl rfl
theorem kc_60_37 : am_code tn_G 60 37 = some (.iaload, 1, 0) := am_code_of (M := tn_m60) rfl (by decide +kernel) rfl rfl
theorem kc_60_38 : am_code tn_G 60 38 = some (.istore 5, 2, 0) := am_code_of (M := tn_m60) rfl (by decide +kernel) rfl rfl
theorem kc_60_40 : am_code tn_G 60 40 = some (.iconst 0, 1, 0) := am_code_of (M := tn_m60) rfl (by decide +kernel) rfl rfl
theorem kc_60_41 : am_code tn_G 60 41 = some (.istore 6, 2, 0) := am_code_of (M := tn_m60) rfl (by decide +kernel) rfl rfl
theorem kc_60_43 : am_code tn_G 60 43 = some (.iload 6, 2, 0) := am_code_of (M := tn_m60) rfl (by decide +kernel) rfl rfl
theorem kc_60_45 : am_code tn_G 60 45 = some (.aload_n 0, 1, 0) := am_code_of (M := tn_m60) rfl (by decide +kernel) rfl rfl
theorem kc_60_46 : am_code tn_G 60 46 = some (.getfield 54, 3, 0) := am_code_of (M := tn_m60) rfl (by decide +kernel) rfl rfl
theorem kf_60_54 : am_fld tn_G 60 54 = some (5, 4) := by decide +kernel
theorem kc_60_49 : am_code tn_G 60 49 = some (.if_icmp .ge 24, 3, 73) := am_code_of (M := tn_m60) rfl (by decide +kernel) rfl (by decide +kernel)
theorem kc_60_52 : am_code tn_G 60 52 = some (.aload_n 1, 1, 0) := am_code_of (M := tn_m60) rfl (by decide +kernel) rfl rfl
theorem kc_60_53 : am_code tn_G 60 53 = some (.iload 6, 2, 0) := am_code_of (M := tn_m60) rfl (by decide +kernel) rfl rfl
theorem kc_60_55 : am_code tn_G 60 55 = some (.iaload, 1, 0) := am_code_of (M := tn_m60) rfl (by decide +kernel) rfl rfl
theorem kc_60_56 : am_code tn_G 60 56 = some (.iload 5, 2, 0) := am_code_of (M := tn_m60) rfl (by decide +kernel) rfl rfl
theorem kc_60_58 : am_code tn_G 60 58 = some (.if_icmp .ne 9, 3, 67) := am_code_of (M := tn_m60) rfl (by decide +kernel) rfl (by decide +kernel)
theorem kc_60_61 : am_code tn_G 60 61 = some (.aload_n 1, 1, 0) := am_code_of (M := tn_m60) rfl (by decide +kernel) rfl rfl
theorem kc_60_62 : am_code tn_G 60 62 = some (.iload 6, 2, 0) := am_code_of (M := tn_m60) rfl (by decide +kernel) rfl rfl
theorem kc_60_64 : am_code tn_G 60 64 = some (.iload 4, 2, 0) := am_code_of (M := tn_m60) rfl (by decide +kernel) rfl rfl
theorem kc_60_66 : am_code tn_G 60 66 = some (.iastore, 1, 0) := am_code_of (M := tn_m60) rfl (by decide +kernel) rfl rfl
theorem kc_60_67 : am_code tn_G 60 67 = some (.iinc 6 1, 3, 0) := am_code_of (M := tn_m60) rfl (by decide +kernel) rfl rfl
theorem kc_60_70 : am_code tn_G 60 70 = some (.goto (-27), 3, 43) := am_code_of (M := tn_m60) rfl (by decide +kernel) rfl (by decide +kernel)
theorem kc_60_73 : am_code tn_G 60 73 = some (.return_, 1, 0) := am_code_of (M := tn_m60) rfl (by decide +kernel) rfl rfl
-- 61: TermNetModel.term(IIII)I
theorem kl_61 : am_ml tn_G 61 = 6 := rfl
theorem ko_61 : am_oc tn_G 61 = 5 := rfl
theorem kn_61 : am_nc tn_G 61 = 0 := rfl
theorem kr_61 : am_rt tn_G 61 = 1 := rfl
theorem kc_61_0 : am_code tn_G 61 0 = some (.iload_n 1, 1, 0) := am_code_of (M := tn_m61) rfl (by decide +kernel) rfl rfl
theorem kc_61_1 : am_code tn_G 61 1 = some (.ifCond .lt 15, 3, 16) := am_code_of (M := tn_m61) rfl (by decide +kernel) rfl (by decide +kernel)
theorem kc_61_4 : am_code tn_G 61 4 = some (.iload_n 1, 1, 0) := am_code_of (M := tn_m61) rfl (by decide +kernel) rfl rfl
theorem kc_61_5 : am_code tn_G 61 5 = some (.aload_n 0, 1, 0) := am_code_of (M := tn_m61) rfl (by decide +kernel) rfl rfl
theorem kc_61_6 : am_code tn_G 61 6 = some (.getfield 57, 3, 0) := am_code_of (M := tn_m61) rfl (by decide +kernel) rfl rfl
theorem kf_61_57 : am_fld tn_G 61 57 = some (5, 3) := by decide +kernel
theorem kc_61_9 : am_code tn_G 61 9 = some (.if_icmp .ge 7, 3, 16) := am_code_of (M := tn_m61) rfl (by decide +kernel) rfl (by decide +kernel)
theorem kc_61_12 : am_code tn_G 61 12 = some (.iconst 1, 1, 0) := am_code_of (M := tn_m61) rfl (by decide +kernel) rfl rfl
theorem kc_61_13 : am_code tn_G 61 13 = some (.goto 4, 3, 17) := am_code_of (M := tn_m61) rfl (by decide +kernel) rfl (by decide +kernel)
theorem kc_61_16 : am_code tn_G 61 16 = some (.iconst 0, 1, 0) := am_code_of (M := tn_m61) rfl (by decide +kernel) rfl rfl
theorem kc_61_17 : am_code tn_G 61 17 = some (.istore 5, 2, 0) := am_code_of (M := tn_m61) rfl (by decide +kernel) rfl rfl
theorem kc_61_19 : am_code tn_G 61 19 = some (.iload 5, 2, 0) := am_code_of (M := tn_m61) rfl (by decide +kernel) rfl rfl
theorem kc_61_21 : am_code tn_G 61 21 = some (.ifCond .eq 65, 3, 86) := am_code_of (M := tn_m61) rfl (by decide +kernel) rfl (by decide +kernel)
theorem kc_61_24 : am_code tn_G 61 24 = some (.aload_n 0, 1, 0) := am_code_of (M := tn_m61) rfl (by decide +kernel) rfl rfl
theorem kc_61_25 : am_code tn_G 61 25 = some (.getfield 9, 3, 0) := am_code_of (M := tn_m61) rfl (by decide +kernel) rfl rfl
theorem kf_61_9 : am_fld tn_G 61 9 = some (5, 0) := by decide +kernel
theorem kc_61_28 : am_code tn_G 61 28 = some (.iload_n 1, 1, 0) := am_code_of (M := tn_m61) rfl (by decide +kernel) rfl rfl
theorem kc_61_29 : am_code tn_G 61 29 = some (.iaload, 1, 0) := am_code_of (M := tn_m61) rfl (by decide +kernel) rfl rfl
theorem kc_61_30 : am_code tn_G 61 30 = some (.iconst 1, 1, 0) := am_code_of (M := tn_m61) rfl (by decide +kernel) rfl rfl
theorem kc_61_31 : am_code tn_G 61 31 = some (.if_icmp .lt 11, 3, 42) := am_code_of (M := tn_m61) rfl (by decide +kernel) rfl (by decide +kernel)
theorem kc_61_34 : am_code tn_G 61 34 = some (.aload_n 0, 1, 0) := am_code_of (M := tn_m61) rfl (by decide +kernel) rfl rfl
theorem kc_61_35 : am_code tn_G 61 35 = some (.iload_n 2, 1, 0) := am_code_of (M := tn_m61) rfl (by decide +kernel) rfl rfl
theorem kc_61_36 : am_code tn_G 61 36 = some (.invokevirtual 68, 3, 0) := am_code_of (M := tn_m61) rfl (by decide +kernel) rfl rfl
theorem ka_61_68 : am_cal tn_G 61 68 = some (0, 62, 1) := by decide +kernel
theorem kc_61_39 : am_code tn_G 61 39 = some (.ifCond .eq 44, 3, 83) := am_code_of (M := tn_m61) rfl (by decide +kernel) rfl (by decide +kernel)
theorem kc_61_42 : am_code tn_G 61 42 = some (.aload_n 0, 1, 0) := am_code_of (M := tn_m61) rfl (by decide +kernel) rfl rfl
theorem kc_61_43 : am_code tn_G 61 43 = some (.getfield 9, 3, 0) := am_code_of (M := tn_m61) rfl (by decide +kernel) rfl rfl
theorem kc_61_46 : am_code tn_G 61 46 = some (.iload_n 1, 1, 0) := am_code_of (M := tn_m61) rfl (by decide +kernel) rfl rfl
theorem kc_61_47 : am_code tn_G 61 47 = some (.iaload, 1, 0) := am_code_of (M := tn_m61) rfl (by decide +kernel) rfl rfl
theorem kc_61_48 : am_code tn_G 61 48 = some (.iconst 2, 1, 0) := am_code_of (M := tn_m61) rfl (by decide +kernel) rfl rfl
theorem kc_61_49 : am_code tn_G 61 49 = some (.if_icmp .lt 11, 3, 60) := am_code_of (M := tn_m61) rfl (by decide +kernel) rfl (by decide +kernel)
theorem kc_61_52 : am_code tn_G 61 52 = some (.aload_n 0, 1, 0) := am_code_of (M := tn_m61) rfl (by decide +kernel) rfl rfl
theorem kc_61_53 : am_code tn_G 61 53 = some (.iload_n 3, 1, 0) := am_code_of (M := tn_m61) rfl (by decide +kernel) rfl rfl
theorem kc_61_54 : am_code tn_G 61 54 = some (.invokevirtual 68, 3, 0) := am_code_of (M := tn_m61) rfl (by decide +kernel) rfl rfl
theorem kc_61_57 : am_code tn_G 61 57 = some (.ifCond .eq 26, 3, 83) := am_code_of (M := tn_m61) rfl (by decide +kernel) rfl (by decide +kernel)
theorem kc_61_60 : am_code tn_G 61 60 = some (.aload_n 0, 1, 0) := am_code_of (M := tn_m61) rfl (by decide +kernel) rfl rfl
theorem kc_61_61 : am_code tn_G 61 61 = some (.getfield 9, 3, 0) := am_code_of (M := tn_m61) rfl (by decide +kernel) rfl rfl
theorem kc_61_64 : am_code tn_G 61 64 = some (.iload_n 1, 1, 0) := am_code_of (M := tn_m61) rfl (by decide +kernel) rfl rfl
theorem kc_61_65 : am_code tn_G 61 65 = some (.iaload, 1, 0) := am_code_of (M := tn_m61) rfl (by decide +kernel) rfl rfl
theorem kc_61_66 : am_code tn_G 61 66 = some (.iconst 3, 1, 0) := am_code_of (M := tn_m61) rfl (by decide +kernel) rfl rfl
theorem kc_61_67 : am_code tn_G 61 67 = some (.if_icmp .lt 12, 3, 79) := am_code_of (M := tn_m61) rfl (by decide +kernel) rfl (by decide +kernel)
theorem kc_61_70 : am_code tn_G 61 70 = some (.aload_n 0, 1, 0) := am_code_of (M := tn_m61) rfl (by decide +kernel) rfl rfl
theorem kc_61_71 : am_code tn_G 61 71 = some (.iload 4, 2, 0) := am_code_of (M := tn_m61) rfl (by decide +kernel) rfl rfl
theorem kc_61_73 : am_code tn_G 61 73 = some (.invokevirtual 68, 3, 0) := am_code_of (M := tn_m61) rfl (by decide +kernel) rfl rfl
theorem kc_61_76 : am_code tn_G 61 76 = some (.ifCond .eq 7, 3, 83) := am_code_of (M := tn_m61) rfl (by decide +kernel) rfl (by decide +kernel)
theorem kc_61_79 : am_code tn_G 61 79 = some (.iconst 1, 1, 0) := am_code_of (M := tn_m61) rfl (by decide +kernel) rfl rfl
theorem kc_61_80 : am_code tn_G 61 80 = some (.goto 4, 3, 84) := am_code_of (M := tn_m61) rfl (by decide +kernel) rfl (by decide +kernel)
theorem kc_61_83 : am_code tn_G 61 83 = some (.iconst 0, 1, 0) := am_code_of (M := tn_m61) rfl (by decide +kernel) rfl rfl
theorem kc_61_84 : am_code tn_G 61 84 = some (.istore 5, 2, 0) := am_code_of (M := tn_m61) rfl (by decide +kernel) rfl rfl
theorem kc_61_86 : am_code tn_G 61 86 = some (.aload_n 0, 1, 0) := am_code_of (M := tn_m61) rfl (by decide +kernel) rfl rfl
theorem kc_61_87 : am_code tn_G 61 87 = some (.iload 5, 2, 0) := am_code_of (M := tn_m61) rfl (by decide +kernel) rfl rfl
theorem kc_61_89 : am_code tn_G 61 89 = some (.ifCond .ne 7, 3, 96) := am_code_of (M := tn_m61) rfl (by decide +kernel) rfl (by decide +kernel)
theorem kc_61_92 : am_code tn_G 61 92 = some (.iconst 1, 1, 0) := am_code_of (M := tn_m61) rfl (by decide +kernel) rfl rfl
theorem kc_61_93 : am_code tn_G 61 93 = some (.goto 18, 3, 111) := am_code_of (M := tn_m61) rfl (by decide +kernel) rfl (by decide +kernel)
theorem kc_61_96 : am_code tn_G 61 96 = some (.aload_n 0, 1, 0) := am_code_of (M := tn_m61) rfl (by decide +kernel) rfl rfl
theorem kc_61_97 : am_code tn_G 61 97 = some (.getfield 54, 3, 0) := am_code_of (M := tn_m61) rfl (by decide +kernel) rfl rfl
theorem kf_61_54 : am_fld tn_G 61 54 = some (5, 4) := by decide +kernel
theorem kc_61_100 : am_code tn_G 61 100 = some (.sipush 400, 3, 0) := am_code_of (M := tn_m61) rfl (by decide +kernel) rfl rfl
theorem kc_61_103 : am_code tn_G 61 103 = some (.if_icmp .ne 7, 3, 110) := am_code_of (M := tn_m61) rfl (by decide +kernel) rfl (by decide +kernel)
theorem kc_61_106 : am_code tn_G 61 106 = some (.iconst 2, 1, 0) := am_code_of (M := tn_m61) rfl (by decide +kernel) rfl rfl
theorem kc_61_107 : am_code tn_G 61 107 = some (.goto 4, 3, 111) := am_code_of (M := tn_m61) rfl (by decide +kernel) rfl (by decide +kernel)
theorem kc_61_110 : am_code tn_G 61 110 = some (.iconst 0, 1, 0) := am_code_of (M := tn_m61) rfl (by decide +kernel) rfl rfl
theorem kc_61_111 : am_code tn_G 61 111 = some (.putfield 50, 3, 0) := am_code_of (M := tn_m61) rfl (by decide +kernel) rfl rfl
theorem kf_61_50 : am_fld tn_G 61 50 = some (5, 7) := by decide +kernel
theorem kc_61_114 : am_code tn_G 61 114 = some (.aload_n 0, 1, 0) := am_code_of (M := tn_m61) rfl (by decide +kernel) rfl rfl
theorem kc_61_115 : am_code tn_G 61 115 = some (.getfield 50, 3, 0) := am_code_of (M := tn_m61) rfl (by decide +kernel) rfl rfl
theorem kc_61_118 : am_code tn_G 61 118 = some (.ifCond .le 7, 3, 125) := am_code_of (M := tn_m61) rfl (by decide +kernel) rfl (by decide +kernel)
theorem kc_61_121 : am_code tn_G 61 121 = some (.iconst 0, 1, 0) := am_code_of (M := tn_m61) rfl (by decide +kernel) rfl rfl
theorem kc_61_122 : am_code tn_G 61 122 = some (.goto 12, 3, 134) := am_code_of (M := tn_m61) rfl (by decide +kernel) rfl (by decide +kernel)
theorem kc_61_125 : am_code tn_G 61 125 = some (.aload_n 0, 1, 0) := am_code_of (M := tn_m61) rfl (by decide +kernel) rfl rfl
theorem kc_61_126 : am_code tn_G 61 126 = some (.iload_n 1, 1, 0) := am_code_of (M := tn_m61) rfl (by decide +kernel) rfl rfl
theorem kc_61_127 : am_code tn_G 61 127 = some (.iload_n 2, 1, 0) := am_code_of (M := tn_m61) rfl (by decide +kernel) rfl rfl
theorem kc_61_128 : am_code tn_G 61 128 = some (.iload_n 3, 1, 0) := am_code_of (M := tn_m61) rfl (by decide +kernel) rfl rfl
theorem kc_61_129 : am_code tn_G 61 129 = some (.iload 4, 2, 0) := am_code_of (M := tn_m61) rfl (by decide +kernel) rfl rfl
theorem kc_61_131 : am_code tn_G 61 131 = some (.invokevirtual 64, 3, 0) := am_code_of (M := tn_m61) rfl (by decide +kernel) rfl rfl
theorem ka_61_64 : am_cal tn_G 61 64 = some (0, 58, 4) := by decide +kernel
theorem kc_61_134 : am_code tn_G 61 134 = some (.ireturn, 1, 0) := am_code_of (M := tn_m61) rfl (by decide +kernel) rfl rfl
-- 62: TermNetModel.isTerm(I)Z
theorem kl_62 : am_ml tn_G 62 = 2 := rfl
theorem ko_62 : am_oc tn_G 62 = 5 := rfl
theorem kn_62 : am_nc tn_G 62 = 0 := rfl
theorem kr_62 : am_rt tn_G 62 = 2 := rfl
theorem kc_62_0 : am_code tn_G 62 0 = some (.iload_n 1, 1, 0) := am_code_of (M := tn_m62) rfl (by decide +kernel) rfl rfl
theorem kc_62_1 : am_code tn_G 62 1 = some (.ifCond .lt 15, 3, 16) := am_code_of (M := tn_m62) rfl (by decide +kernel) rfl (by decide +kernel)
theorem kc_62_4 : am_code tn_G 62 4 = some (.iload_n 1, 1, 0) := am_code_of (M := tn_m62) rfl (by decide +kernel) rfl rfl
theorem kc_62_5 : am_code tn_G 62 5 = some (.aload_n 0, 1, 0) := am_code_of (M := tn_m62) rfl (by decide +kernel) rfl rfl
theorem kc_62_6 : am_code tn_G 62 6 = some (.getfield 54, 3, 0) := am_code_of (M := tn_m62) rfl (by decide +kernel) rfl rfl
theorem kf_62_54 : am_fld tn_G 62 54 = some (5, 4) := by decide +kernel
theorem kc_62_9 : am_code tn_G 62 9 = some (.if_icmp .ge 7, 3, 16) := am_code_of (M := tn_m62) rfl (by decide +kernel) rfl (by decide +kernel)
theorem kc_62_12 : am_code tn_G 62 12 = some (.iconst 1, 1, 0) := am_code_of (M := tn_m62) rfl (by decide +kernel) rfl rfl
theorem kc_62_13 : am_code tn_G 62 13 = some (.goto 4, 3, 17) := am_code_of (M := tn_m62) rfl (by decide +kernel) rfl (by decide +kernel)
theorem kc_62_16 : am_code tn_G 62 16 = some (.iconst 0, 1, 0) := am_code_of (M := tn_m62) rfl (by decide +kernel) rfl rfl
theorem kc_62_17 : am_code tn_G 62 17 = some (.ireturn, 1, 0) := am_code_of (M := tn_m62) rfl (by decide +kernel) rfl rfl
-- 63: TermNetModel.equal(II)Z
theorem kl_63 : am_ml tn_G 63 = 4 := rfl
theorem ko_63 : am_oc tn_G 63 = 5 := rfl
theorem kn_63 : am_nc tn_G 63 = 0 := rfl
theorem kr_63 : am_rt tn_G 63 = 2 := rfl
theorem kc_63_0 : am_code tn_G 63 0 = some (.aload_n 0, 1, 0) := am_code_of (M := tn_m63) rfl (by decide +kernel) rfl rfl
theorem kc_63_1 : am_code tn_G 63 1 = some (.aload_n 0, 1, 0) := am_code_of (M := tn_m63) rfl (by decide +kernel) rfl rfl
theorem kc_63_2 : am_code tn_G 63 2 = some (.iload_n 1, 1, 0) := am_code_of (M := tn_m63) rfl (by decide +kernel) rfl rfl
theorem kc_63_3 : am_code tn_G 63 3 = some (.invokevirtual 68, 3, 0) := am_code_of (M := tn_m63) rfl (by decide +kernel) rfl rfl
theorem ka_63_68 : am_cal tn_G 63 68 = some (0, 62, 1) := by decide +kernel
theorem kc_63_6 : am_code tn_G 63 6 = some (.ifCond .eq 15, 3, 21) := am_code_of (M := tn_m63) rfl (by decide +kernel) rfl (by decide +kernel)
theorem kc_63_9 : am_code tn_G 63 9 = some (.aload_n 0, 1, 0) := am_code_of (M := tn_m63) rfl (by decide +kernel) rfl rfl
theorem kc_63_10 : am_code tn_G 63 10 = some (.iload_n 2, 1, 0) := am_code_of (M := tn_m63) rfl (by decide +kernel) rfl rfl
theorem kc_63_11 : am_code tn_G 63 11 = some (.invokevirtual 68, 3, 0) := am_code_of (M := tn_m63) rfl (by decide +kernel) rfl rfl
theorem kc_63_14 : am_code tn_G 63 14 = some (.ifCond .eq 7, 3, 21) := am_code_of (M := tn_m63) rfl (by decide +kernel) rfl (by decide +kernel)
theorem kc_63_17 : am_code tn_G 63 17 = some (.iconst 0, 1, 0) := am_code_of (M := tn_m63) rfl (by decide +kernel) rfl rfl
theorem kc_63_18 : am_code tn_G 63 18 = some (.goto 4, 3, 22) := am_code_of (M := tn_m63) rfl (by decide +kernel) rfl (by decide +kernel)
theorem kc_63_21 : am_code tn_G 63 21 = some (.iconst 1, 1, 0) := am_code_of (M := tn_m63) rfl (by decide +kernel) rfl rfl
theorem kc_63_22 : am_code tn_G 63 22 = some (.putfield 50, 3, 0) := am_code_of (M := tn_m63) rfl (by decide +kernel) rfl rfl
theorem kf_63_50 : am_fld tn_G 63 50 = some (5, 7) := by decide +kernel
theorem kc_63_25 : am_code tn_G 63 25 = some (.aload_n 0, 1, 0) := am_code_of (M := tn_m63) rfl (by decide +kernel) rfl rfl
theorem kc_63_26 : am_code tn_G 63 26 = some (.getfield 50, 3, 0) := am_code_of (M := tn_m63) rfl (by decide +kernel) rfl rfl
theorem kc_63_29 : am_code tn_G 63 29 = some (.ifCond .le 5, 3, 34) := am_code_of (M := tn_m63) rfl (by decide +kernel) rfl (by decide +kernel)
theorem kc_63_32 : am_code tn_G 63 32 = some (.iconst 0, 1, 0) := am_code_of (M := tn_m63) rfl (by decide +kernel) rfl rfl
theorem kc_63_33 : am_code tn_G 63 33 = some (.ireturn, 1, 0) := am_code_of (M := tn_m63) rfl (by decide +kernel) rfl rfl
theorem kc_63_34 : am_code tn_G 63 34 = some (.iconst 0, 1, 0) := am_code_of (M := tn_m63) rfl (by decide +kernel) rfl rfl
theorem kc_63_35 : am_code tn_G 63 35 = some (.istore_n 3, 1, 0) := am_code_of (M := tn_m63) rfl (by decide +kernel) rfl rfl
theorem kc_63_36 : am_code tn_G 63 36 = some (.iload_n 3, 1, 0) := am_code_of (M := tn_m63) rfl (by decide +kernel) rfl rfl
theorem kc_63_37 : am_code tn_G 63 37 = some (.aload_n 0, 1, 0) := am_code_of (M := tn_m63) rfl (by decide +kernel) rfl rfl
theorem kc_63_38 : am_code tn_G 63 38 = some (.getfield 54, 3, 0) := am_code_of (M := tn_m63) rfl (by decide +kernel) rfl rfl
theorem kf_63_54 : am_fld tn_G 63 54 = some (5, 4) := by decide +kernel
theorem kc_63_41 : am_code tn_G 63 41 = some (.if_icmp .ge 21, 3, 62) := am_code_of (M := tn_m63) rfl (by decide +kernel) rfl (by decide +kernel)
theorem kc_63_44 : am_code tn_G 63 44 = some (.aload_n 0, 1, 0) := am_code_of (M := tn_m63) rfl (by decide +kernel) rfl rfl
theorem kc_63_45 : am_code tn_G 63 45 = some (.getfield 22, 3, 0) := am_code_of (M := tn_m63) rfl (by decide +kernel) rfl rfl
theorem kf_63_22 : am_fld tn_G 63 22 = some (5, 9) := by decide +kernel
theorem kc_63_48 : am_code tn_G 63 48 = some (.iload_n 3, 1, 0) := am_code_of (M := tn_m63) rfl (by decide +kernel) rfl rfl
theorem kc_63_49 : am_code tn_G 63 49 = some (.aload_n 0, 1, 0) := am_code_of (M := tn_m63) rfl (by decide +kernel) rfl rfl
theorem kc_63_50 : am_code tn_G 63 50 = some (.getfield 19, 3, 0) := am_code_of (M := tn_m63) rfl (by decide +kernel) rfl rfl
theorem kf_63_19 : am_fld tn_G 63 19 = some (5, 8) := by decide +kernel
theorem kc_63_53 : am_code tn_G 63 53 = some (.iload_n 3, 1, 0) := am_code_of (M := tn_m63) rfl (by decide +kernel) rfl rfl
theorem kc_63_54 : am_code tn_G 63 54 = some (.iaload, 1, 0) := am_code_of (M := tn_m63) rfl (by decide +kernel) rfl rfl
theorem kc_63_55 : am_code tn_G 63 55 = some (.iastore, 1, 0) := am_code_of (M := tn_m63) rfl (by decide +kernel) rfl rfl
theorem kc_63_56 : am_code tn_G 63 56 = some (.iinc 3 1, 3, 0) := am_code_of (M := tn_m63) rfl (by decide +kernel) rfl rfl
theorem kc_63_59 : am_code tn_G 63 59 = some (.goto (-23), 3, 36) := am_code_of (M := tn_m63) rfl (by decide +kernel) rfl (by decide +kernel)
theorem kc_63_62 : am_code tn_G 63 62 = some (.aload_n 0, 1, 0) := am_code_of (M := tn_m63) rfl (by decide +kernel) rfl rfl
theorem kc_63_63 : am_code tn_G 63 63 = some (.aload_n 0, 1, 0) := am_code_of (M := tn_m63) rfl (by decide +kernel) rfl rfl
theorem kc_63_64 : am_code tn_G 63 64 = some (.getfield 22, 3, 0) := am_code_of (M := tn_m63) rfl (by decide +kernel) rfl rfl
theorem kc_63_67 : am_code tn_G 63 67 = some (.iload_n 1, 1, 0) := am_code_of (M := tn_m63) rfl (by decide +kernel) rfl rfl
theorem kc_63_68 : am_code tn_G 63 68 = some (.iload_n 2, 1, 0) := am_code_of (M := tn_m63) rfl (by decide +kernel) rfl rfl
theorem kc_63_69 : am_code tn_G 63 69 = some (.invokevirtual 72, 3, 0) := am_code_of (M := tn_m63) rfl (by decide +kernel) rfl rfl
theorem ka_63_72 : am_cal tn_G 63 72 = some (0, 60, 3) := by decide +kernel
theorem kc_63_72 : am_code tn_G 63 72 = some (.aload_n 0, 1, 0) := am_code_of (M := tn_m63) rfl (by decide +kernel) rfl rfl
theorem kc_63_73 : am_code tn_G 63 73 = some (.aload_n 0, 1, 0) := am_code_of (M := tn_m63) rfl (by decide +kernel) rfl rfl
theorem kc_63_74 : am_code tn_G 63 74 = some (.getfield 22, 3, 0) := am_code_of (M := tn_m63) rfl (by decide +kernel) rfl rfl
theorem kc_63_77 : am_code tn_G 63 77 = some (.invokevirtual 60, 3, 0) := am_code_of (M := tn_m63) rfl (by decide +kernel) rfl rfl
theorem ka_63_60 : am_cal tn_G 63 60 = some (0, 59, 1) := by decide +kernel
theorem kc_63_80 : am_code tn_G 63 80 = some (.ifCond .eq 14, 3, 94) := am_code_of (M := tn_m63) rfl (by decide +kernel) rfl (by decide +kernel)
theorem kc_63_83 : am_code tn_G 63 83 = some (.aload_n 0, 1, 0) := am_code_of (M := tn_m63) rfl (by decide +kernel) rfl rfl
theorem kc_63_84 : am_code tn_G 63 84 = some (.aload_n 0, 1, 0) := am_code_of (M := tn_m63) rfl (by decide +kernel) rfl rfl
theorem kc_63_85 : am_code tn_G 63 85 = some (.getfield 22, 3, 0) := am_code_of (M := tn_m63) rfl (by decide +kernel) rfl rfl
theorem kc_63_88 : am_code tn_G 63 88 = some (.invokevirtual 77, 3, 0) := am_code_of (M := tn_m63) rfl (by decide +kernel) rfl rfl
theorem ka_63_77 : am_cal tn_G 63 77 = some (0, 64, 1) := by decide +kernel
theorem kc_63_91 : am_code tn_G 63 91 = some (.ifCond .ne 5, 3, 96) := am_code_of (M := tn_m63) rfl (by decide +kernel) rfl (by decide +kernel)
theorem kc_63_94 : am_code tn_G 63 94 = some (.iconst 0, 1, 0) := am_code_of (M := tn_m63) rfl (by decide +kernel) rfl rfl
theorem kc_63_95 : am_code tn_G 63 95 = some (.ireturn, 1, 0) := am_code_of (M := tn_m63) rfl (by decide +kernel) rfl rfl
theorem kc_63_96 : am_code tn_G 63 96 = some (.iconst 0, 1, 0) := am_code_of (M := tn_m63) rfl (by decide +kernel) rfl rfl
theorem kc_63_97 : am_code tn_G 63 97 = some (.istore_n 3, 1, 0) := am_code_of (M := tn_m63) rfl (by decide +kernel) rfl rfl
theorem kc_63_98 : am_code tn_G 63 98 = some (.iload_n 3, 1, 0) := am_code_of (M := tn_m63) rfl (by decide +kernel) rfl rfl
theorem kc_63_99 : am_code tn_G 63 99 = some (.aload_n 0, 1, 0) := am_code_of (M := tn_m63) rfl (by decide +kernel) rfl rfl
theorem kc_63_100 : am_code tn_G 63 100 = some (.getfield 54, 3, 0) := am_code_of (M := tn_m63) rfl (by decide +kernel) rfl rfl
theorem kc_63_103 : am_code tn_G 63 103 = some (.if_icmp .ge 21, 3, 124) := am_code_of (M := tn_m63) rfl (by decide +kernel) rfl (by decide +kernel)
theorem kc_63_106 : am_code tn_G 63 106 = some (.aload_n 0, 1, 0) := am_code_of (M := tn_m63) rfl (by decide +kernel) rfl rfl
theorem kc_63_107 : am_code tn_G 63 107 = some (.getfield 19, 3, 0) := am_code_of (M := tn_m63) rfl (by decide +kernel) rfl rfl
theorem kc_63_110 : am_code tn_G 63 110 = some (.iload_n 3, 1, 0) := am_code_of (M := tn_m63) rfl (by decide +kernel) rfl rfl
theorem kc_63_111 : am_code tn_G 63 111 = some (.aload_n 0, 1, 0) := am_code_of (M := tn_m63) rfl (by decide +kernel) rfl rfl
theorem kc_63_112 : am_code tn_G 63 112 = some (.getfield 22, 3, 0) := am_code_of (M := tn_m63) rfl (by decide +kernel) rfl rfl
theorem kc_63_115 : am_code tn_G 63 115 = some (.iload_n 3, 1, 0) := am_code_of (M := tn_m63) rfl (by decide +kernel) rfl rfl
theorem kc_63_116 : am_code tn_G 63 116 = some (.iaload, 1, 0) := am_code_of (M := tn_m63) rfl (by decide +kernel) rfl rfl
theorem kc_63_117 : am_code tn_G 63 117 = some (.iastore, 1, 0) := am_code_of (M := tn_m63) rfl (by decide +kernel) rfl rfl
theorem kc_63_118 : am_code tn_G 63 118 = some (.iinc 3 1, 3, 0) := am_code_of (M := tn_m63) rfl (by decide +kernel) rfl rfl
theorem kc_63_121 : am_code tn_G 63 121 = some (.goto (-23), 3, 98) := am_code_of (M := tn_m63) rfl (by decide +kernel) rfl (by decide +kernel)
theorem kc_63_124 : am_code tn_G 63 124 = some (.aload_n 0, 1, 0) := am_code_of (M := tn_m63) rfl (by decide +kernel) rfl rfl
theorem kc_63_125 : am_code tn_G 63 125 = some (.dup, 1, 0) := am_code_of (M := tn_m63) rfl (by decide +kernel) rfl rfl
theorem kc_63_126 : am_code tn_G 63 126 = some (.getfield 80, 3, 0) := am_code_of (M := tn_m63) rfl (by decide +kernel) rfl rfl
theorem kf_63_80 : am_fld tn_G 63 80 = some (5, 6) := by decide +kernel
theorem kc_63_129 : am_code tn_G 63 129 = some (.iconst 1, 1, 0) := am_code_of (M := tn_m63) rfl (by decide +kernel) rfl rfl
theorem kc_63_130 : am_code tn_G 63 130 = some (.iadd, 1, 0) := am_code_of (M := tn_m63) rfl (by decide +kernel) rfl rfl
theorem kc_63_131 : am_code tn_G 63 131 = some (.putfield 80, 3, 0) := am_code_of (M := tn_m63) rfl (by decide +kernel) rfl rfl
theorem kc_63_134 : am_code tn_G 63 134 = some (.iconst 1, 1, 0) := am_code_of (M := tn_m63) rfl (by decide +kernel) rfl rfl
theorem kc_63_135 : am_code tn_G 63 135 = some (.ireturn, 1, 0) := am_code_of (M := tn_m63) rfl (by decide +kernel) rfl rfl
-- 64: TermNetModel.look([I)Z
theorem kl_64 : am_ml tn_G 64 = 12 := rfl
theorem ko_64 : am_oc tn_G 64 = 5 := rfl
theorem kn_64 : am_nc tn_G 64 = 0 := rfl
theorem kr_64 : am_rt tn_G 64 = 2 := rfl
theorem kc_64_0 : am_code tn_G 64 0 = some (.iconst 0, 1, 0) := am_code_of (M := tn_m64) rfl (by decide +kernel) rfl rfl
theorem kc_64_1 : am_code tn_G 64 1 = some (.istore_n 2, 1, 0) := am_code_of (M := tn_m64) rfl (by decide +kernel) rfl rfl
theorem kc_64_2 : am_code tn_G 64 2 = some (.iload_n 2, 1, 0) := am_code_of (M := tn_m64) rfl (by decide +kernel) rfl rfl
theorem kc_64_3 : am_code tn_G 64 3 = some (.aload_n 0, 1, 0) := am_code_of (M := tn_m64) rfl (by decide +kernel) rfl rfl
theorem kc_64_4 : am_code tn_G 64 4 = some (.getfield 54, 3, 0) := am_code_of (M := tn_m64) rfl (by decide +kernel) rfl rfl
theorem kf_64_54 : am_fld tn_G 64 54 = some (5, 4) := by decide +kernel
theorem kc_64_7 : am_code tn_G 64 7 = some (.if_icmp .ge 23, 3, 30) := am_code_of (M := tn_m64) rfl (by decide +kernel) rfl (by decide +kernel)
theorem kc_64_10 : am_code tn_G 64 10 = some (.aload_n 0, 1, 0) := am_code_of (M := tn_m64) rfl (by decide +kernel) rfl rfl
theorem kc_64_11 : am_code tn_G 64 11 = some (.getfield 34, 3, 0) := am_code_of (M := tn_m64) rfl (by decide +kernel) rfl rfl
theorem kf_64_34 : am_fld tn_G 64 34 = some (5, 13) := by decide +kernel
theorem kc_64_14 : am_code tn_G 64 14 = some (.iload_n 2, 1, 0) := am_code_of (M := tn_m64) rfl (by decide +kernel) rfl rfl
theorem kc_64_15 : am_code tn_G 64 15 = some (.iconst (-1), 1, 0) := am_code_of (M := tn_m64) rfl (by decide +kernel) rfl rfl
theorem kc_64_16 : am_code tn_G 64 16 = some (.iastore, 1, 0) := am_code_of (M := tn_m64) rfl (by decide +kernel) rfl rfl
theorem kc_64_17 : am_code tn_G 64 17 = some (.aload_n 0, 1, 0) := am_code_of (M := tn_m64) rfl (by decide +kernel) rfl rfl
theorem kc_64_18 : am_code tn_G 64 18 = some (.getfield 43, 3, 0) := am_code_of (M := tn_m64) rfl (by decide +kernel) rfl rfl
theorem kf_64_43 : am_fld tn_G 64 43 = some (5, 16) := by decide +kernel
theorem kc_64_21 : am_code tn_G 64 21 = some (.iload_n 2, 1, 0) := am_code_of (M := tn_m64) rfl (by decide +kernel) rfl rfl
theorem kc_64_22 : am_code tn_G 64 22 = some (.iconst 0, 1, 0) := am_code_of (M := tn_m64) rfl (by decide +kernel) rfl rfl
theorem kc_64_23 : am_code tn_G 64 23 = some (.bastore, 1, 0) := am_code_of (M := tn_m64) rfl (by decide +kernel) rfl rfl
theorem kc_64_24 : am_code tn_G 64 24 = some (.iinc 2 1, 3, 0) := am_code_of (M := tn_m64) rfl (by decide +kernel) rfl rfl
theorem kc_64_27 : am_code tn_G 64 27 = some (.goto (-25), 3, 2) := am_code_of (M := tn_m64) rfl (by decide +kernel) rfl (by decide +kernel)
theorem kc_64_30 : am_code tn_G 64 30 = some (.iconst 0, 1, 0) := am_code_of (M := tn_m64) rfl (by decide +kernel) rfl rfl
theorem kc_64_31 : am_code tn_G 64 31 = some (.istore_n 2, 1, 0) := am_code_of (M := tn_m64) rfl (by decide +kernel) rfl rfl
theorem kc_64_32 : am_code tn_G 64 32 = some (.iload_n 2, 1, 0) := am_code_of (M := tn_m64) rfl (by decide +kernel) rfl rfl
theorem kc_64_33 : am_code tn_G 64 33 = some (.aload_n 0, 1, 0) := am_code_of (M := tn_m64) rfl (by decide +kernel) rfl rfl
theorem kc_64_34 : am_code tn_G 64 34 = some (.getfield 54, 3, 0) := am_code_of (M := tn_m64) rfl (by decide +kernel) rfl rfl
theorem kc_64_37 : am_code tn_G 64 37 = some (.if_icmp .ge 27, 3, 64) := am_code_of (M := tn_m64) rfl (by decide +kernel) rfl (by decide +kernel)
theorem kc_64_40 : am_code tn_G 64 40 = some (.aload_n 0, 1, 0) := am_code_of (M := tn_m64) rfl (by decide +kernel) rfl rfl
theorem kc_64_41 : am_code tn_G 64 41 = some (.getfield 13, 3, 0) := am_code_of (M := tn_m64) rfl (by decide +kernel) rfl rfl
theorem kf_64_13 : am_fld tn_G 64 13 = some (5, 1) := by decide +kernel
theorem kc_64_44 : am_code tn_G 64 44 = some (.iload_n 2, 1, 0) := am_code_of (M := tn_m64) rfl (by decide +kernel) rfl rfl
theorem kc_64_45 : am_code tn_G 64 45 = some (.iaload, 1, 0) := am_code_of (M := tn_m64) rfl (by decide +kernel) rfl rfl
theorem kc_64_46 : am_code tn_G 64 46 = some (.ifCond .lt 12, 3, 58) := am_code_of (M := tn_m64) rfl (by decide +kernel) rfl (by decide +kernel)
theorem kc_64_49 : am_code tn_G 64 49 = some (.aload_n 0, 1, 0) := am_code_of (M := tn_m64) rfl (by decide +kernel) rfl rfl
theorem kc_64_50 : am_code tn_G 64 50 = some (.getfield 34, 3, 0) := am_code_of (M := tn_m64) rfl (by decide +kernel) rfl rfl
theorem kc_64_53 : am_code tn_G 64 53 = some (.aload_n 1, 1, 0) := am_code_of (M := tn_m64) rfl (by decide +kernel) rfl rfl
theorem kc_64_54 : am_code tn_G 64 54 = some (.iload_n 2, 1, 0) := am_code_of (M := tn_m64) rfl (by decide +kernel) rfl rfl
theorem kc_64_55 : am_code tn_G 64 55 = some (.iaload, 1, 0) := am_code_of (M := tn_m64) rfl (by decide +kernel) rfl rfl
theorem kc_64_56 : am_code tn_G 64 56 = some (.iload_n 2, 1, 0) := am_code_of (M := tn_m64) rfl (by decide +kernel) rfl rfl
theorem kc_64_57 : am_code tn_G 64 57 = some (.iastore, 1, 0) := am_code_of (M := tn_m64) rfl (by decide +kernel) rfl rfl
theorem kc_64_58 : am_code tn_G 64 58 = some (.iinc 2 1, 3, 0) := am_code_of (M := tn_m64) rfl (by decide +kernel) rfl rfl
theorem kc_64_61 : am_code tn_G 64 61 = some (.goto (-29), 3, 32) := am_code_of (M := tn_m64) rfl (by decide +kernel) rfl (by decide +kernel)
theorem kc_64_64 : am_code tn_G 64 64 = some (.iconst 1, 1, 0) := am_code_of (M := tn_m64) rfl (by decide +kernel) rfl rfl
theorem kc_64_65 : am_code tn_G 64 65 = some (.istore_n 2, 1, 0) := am_code_of (M := tn_m64) rfl (by decide +kernel) rfl rfl
theorem kc_64_66 : am_code tn_G 64 66 = some (.iconst 0, 1, 0) := am_code_of (M := tn_m64) rfl (by decide +kernel) rfl rfl
theorem kc_64_67 : am_code tn_G 64 67 = some (.istore_n 3, 1, 0) := am_code_of (M := tn_m64) rfl (by decide +kernel) rfl rfl
theorem kc_64_68 : am_code tn_G 64 68 = some (.iload_n 2, 1, 0) := am_code_of (M := tn_m64) rfl (by decide +kernel) rfl rfl
theorem kc_64_69 : am_code tn_G 64 69 = some (.ifCond .eq 233, 3, 302) := am_code_of (M := tn_m64) rfl (by decide +kernel) rfl (by decide +kernel)
theorem kc_64_72 : am_code tn_G 64 72 = some (.iconst 0, 1, 0) := am_code_of (M := tn_m64) rfl (by decide +kernel) rfl rfl
theorem kc_64_73 : am_code tn_G 64 73 = some (.istore_n 2, 1, 0) := am_code_of (M := tn_m64) rfl (by decide +kernel) rfl rfl
theorem kc_64_74 : am_code tn_G 64 74 = some (.iconst 0, 1, 0) := am_code_of (M := tn_m64) rfl (by decide +kernel) rfl rfl
theorem kc_64_75 : am_code tn_G 64 75 = some (.istore_n 3, 1, 0) := am_code_of (M := tn_m64) rfl (by decide +kernel) rfl rfl
theorem kc_64_76 : am_code tn_G 64 76 = some (.iconst 0, 1, 0) := am_code_of (M := tn_m64) rfl (by decide +kernel) rfl rfl
theorem kc_64_77 : am_code tn_G 64 77 = some (.istore 4, 2, 0) := am_code_of (M := tn_m64) rfl (by decide +kernel) rfl rfl
theorem kc_64_79 : am_code tn_G 64 79 = some (.iload 4, 2, 0) := am_code_of (M := tn_m64) rfl (by decide +kernel) rfl rfl
theorem kc_64_81 : am_code tn_G 64 81 = some (.aload_n 0, 1, 0) := am_code_of (M := tn_m64) rfl (by decide +kernel) rfl rfl
theorem kc_64_82 : am_code tn_G 64 82 = some (.getfield 54, 3, 0) := am_code_of (M := tn_m64) rfl (by decide +kernel) rfl rfl
theorem kc_64_85 : am_code tn_G 64 85 = some (.if_icmp .ge 214, 3, 299) := am_code_of (M := tn_m64) rfl (by decide +kernel) rfl (by decide +kernel)
theorem kc_64_88 : am_code tn_G 64 88 = some (.aload_n 1, 1, 0) := am_code_of (M := tn_m64) rfl (by decide +kernel) rfl rfl
theorem kc_64_89 : am_code tn_G 64 89 = some (.iload 4, 2, 0) := am_code_of (M := tn_m64) rfl (by decide +kernel) rfl rfl
theorem kc_64_91 : am_code tn_G 64 91 = some (.iaload, 1, 0) := am_code_of (M := tn_m64) rfl (by decide +kernel) rfl rfl
theorem kc_64_92 : am_code tn_G 64 92 = some (.iload 4, 2, 0) := am_code_of (M := tn_m64) rfl (by decide +kernel) rfl rfl
theorem kc_64_94 : am_code tn_G 64 94 = some (.if_icmp .ne 199, 3, 293) := am_code_of (M := tn_m64) rfl (by decide +kernel) rfl (by decide +kernel)
theorem kc_64_97 : am_code tn_G 64 97 = some (.aload_n 0, 1, 0) := am_code_of (M := tn_m64) rfl (by decide +kernel) rfl rfl
theorem kc_64_98 : am_code tn_G 64 98 = some (.getfield 43, 3, 0) := am_code_of (M := tn_m64) rfl (by decide +kernel) rfl rfl
theorem kc_64_101 : am_code tn_G 64 101 = some (.iload 4, 2, 0) := am_code_of (M := tn_m64) rfl (by decide +kernel) rfl rfl
theorem kc_64_103 : am_code tn_G 64 103 = some (.baload, 1, 0) := am_code_of (M := tn_m64) rfl (by decide +kernel) rfl rfl
theorem kc_64_104 : am_code tn_G 64 104 = some (.ifCond .eq 6, 3, 110) := am_code_of (M := tn_m64) rfl (by decide +kernel) rfl (by decide +kernel)
theorem kc_64_107 : am_code tn_G 64 107 = some (.goto 186, 3, 293) := am_code_of (M := tn_m64) rfl (by decide +kernel) rfl (by decide +kernel)
theorem kc_64_110 : am_code tn_G 64 110 = some (.aload_n 0, 1, 0) := am_code_of (M := tn_m64) rfl (by decide +kernel) rfl rfl
theorem kc_64_111 : am_code tn_G 64 111 = some (.getfield 34, 3, 0) := am_code_of (M := tn_m64) rfl (by decide +kernel) rfl rfl
theorem kc_64_114 : am_code tn_G 64 114 = some (.iload 4, 2, 0) := am_code_of (M := tn_m64) rfl (by decide +kernel) rfl rfl
theorem kc_64_116 : am_code tn_G 64 116 = some (.iaload, 1, 0) := am_code_of (M := tn_m64) rfl (by decide +kernel) rfl rfl
theorem kc_64_117 : am_code tn_G 64 117 = some (.istore 5, 2, 0) := am_code_of (M := tn_m64) rfl (by decide +kernel) rfl rfl
theorem kc_64_119 : am_code tn_G 64 119 = some (.iload 5, 2, 0) := am_code_of (M := tn_m64) rfl (by decide +kernel) rfl rfl
theorem kc_64_121 : am_code tn_G 64 121 = some (.ifCond .ge 7, 3, 128) := am_code_of (M := tn_m64) rfl (by decide +kernel) rfl (by decide +kernel)
theorem kc_64_124 : am_code tn_G 64 124 = some (.iconst 0, 1, 0) := am_code_of (M := tn_m64) rfl (by decide +kernel) rfl rfl
theorem kc_64_125 : am_code tn_G 64 125 = some (.goto 15, 3, 140) := am_code_of (M := tn_m64) rfl (by decide +kernel) rfl (by decide +kernel)
theorem kc_64_128 : am_code tn_G 64 128 = some (.aload_n 0, 1, 0) := am_code_of (M := tn_m64) rfl (by decide +kernel) rfl rfl
theorem kc_64_129 : am_code tn_G 64 129 = some (.getfield 9, 3, 0) := am_code_of (M := tn_m64) rfl (by decide +kernel) rfl rfl
theorem kf_64_9 : am_fld tn_G 64 9 = some (5, 0) := by decide +kernel
theorem kc_64_132 : am_code tn_G 64 132 = some (.aload_n 0, 1, 0) := am_code_of (M := tn_m64) rfl (by decide +kernel) rfl rfl
theorem kc_64_133 : am_code tn_G 64 133 = some (.getfield 13, 3, 0) := am_code_of (M := tn_m64) rfl (by decide +kernel) rfl rfl
theorem kc_64_136 : am_code tn_G 64 136 = some (.iload 5, 2, 0) := am_code_of (M := tn_m64) rfl (by decide +kernel) rfl rfl
theorem kc_64_138 : am_code tn_G 64 138 = some (.iaload, 1, 0) := am_code_of (M := tn_m64) rfl (by decide +kernel) rfl rfl
theorem kc_64_139 : am_code tn_G 64 139 = some (.iaload, 1, 0) := am_code_of (M := tn_m64) rfl (by decide +kernel) rfl rfl
theorem kc_64_140 : am_code tn_G 64 140 = some (.istore 6, 2, 0) := am_code_of (M := tn_m64) rfl (by decide +kernel) rfl rfl
theorem kc_64_142 : am_code tn_G 64 142 = some (.iconst 1, 1, 0) := am_code_of (M := tn_m64) rfl (by decide +kernel) rfl rfl
theorem kc_64_143 : am_code tn_G 64 143 = some (.istore 7, 2, 0) := am_code_of (M := tn_m64) rfl (by decide +kernel) rfl rfl
theorem kc_64_145 : am_code tn_G 64 145 = some (.iconst 0, 1, 0) := am_code_of (M := tn_m64) rfl (by decide +kernel) rfl rfl
theorem kc_64_146 : am_code tn_G 64 146 = some (.istore 8, 2, 0) := am_code_of (M := tn_m64) rfl (by decide +kernel) rfl rfl
theorem kc_64_148 : am_code tn_G 64 148 = some (.iconst 1, 1, 0) := am_code_of (M := tn_m64) rfl (by decide +kernel) rfl rfl
theorem kc_64_149 : am_code tn_G 64 149 = some (.istore 9, 2, 0) := am_code_of (M := tn_m64) rfl (by decide +kernel) rfl rfl
theorem kc_64_151 : am_code tn_G 64 151 = some (.iconst 0, 1, 0) := am_code_of (M := tn_m64) rfl (by decide +kernel) rfl rfl
theorem kc_64_152 : am_code tn_G 64 152 = some (.istore 10, 2, 0) := am_code_of (M := tn_m64) rfl (by decide +kernel) rfl rfl
theorem kc_64_154 : am_code tn_G 64 154 = some (.iload 10, 2, 0) := am_code_of (M := tn_m64) rfl (by decide +kernel) rfl rfl
theorem kc_64_156 : am_code tn_G 64 156 = some (.iload 6, 2, 0) := am_code_of (M := tn_m64) rfl (by decide +kernel) rfl rfl
theorem kc_64_158 : am_code tn_G 64 158 = some (.if_icmp .ge 94, 3, 252) := am_code_of (M := tn_m64) rfl (by decide +kernel) rfl (by decide +kernel)
theorem kc_64_161 : am_code tn_G 64 161 = some (.aload_n 1, 1, 0) := am_code_of (M := tn_m64) rfl (by decide +kernel) rfl rfl
theorem kc_64_162 : am_code tn_G 64 162 = some (.aload_n 0, 1, 0) := am_code_of (M := tn_m64) rfl (by decide +kernel) rfl rfl
theorem kc_64_163 : am_code tn_G 64 163 = some (.getfield 16, 3, 0) := am_code_of (M := tn_m64) rfl (by decide +kernel) rfl rfl
theorem kf_64_16 : am_fld tn_G 64 16 = some (5, 2) := by decide +kernel
theorem kc_64_166 : am_code tn_G 64 166 = some (.iconst 3, 1, 0) := am_code_of (M := tn_m64) rfl (by decide +kernel) rfl rfl
theorem kc_64_167 : am_code tn_G 64 167 = some (.iload 5, 2, 0) := am_code_of (M := tn_m64) rfl (by decide +kernel) rfl rfl
theorem kc_64_169 : am_code tn_G 64 169 = some (.imul, 1, 0) := am_code_of (M := tn_m64) rfl (by decide +kernel) rfl rfl
theorem kc_64_170 : am_code tn_G 64 170 = some (.iload 10, 2, 0) := am_code_of (M := tn_m64) rfl (by decide +kernel) rfl rfl
theorem kc_64_172 : am_code tn_G 64 172 = some (.iadd, 1, 0) := am_code_of (M := tn_m64) rfl (by decide +kernel) rfl rfl
theorem kc_64_173 : am_code tn_G 64 173 = some (.iaload, 1, 0) := am_code_of (M := tn_m64) rfl (by decide +kernel) rfl rfl
theorem kc_64_174 : am_code tn_G 64 174 = some (.iaload, 1, 0) := am_code_of (M := tn_m64) rfl (by decide +kernel) rfl rfl
theorem kc_64_175 : am_code tn_G 64 175 = some (.istore 11, 2, 0) := am_code_of (M := tn_m64) rfl (by decide +kernel) rfl rfl
theorem kc_64_177 : am_code tn_G 64 177 = some (.aload_n 0, 1, 0) := am_code_of (M := tn_m64) rfl (by decide +kernel) rfl rfl
theorem kc_64_178 : am_code tn_G 64 178 = some (.getfield 43, 3, 0) := am_code_of (M := tn_m64) rfl (by decide +kernel) rfl rfl
theorem kc_64_181 : am_code tn_G 64 181 = some (.iload 11, 2, 0) := am_code_of (M := tn_m64) rfl (by decide +kernel) rfl rfl
theorem kc_64_183 : am_code tn_G 64 183 = some (.baload, 1, 0) := am_code_of (M := tn_m64) rfl (by decide +kernel) rfl rfl
theorem kc_64_184 : am_code tn_G 64 184 = some (.ifCond .ne 9, 3, 193) := am_code_of (M := tn_m64) rfl (by decide +kernel) rfl (by decide +kernel)
theorem kc_64_187 : am_code tn_G 64 187 = some (.iconst 0, 1, 0) := am_code_of (M := tn_m64) rfl (by decide +kernel) rfl rfl
theorem kc_64_188 : am_code tn_G 64 188 = some (.istore 9, 2, 0) := am_code_of (M := tn_m64) rfl (by decide +kernel) rfl rfl
theorem kc_64_190 : am_code tn_G 64 190 = some (.goto 56, 3, 246) := am_code_of (M := tn_m64) rfl (by decide +kernel) rfl (by decide +kernel)
theorem kc_64_193 : am_code tn_G 64 193 = some (.iload 7, 2, 0) := am_code_of (M := tn_m64) rfl (by decide +kernel) rfl rfl
theorem kc_64_195 : am_code tn_G 64 195 = some (.aload_n 0, 1, 0) := am_code_of (M := tn_m64) rfl (by decide +kernel) rfl rfl
theorem kc_64_196 : am_code tn_G 64 196 = some (.getfield 37, 3, 0) := am_code_of (M := tn_m64) rfl (by decide +kernel) rfl rfl
theorem kf_64_37 : am_fld tn_G 64 37 = some (5, 14) := by decide +kernel
theorem kc_64_199 : am_code tn_G 64 199 = some (.iload 11, 2, 0) := am_code_of (M := tn_m64) rfl (by decide +kernel) rfl rfl
theorem kc_64_201 : am_code tn_G 64 201 = some (.iaload, 1, 0) := am_code_of (M := tn_m64) rfl (by decide +kernel) rfl rfl
theorem kc_64_202 : am_code tn_G 64 202 = some (.iadd, 1, 0) := am_code_of (M := tn_m64) rfl (by decide +kernel) rfl rfl
theorem kc_64_203 : am_code tn_G 64 203 = some (.ldc 76, 2, 0) := am_code_of (M := tn_m64) rfl (by decide +kernel) rfl rfl
theorem ki_64_76 : am_ki tn_G 64 76 = some 1000000000 := by decide +kernel
theorem kc_64_205 : am_code tn_G 64 205 = some (.if_icmp .le 8, 3, 213) := am_code_of (M := tn_m64) rfl (by decide +kernel) rfl (by decide +kernel)
theorem kc_64_208 : am_code tn_G 64 208 = some (.ldc 76, 2, 0) := am_code_of (M := tn_m64) rfl (by decide +kernel) rfl rfl
theorem kc_64_210 : am_code tn_G 64 210 = some (.goto 13, 3, 223) := am_code_of (M := tn_m64) rfl (by decide +kernel) rfl (by decide +kernel)
theorem kc_64_213 : am_code tn_G 64 213 = some (.iload 7, 2, 0) := am_code_of (M := tn_m64) rfl (by decide +kernel) rfl rfl
theorem kc_64_215 : am_code tn_G 64 215 = some (.aload_n 0, 1, 0) := am_code_of (M := tn_m64) rfl (by decide +kernel) rfl rfl
theorem kc_64_216 : am_code tn_G 64 216 = some (.getfield 37, 3, 0) := am_code_of (M := tn_m64) rfl (by decide +kernel) rfl rfl
theorem kc_64_219 : am_code tn_G 64 219 = some (.iload 11, 2, 0) := am_code_of (M := tn_m64) rfl (by decide +kernel) rfl rfl
theorem kc_64_221 : am_code tn_G 64 221 = some (.iaload, 1, 0) := am_code_of (M := tn_m64) rfl (by decide +kernel) rfl rfl
theorem kc_64_222 : am_code tn_G 64 222 = some (.iadd, 1, 0) := am_code_of (M := tn_m64) rfl (by decide +kernel) rfl rfl
theorem kc_64_223 : am_code tn_G 64 223 = some (.istore 7, 2, 0) := am_code_of (M := tn_m64) rfl (by decide +kernel) rfl rfl
theorem kc_64_225 : am_code tn_G 64 225 = some (.aload_n 0, 1, 0) := am_code_of (M := tn_m64) rfl (by decide +kernel) rfl rfl
theorem kc_64_226 : am_code tn_G 64 226 = some (.getfield 40, 3, 0) := am_code_of (M := tn_m64) rfl (by decide +kernel) rfl rfl
theorem kf_64_40 : am_fld tn_G 64 40 = some (5, 15) := by decide +kernel
theorem kc_64_229 : am_code tn_G 64 229 = some (.iload 11, 2, 0) := am_code_of (M := tn_m64) rfl (by decide +kernel) rfl rfl
theorem kc_64_231 : am_code tn_G 64 231 = some (.iaload, 1, 0) := am_code_of (M := tn_m64) rfl (by decide +kernel) rfl rfl
theorem kc_64_232 : am_code tn_G 64 232 = some (.iload 8, 2, 0) := am_code_of (M := tn_m64) rfl (by decide +kernel) rfl rfl
theorem kc_64_234 : am_code tn_G 64 234 = some (.if_icmp .le 12, 3, 246) := am_code_of (M := tn_m64) rfl (by decide +kernel) rfl (by decide +kernel)
theorem kc_64_237 : am_code tn_G 64 237 = some (.aload_n 0, 1, 0) := am_code_of (M := tn_m64) rfl (by decide +kernel) rfl rfl
theorem kc_64_238 : am_code tn_G 64 238 = some (.getfield 40, 3, 0) := am_code_of (M := tn_m64) rfl (by decide +kernel) rfl rfl
theorem kc_64_241 : am_code tn_G 64 241 = some (.iload 11, 2, 0) := am_code_of (M := tn_m64) rfl (by decide +kernel) rfl rfl
theorem kc_64_243 : am_code tn_G 64 243 = some (.iaload, 1, 0) := am_code_of (M := tn_m64) rfl (by decide +kernel) rfl rfl
theorem kc_64_244 : am_code tn_G 64 244 = some (.istore 8, 2, 0) := am_code_of (M := tn_m64) rfl (by decide +kernel) rfl rfl
theorem kc_64_246 : am_code tn_G 64 246 = some (.iinc 10 1, 3, 0) := am_code_of (M := tn_m64) rfl (by decide +kernel) rfl rfl
theorem kc_64_249 : am_code tn_G 64 249 = some (.goto (-95), 3, 154) := am_code_of (M := tn_m64) rfl (by decide +kernel) rfl (by decide +kernel)
theorem kc_64_252 : am_code tn_G 64 252 = some (.iload 9, 2, 0) := am_code_of (M := tn_m64) rfl (by decide +kernel) rfl rfl
theorem kc_64_254 : am_code tn_G 64 254 = some (.ifCond .ne 9, 3, 263) := am_code_of (M := tn_m64) rfl (by decide +kernel) rfl (by decide +kernel)
theorem kc_64_257 : am_code tn_G 64 257 = some (.iinc 3 1, 3, 0) := am_code_of (M := tn_m64) rfl (by decide +kernel) rfl rfl
theorem kc_64_260 : am_code tn_G 64 260 = some (.goto 33, 3, 293) := am_code_of (M := tn_m64) rfl (by decide +kernel) rfl (by decide +kernel)
theorem kc_64_263 : am_code tn_G 64 263 = some (.aload_n 0, 1, 0) := am_code_of (M := tn_m64) rfl (by decide +kernel) rfl rfl
theorem kc_64_264 : am_code tn_G 64 264 = some (.getfield 43, 3, 0) := am_code_of (M := tn_m64) rfl (by decide +kernel) rfl rfl
theorem kc_64_267 : am_code tn_G 64 267 = some (.iload 4, 2, 0) := am_code_of (M := tn_m64) rfl (by decide +kernel) rfl rfl
theorem kc_64_269 : am_code tn_G 64 269 = some (.iconst 1, 1, 0) := am_code_of (M := tn_m64) rfl (by decide +kernel) rfl rfl
theorem kc_64_270 : am_code tn_G 64 270 = some (.bastore, 1, 0) := am_code_of (M := tn_m64) rfl (by decide +kernel) rfl rfl
theorem kc_64_271 : am_code tn_G 64 271 = some (.aload_n 0, 1, 0) := am_code_of (M := tn_m64) rfl (by decide +kernel) rfl rfl
theorem kc_64_272 : am_code tn_G 64 272 = some (.getfield 37, 3, 0) := am_code_of (M := tn_m64) rfl (by decide +kernel) rfl rfl
theorem kc_64_275 : am_code tn_G 64 275 = some (.iload 4, 2, 0) := am_code_of (M := tn_m64) rfl (by decide +kernel) rfl rfl
theorem kc_64_277 : am_code tn_G 64 277 = some (.iload 7, 2, 0) := am_code_of (M := tn_m64) rfl (by decide +kernel) rfl rfl
theorem kc_64_279 : am_code tn_G 64 279 = some (.iastore, 1, 0) := am_code_of (M := tn_m64) rfl (by decide +kernel) rfl rfl
theorem kc_64_280 : am_code tn_G 64 280 = some (.aload_n 0, 1, 0) := am_code_of (M := tn_m64) rfl (by decide +kernel) rfl rfl
theorem kc_64_281 : am_code tn_G 64 281 = some (.getfield 40, 3, 0) := am_code_of (M := tn_m64) rfl (by decide +kernel) rfl rfl
theorem kc_64_284 : am_code tn_G 64 284 = some (.iload 4, 2, 0) := am_code_of (M := tn_m64) rfl (by decide +kernel) rfl rfl
theorem kc_64_286 : am_code tn_G 64 286 = some (.iload 8, 2, 0) := am_code_of (M := tn_m64) rfl (by decide +kernel) rfl rfl
theorem kc_64_288 : am_code tn_G 64 288 = some (.iconst 1, 1, 0) := am_code_of (M := tn_m64) rfl (by decide +kernel) rfl rfl
theorem kc_64_289 : am_code tn_G 64 289 = some (.iadd, 1, 0) := am_code_of (M := tn_m64) rfl (by decide +kernel) rfl rfl
theorem kc_64_290 : am_code tn_G 64 290 = some (.iastore, 1, 0) := am_code_of (M := tn_m64) rfl (by decide +kernel) rfl rfl
theorem kc_64_291 : am_code tn_G 64 291 = some (.iconst 1, 1, 0) := am_code_of (M := tn_m64) rfl (by decide +kernel) rfl rfl
theorem kc_64_292 : am_code tn_G 64 292 = some (.istore_n 2, 1, 0) := am_code_of (M := tn_m64) rfl (by decide +kernel) rfl rfl
theorem kc_64_293 : am_code tn_G 64 293 = some (.iinc 4 1, 3, 0) := am_code_of (M := tn_m64) rfl (by decide +kernel) rfl rfl
theorem kc_64_296 : am_code tn_G 64 296 = some (.goto (-217), 3, 79) := am_code_of (M := tn_m64) rfl (by decide +kernel) rfl (by decide +kernel)
theorem kc_64_299 : am_code tn_G 64 299 = some (.goto (-231), 3, 68) := am_code_of (M := tn_m64) rfl (by decide +kernel) rfl (by decide +kernel)
theorem kc_64_302 : am_code tn_G 64 302 = some (.iload_n 3, 1, 0) := am_code_of (M := tn_m64) rfl (by decide +kernel) rfl rfl
theorem kc_64_303 : am_code tn_G 64 303 = some (.ifCond .ne 7, 3, 310) := am_code_of (M := tn_m64) rfl (by decide +kernel) rfl (by decide +kernel)
theorem kc_64_306 : am_code tn_G 64 306 = some (.iconst 1, 1, 0) := am_code_of (M := tn_m64) rfl (by decide +kernel) rfl rfl
theorem kc_64_307 : am_code tn_G 64 307 = some (.goto 4, 3, 311) := am_code_of (M := tn_m64) rfl (by decide +kernel) rfl (by decide +kernel)
theorem kc_64_310 : am_code tn_G 64 310 = some (.iconst 0, 1, 0) := am_code_of (M := tn_m64) rfl (by decide +kernel) rfl rfl
theorem kc_64_311 : am_code tn_G 64 311 = some (.ireturn, 1, 0) := am_code_of (M := tn_m64) rfl (by decide +kernel) rfl rfl
-- 65: TermNetModel.same(II)Z
theorem kl_65 : am_ml tn_G 65 = 3 := rfl
theorem ko_65 : am_oc tn_G 65 = 5 := rfl
theorem kn_65 : am_nc tn_G 65 = 0 := rfl
theorem kr_65 : am_rt tn_G 65 = 2 := rfl
theorem kc_65_0 : am_code tn_G 65 0 = some (.aload_n 0, 1, 0) := am_code_of (M := tn_m65) rfl (by decide +kernel) rfl rfl
theorem kc_65_1 : am_code tn_G 65 1 = some (.aload_n 0, 1, 0) := am_code_of (M := tn_m65) rfl (by decide +kernel) rfl rfl
theorem kc_65_2 : am_code tn_G 65 2 = some (.iload_n 1, 1, 0) := am_code_of (M := tn_m65) rfl (by decide +kernel) rfl rfl
theorem kc_65_3 : am_code tn_G 65 3 = some (.invokevirtual 68, 3, 0) := am_code_of (M := tn_m65) rfl (by decide +kernel) rfl rfl
theorem ka_65_68 : am_cal tn_G 65 68 = some (0, 62, 1) := by decide +kernel
theorem kc_65_6 : am_code tn_G 65 6 = some (.ifCond .eq 15, 3, 21) := am_code_of (M := tn_m65) rfl (by decide +kernel) rfl (by decide +kernel)
theorem kc_65_9 : am_code tn_G 65 9 = some (.aload_n 0, 1, 0) := am_code_of (M := tn_m65) rfl (by decide +kernel) rfl rfl
theorem kc_65_10 : am_code tn_G 65 10 = some (.iload_n 2, 1, 0) := am_code_of (M := tn_m65) rfl (by decide +kernel) rfl rfl
theorem kc_65_11 : am_code tn_G 65 11 = some (.invokevirtual 68, 3, 0) := am_code_of (M := tn_m65) rfl (by decide +kernel) rfl rfl
theorem kc_65_14 : am_code tn_G 65 14 = some (.ifCond .eq 7, 3, 21) := am_code_of (M := tn_m65) rfl (by decide +kernel) rfl (by decide +kernel)
theorem kc_65_17 : am_code tn_G 65 17 = some (.iconst 0, 1, 0) := am_code_of (M := tn_m65) rfl (by decide +kernel) rfl rfl
theorem kc_65_18 : am_code tn_G 65 18 = some (.goto 4, 3, 22) := am_code_of (M := tn_m65) rfl (by decide +kernel) rfl (by decide +kernel)
theorem kc_65_21 : am_code tn_G 65 21 = some (.iconst 1, 1, 0) := am_code_of (M := tn_m65) rfl (by decide +kernel) rfl rfl
theorem kc_65_22 : am_code tn_G 65 22 = some (.putfield 50, 3, 0) := am_code_of (M := tn_m65) rfl (by decide +kernel) rfl rfl
theorem kf_65_50 : am_fld tn_G 65 50 = some (5, 7) := by decide +kernel
theorem kc_65_25 : am_code tn_G 65 25 = some (.aload_n 0, 1, 0) := am_code_of (M := tn_m65) rfl (by decide +kernel) rfl rfl
theorem kc_65_26 : am_code tn_G 65 26 = some (.getfield 50, 3, 0) := am_code_of (M := tn_m65) rfl (by decide +kernel) rfl rfl
theorem kc_65_29 : am_code tn_G 65 29 = some (.ifCond .ne 22, 3, 51) := am_code_of (M := tn_m65) rfl (by decide +kernel) rfl (by decide +kernel)
theorem kc_65_32 : am_code tn_G 65 32 = some (.aload_n 0, 1, 0) := am_code_of (M := tn_m65) rfl (by decide +kernel) rfl rfl
theorem kc_65_33 : am_code tn_G 65 33 = some (.getfield 19, 3, 0) := am_code_of (M := tn_m65) rfl (by decide +kernel) rfl rfl
theorem kf_65_19 : am_fld tn_G 65 19 = some (5, 8) := by decide +kernel
theorem kc_65_36 : am_code tn_G 65 36 = some (.iload_n 1, 1, 0) := am_code_of (M := tn_m65) rfl (by decide +kernel) rfl rfl
theorem kc_65_37 : am_code tn_G 65 37 = some (.iaload, 1, 0) := am_code_of (M := tn_m65) rfl (by decide +kernel) rfl rfl
theorem kc_65_38 : am_code tn_G 65 38 = some (.aload_n 0, 1, 0) := am_code_of (M := tn_m65) rfl (by decide +kernel) rfl rfl
theorem kc_65_39 : am_code tn_G 65 39 = some (.getfield 19, 3, 0) := am_code_of (M := tn_m65) rfl (by decide +kernel) rfl rfl
theorem kc_65_42 : am_code tn_G 65 42 = some (.iload_n 2, 1, 0) := am_code_of (M := tn_m65) rfl (by decide +kernel) rfl rfl
theorem kc_65_43 : am_code tn_G 65 43 = some (.iaload, 1, 0) := am_code_of (M := tn_m65) rfl (by decide +kernel) rfl rfl
theorem kc_65_44 : am_code tn_G 65 44 = some (.if_icmp .ne 7, 3, 51) := am_code_of (M := tn_m65) rfl (by decide +kernel) rfl (by decide +kernel)
theorem kc_65_47 : am_code tn_G 65 47 = some (.iconst 1, 1, 0) := am_code_of (M := tn_m65) rfl (by decide +kernel) rfl rfl
theorem kc_65_48 : am_code tn_G 65 48 = some (.goto 4, 3, 52) := am_code_of (M := tn_m65) rfl (by decide +kernel) rfl (by decide +kernel)
theorem kc_65_51 : am_code tn_G 65 51 = some (.iconst 0, 1, 0) := am_code_of (M := tn_m65) rfl (by decide +kernel) rfl rfl
theorem kc_65_52 : am_code tn_G 65 52 = some (.ireturn, 1, 0) := am_code_of (M := tn_m65) rfl (by decide +kernel) rfl rfl
-- 66: TermNetModel.top(I)I
theorem kl_66 : am_ml tn_G 66 = 4 := rfl
theorem ko_66 : am_oc tn_G 66 = 5 := rfl
theorem kn_66 : am_nc tn_G 66 = 0 := rfl
theorem kr_66 : am_rt tn_G 66 = 1 := rfl
theorem kc_66_0 : am_code tn_G 66 0 = some (.aload_n 0, 1, 0) := am_code_of (M := tn_m66) rfl (by decide +kernel) rfl rfl
theorem kc_66_1 : am_code tn_G 66 1 = some (.aload_n 0, 1, 0) := am_code_of (M := tn_m66) rfl (by decide +kernel) rfl rfl
theorem kc_66_2 : am_code tn_G 66 2 = some (.iload_n 1, 1, 0) := am_code_of (M := tn_m66) rfl (by decide +kernel) rfl rfl
theorem kc_66_3 : am_code tn_G 66 3 = some (.invokevirtual 68, 3, 0) := am_code_of (M := tn_m66) rfl (by decide +kernel) rfl rfl
theorem ka_66_68 : am_cal tn_G 66 68 = some (0, 62, 1) := by decide +kernel
theorem kc_66_6 : am_code tn_G 66 6 = some (.ifCond .eq 7, 3, 13) := am_code_of (M := tn_m66) rfl (by decide +kernel) rfl (by decide +kernel)
theorem kc_66_9 : am_code tn_G 66 9 = some (.iconst 0, 1, 0) := am_code_of (M := tn_m66) rfl (by decide +kernel) rfl rfl
theorem kc_66_10 : am_code tn_G 66 10 = some (.goto 4, 3, 14) := am_code_of (M := tn_m66) rfl (by decide +kernel) rfl (by decide +kernel)
theorem kc_66_13 : am_code tn_G 66 13 = some (.iconst 1, 1, 0) := am_code_of (M := tn_m66) rfl (by decide +kernel) rfl rfl
theorem kc_66_14 : am_code tn_G 66 14 = some (.putfield 50, 3, 0) := am_code_of (M := tn_m66) rfl (by decide +kernel) rfl rfl
theorem kf_66_50 : am_fld tn_G 66 50 = some (5, 7) := by decide +kernel
theorem kc_66_17 : am_code tn_G 66 17 = some (.aload_n 0, 1, 0) := am_code_of (M := tn_m66) rfl (by decide +kernel) rfl rfl
theorem kc_66_18 : am_code tn_G 66 18 = some (.getfield 50, 3, 0) := am_code_of (M := tn_m66) rfl (by decide +kernel) rfl rfl
theorem kc_66_21 : am_code tn_G 66 21 = some (.ifCond .le 5, 3, 26) := am_code_of (M := tn_m66) rfl (by decide +kernel) rfl (by decide +kernel)
theorem kc_66_24 : am_code tn_G 66 24 = some (.iconst 0, 1, 0) := am_code_of (M := tn_m66) rfl (by decide +kernel) rfl rfl
theorem kc_66_25 : am_code tn_G 66 25 = some (.ireturn, 1, 0) := am_code_of (M := tn_m66) rfl (by decide +kernel) rfl rfl
theorem kc_66_26 : am_code tn_G 66 26 = some (.aload_n 0, 1, 0) := am_code_of (M := tn_m66) rfl (by decide +kernel) rfl rfl
theorem kc_66_27 : am_code tn_G 66 27 = some (.aload_n 0, 1, 0) := am_code_of (M := tn_m66) rfl (by decide +kernel) rfl rfl
theorem kc_66_28 : am_code tn_G 66 28 = some (.getfield 19, 3, 0) := am_code_of (M := tn_m66) rfl (by decide +kernel) rfl rfl
theorem kf_66_19 : am_fld tn_G 66 19 = some (5, 8) := by decide +kernel
theorem kc_66_31 : am_code tn_G 66 31 = some (.invokevirtual 77, 3, 0) := am_code_of (M := tn_m66) rfl (by decide +kernel) rfl rfl
theorem ka_66_77 : am_cal tn_G 66 77 = some (0, 64, 1) := by decide +kernel
theorem kc_66_34 : am_code tn_G 66 34 = some (.istore_n 2, 1, 0) := am_code_of (M := tn_m66) rfl (by decide +kernel) rfl rfl
theorem kc_66_35 : am_code tn_G 66 35 = some (.aload_n 0, 1, 0) := am_code_of (M := tn_m66) rfl (by decide +kernel) rfl rfl
theorem kc_66_36 : am_code tn_G 66 36 = some (.getfield 34, 3, 0) := am_code_of (M := tn_m66) rfl (by decide +kernel) rfl rfl
theorem kf_66_34 : am_fld tn_G 66 34 = some (5, 13) := by decide +kernel
theorem kc_66_39 : am_code tn_G 66 39 = some (.aload_n 0, 1, 0) := am_code_of (M := tn_m66) rfl (by decide +kernel) rfl rfl
theorem kc_66_40 : am_code tn_G 66 40 = some (.getfield 19, 3, 0) := am_code_of (M := tn_m66) rfl (by decide +kernel) rfl rfl
theorem kc_66_43 : am_code tn_G 66 43 = some (.iload_n 1, 1, 0) := am_code_of (M := tn_m66) rfl (by decide +kernel) rfl rfl
theorem kc_66_44 : am_code tn_G 66 44 = some (.iaload, 1, 0) := am_code_of (M := tn_m66) rfl (by decide +kernel) rfl rfl
theorem kc_66_45 : am_code tn_G 66 45 = some (.iaload, 1, 0) := am_code_of (M := tn_m66) rfl (by decide +kernel) rfl rfl
theorem kc_66_46 : am_code tn_G 66 46 = some (.istore_n 3, 1, 0) := am_code_of (M := tn_m66) rfl (by decide +kernel) rfl rfl
theorem kc_66_47 : am_code tn_G 66 47 = some (.iload_n 3, 1, 0) := am_code_of (M := tn_m66) rfl (by decide +kernel) rfl rfl
theorem kc_66_48 : am_code tn_G 66 48 = some (.ifCond .ge 7, 3, 55) := am_code_of (M := tn_m66) rfl (by decide +kernel) rfl (by decide +kernel)
theorem kc_66_51 : am_code tn_G 66 51 = some (.iconst (-1), 1, 0) := am_code_of (M := tn_m66) rfl (by decide +kernel) rfl rfl
theorem kc_66_52 : am_code tn_G 66 52 = some (.goto 9, 3, 61) := am_code_of (M := tn_m66) rfl (by decide +kernel) rfl (by decide +kernel)
theorem kc_66_55 : am_code tn_G 66 55 = some (.aload_n 0, 1, 0) := am_code_of (M := tn_m66) rfl (by decide +kernel) rfl rfl
theorem kc_66_56 : am_code tn_G 66 56 = some (.getfield 13, 3, 0) := am_code_of (M := tn_m66) rfl (by decide +kernel) rfl rfl
theorem kf_66_13 : am_fld tn_G 66 13 = some (5, 1) := by decide +kernel
theorem kc_66_59 : am_code tn_G 66 59 = some (.iload_n 3, 1, 0) := am_code_of (M := tn_m66) rfl (by decide +kernel) rfl rfl
theorem kc_66_60 : am_code tn_G 66 60 = some (.iaload, 1, 0) := am_code_of (M := tn_m66) rfl (by decide +kernel) rfl rfl
theorem kc_66_61 : am_code tn_G 66 61 = some (.ireturn, 1, 0) := am_code_of (M := tn_m66) rfl (by decide +kernel) rfl rfl
-- 67: TermNetModel.part(II)I
theorem kl_67 : am_ml tn_G 67 = 5 := rfl
theorem ko_67 : am_oc tn_G 67 = 5 := rfl
theorem kn_67 : am_nc tn_G 67 = 0 := rfl
theorem kr_67 : am_rt tn_G 67 = 1 := rfl
theorem kc_67_0 : am_code tn_G 67 0 = some (.aload_n 0, 1, 0) := am_code_of (M := tn_m67) rfl (by decide +kernel) rfl rfl
theorem kc_67_1 : am_code tn_G 67 1 = some (.aload_n 0, 1, 0) := am_code_of (M := tn_m67) rfl (by decide +kernel) rfl rfl
theorem kc_67_2 : am_code tn_G 67 2 = some (.iload_n 1, 1, 0) := am_code_of (M := tn_m67) rfl (by decide +kernel) rfl rfl
theorem kc_67_3 : am_code tn_G 67 3 = some (.invokevirtual 68, 3, 0) := am_code_of (M := tn_m67) rfl (by decide +kernel) rfl rfl
theorem ka_67_68 : am_cal tn_G 67 68 = some (0, 62, 1) := by decide +kernel
theorem kc_67_6 : am_code tn_G 67 6 = some (.ifCond .eq 7, 3, 13) := am_code_of (M := tn_m67) rfl (by decide +kernel) rfl (by decide +kernel)
theorem kc_67_9 : am_code tn_G 67 9 = some (.iconst 0, 1, 0) := am_code_of (M := tn_m67) rfl (by decide +kernel) rfl rfl
theorem kc_67_10 : am_code tn_G 67 10 = some (.goto 4, 3, 14) := am_code_of (M := tn_m67) rfl (by decide +kernel) rfl (by decide +kernel)
theorem kc_67_13 : am_code tn_G 67 13 = some (.iconst 1, 1, 0) := am_code_of (M := tn_m67) rfl (by decide +kernel) rfl rfl
theorem kc_67_14 : am_code tn_G 67 14 = some (.putfield 50, 3, 0) := am_code_of (M := tn_m67) rfl (by decide +kernel) rfl rfl
theorem kf_67_50 : am_fld tn_G 67 50 = some (5, 7) := by decide +kernel
theorem kc_67_17 : am_code tn_G 67 17 = some (.aload_n 0, 1, 0) := am_code_of (M := tn_m67) rfl (by decide +kernel) rfl rfl
theorem kc_67_18 : am_code tn_G 67 18 = some (.getfield 50, 3, 0) := am_code_of (M := tn_m67) rfl (by decide +kernel) rfl rfl
theorem kc_67_21 : am_code tn_G 67 21 = some (.ifCond .le 5, 3, 26) := am_code_of (M := tn_m67) rfl (by decide +kernel) rfl (by decide +kernel)
theorem kc_67_24 : am_code tn_G 67 24 = some (.iconst 0, 1, 0) := am_code_of (M := tn_m67) rfl (by decide +kernel) rfl rfl
theorem kc_67_25 : am_code tn_G 67 25 = some (.ireturn, 1, 0) := am_code_of (M := tn_m67) rfl (by decide +kernel) rfl rfl
theorem kc_67_26 : am_code tn_G 67 26 = some (.aload_n 0, 1, 0) := am_code_of (M := tn_m67) rfl (by decide +kernel) rfl rfl
theorem kc_67_27 : am_code tn_G 67 27 = some (.aload_n 0, 1, 0) := am_code_of (M := tn_m67) rfl (by decide +kernel) rfl rfl
theorem kc_67_28 : am_code tn_G 67 28 = some (.getfield 19, 3, 0) := am_code_of (M := tn_m67) rfl (by decide +kernel) rfl rfl
theorem kf_67_19 : am_fld tn_G 67 19 = some (5, 8) := by decide +kernel
theorem kc_67_31 : am_code tn_G 67 31 = some (.invokevirtual 77, 3, 0) := am_code_of (M := tn_m67) rfl (by decide +kernel) rfl rfl
theorem ka_67_77 : am_cal tn_G 67 77 = some (0, 64, 1) := by decide +kernel
theorem kc_67_34 : am_code tn_G 67 34 = some (.istore_n 3, 1, 0) := am_code_of (M := tn_m67) rfl (by decide +kernel) rfl rfl
theorem kc_67_35 : am_code tn_G 67 35 = some (.aload_n 0, 1, 0) := am_code_of (M := tn_m67) rfl (by decide +kernel) rfl rfl
theorem kc_67_36 : am_code tn_G 67 36 = some (.getfield 34, 3, 0) := am_code_of (M := tn_m67) rfl (by decide +kernel) rfl rfl
theorem kf_67_34 : am_fld tn_G 67 34 = some (5, 13) := by decide +kernel
theorem kc_67_39 : am_code tn_G 67 39 = some (.aload_n 0, 1, 0) := am_code_of (M := tn_m67) rfl (by decide +kernel) rfl rfl
theorem kc_67_40 : am_code tn_G 67 40 = some (.getfield 19, 3, 0) := am_code_of (M := tn_m67) rfl (by decide +kernel) rfl rfl
theorem kc_67_43 : am_code tn_G 67 43 = some (.iload_n 1, 1, 0) := am_code_of (M := tn_m67) rfl (by decide +kernel) rfl rfl
theorem kc_67_44 : am_code tn_G 67 44 = some (.iaload, 1, 0) := am_code_of (M := tn_m67) rfl (by decide +kernel) rfl rfl
theorem kc_67_45 : am_code tn_G 67 45 = some (.iaload, 1, 0) := am_code_of (M := tn_m67) rfl (by decide +kernel) rfl rfl
theorem kc_67_46 : am_code tn_G 67 46 = some (.istore 4, 2, 0) := am_code_of (M := tn_m67) rfl (by decide +kernel) rfl rfl
theorem kc_67_48 : am_code tn_G 67 48 = some (.iload 4, 2, 0) := am_code_of (M := tn_m67) rfl (by decide +kernel) rfl rfl
theorem kc_67_50 : am_code tn_G 67 50 = some (.ifCond .lt 23, 3, 73) := am_code_of (M := tn_m67) rfl (by decide +kernel) rfl (by decide +kernel)
theorem kc_67_53 : am_code tn_G 67 53 = some (.iload_n 2, 1, 0) := am_code_of (M := tn_m67) rfl (by decide +kernel) rfl rfl
theorem kc_67_54 : am_code tn_G 67 54 = some (.ifCond .lt 19, 3, 73) := am_code_of (M := tn_m67) rfl (by decide +kernel) rfl (by decide +kernel)
theorem kc_67_57 : am_code tn_G 67 57 = some (.iload_n 2, 1, 0) := am_code_of (M := tn_m67) rfl (by decide +kernel) rfl rfl
theorem kc_67_58 : am_code tn_G 67 58 = some (.aload_n 0, 1, 0) := am_code_of (M := tn_m67) rfl (by decide +kernel) rfl rfl
theorem kc_67_59 : am_code tn_G 67 59 = some (.getfield 9, 3, 0) := am_code_of (M := tn_m67) rfl (by decide +kernel) rfl rfl
theorem kf_67_9 : am_fld tn_G 67 9 = some (5, 0) := by decide +kernel
theorem kc_67_62 : am_code tn_G 67 62 = some (.aload_n 0, 1, 0) := am_code_of (M := tn_m67) rfl (by decide +kernel) rfl rfl
theorem kc_67_63 : am_code tn_G 67 63 = some (.getfield 13, 3, 0) := am_code_of (M := tn_m67) rfl (by decide +kernel) rfl rfl
theorem kf_67_13 : am_fld tn_G 67 13 = some (5, 1) := by decide +kernel
theorem kc_67_66 : am_code tn_G 67 66 = some (.iload 4, 2, 0) := am_code_of (M := tn_m67) rfl (by decide +kernel) rfl rfl
theorem kc_67_68 : am_code tn_G 67 68 = some (.iaload, 1, 0) := am_code_of (M := tn_m67) rfl (by decide +kernel) rfl rfl
theorem kc_67_69 : am_code tn_G 67 69 = some (.iaload, 1, 0) := am_code_of (M := tn_m67) rfl (by decide +kernel) rfl rfl
theorem kc_67_70 : am_code tn_G 67 70 = some (.if_icmp .lt 10, 3, 80) := am_code_of (M := tn_m67) rfl (by decide +kernel) rfl (by decide +kernel)
theorem kc_67_73 : am_code tn_G 67 73 = some (.aload_n 0, 1, 0) := am_code_of (M := tn_m67) rfl (by decide +kernel) rfl rfl
theorem kc_67_74 : am_code tn_G 67 74 = some (.iconst 2, 1, 0) := am_code_of (M := tn_m67) rfl (by decide +kernel) rfl rfl
theorem kc_67_75 : am_code tn_G 67 75 = some (.putfield 50, 3, 0) := am_code_of (M := tn_m67) rfl (by decide +kernel) rfl rfl
theorem kc_67_78 : am_code tn_G 67 78 = some (.iconst 0, 1, 0) := am_code_of (M := tn_m67) rfl (by decide +kernel) rfl rfl
theorem kc_67_79 : am_code tn_G 67 79 = some (.ireturn, 1, 0) := am_code_of (M := tn_m67) rfl (by decide +kernel) rfl rfl
theorem kc_67_80 : am_code tn_G 67 80 = some (.aload_n 0, 1, 0) := am_code_of (M := tn_m67) rfl (by decide +kernel) rfl rfl
theorem kc_67_81 : am_code tn_G 67 81 = some (.getfield 19, 3, 0) := am_code_of (M := tn_m67) rfl (by decide +kernel) rfl rfl
theorem kc_67_84 : am_code tn_G 67 84 = some (.aload_n 0, 1, 0) := am_code_of (M := tn_m67) rfl (by decide +kernel) rfl rfl
theorem kc_67_85 : am_code tn_G 67 85 = some (.getfield 16, 3, 0) := am_code_of (M := tn_m67) rfl (by decide +kernel) rfl rfl
theorem kf_67_16 : am_fld tn_G 67 16 = some (5, 2) := by decide +kernel
theorem kc_67_88 : am_code tn_G 67 88 = some (.iconst 3, 1, 0) := am_code_of (M := tn_m67) rfl (by decide +kernel) rfl rfl
theorem kc_67_89 : am_code tn_G 67 89 = some (.iload 4, 2, 0) := am_code_of (M := tn_m67) rfl (by decide +kernel) rfl rfl
theorem kc_67_91 : am_code tn_G 67 91 = some (.imul, 1, 0) := am_code_of (M := tn_m67) rfl (by decide +kernel) rfl rfl
theorem kc_67_92 : am_code tn_G 67 92 = some (.iload_n 2, 1, 0) := am_code_of (M := tn_m67) rfl (by decide +kernel) rfl rfl
theorem kc_67_93 : am_code tn_G 67 93 = some (.iadd, 1, 0) := am_code_of (M := tn_m67) rfl (by decide +kernel) rfl rfl
theorem kc_67_94 : am_code tn_G 67 94 = some (.iaload, 1, 0) := am_code_of (M := tn_m67) rfl (by decide +kernel) rfl rfl
theorem kc_67_95 : am_code tn_G 67 95 = some (.iaload, 1, 0) := am_code_of (M := tn_m67) rfl (by decide +kernel) rfl rfl
theorem kc_67_96 : am_code tn_G 67 96 = some (.ireturn, 1, 0) := am_code_of (M := tn_m67) rfl (by decide +kernel) rfl rfl
-- 68: TermNetModel.least(I)I
theorem kl_68 : am_ml tn_G 68 = 2 := rfl
theorem ko_68 : am_oc tn_G 68 = 5 := rfl
theorem kn_68 : am_nc tn_G 68 = 0 := rfl
theorem kr_68 : am_rt tn_G 68 = 1 := rfl
theorem kc_68_0 : am_code tn_G 68 0 = some (.aload_n 0, 1, 0) := am_code_of (M := tn_m68) rfl (by decide +kernel) rfl rfl
theorem kc_68_1 : am_code tn_G 68 1 = some (.aload_n 0, 1, 0) := am_code_of (M := tn_m68) rfl (by decide +kernel) rfl rfl
theorem kc_68_2 : am_code tn_G 68 2 = some (.iload_n 1, 1, 0) := am_code_of (M := tn_m68) rfl (by decide +kernel) rfl rfl
theorem kc_68_3 : am_code tn_G 68 3 = some (.invokevirtual 68, 3, 0) := am_code_of (M := tn_m68) rfl (by decide +kernel) rfl rfl
theorem ka_68_68 : am_cal tn_G 68 68 = some (0, 62, 1) := by decide +kernel
theorem kc_68_6 : am_code tn_G 68 6 = some (.ifCond .eq 7, 3, 13) := am_code_of (M := tn_m68) rfl (by decide +kernel) rfl (by decide +kernel)
theorem kc_68_9 : am_code tn_G 68 9 = some (.iconst 0, 1, 0) := am_code_of (M := tn_m68) rfl (by decide +kernel) rfl rfl
theorem kc_68_10 : am_code tn_G 68 10 = some (.goto 4, 3, 14) := am_code_of (M := tn_m68) rfl (by decide +kernel) rfl (by decide +kernel)
theorem kc_68_13 : am_code tn_G 68 13 = some (.iconst 1, 1, 0) := am_code_of (M := tn_m68) rfl (by decide +kernel) rfl rfl
theorem kc_68_14 : am_code tn_G 68 14 = some (.putfield 50, 3, 0) := am_code_of (M := tn_m68) rfl (by decide +kernel) rfl rfl
theorem kf_68_50 : am_fld tn_G 68 50 = some (5, 7) := by decide +kernel
theorem kc_68_17 : am_code tn_G 68 17 = some (.aload_n 0, 1, 0) := am_code_of (M := tn_m68) rfl (by decide +kernel) rfl rfl
theorem kc_68_18 : am_code tn_G 68 18 = some (.getfield 50, 3, 0) := am_code_of (M := tn_m68) rfl (by decide +kernel) rfl rfl
theorem kc_68_21 : am_code tn_G 68 21 = some (.ifCond .le 7, 3, 28) := am_code_of (M := tn_m68) rfl (by decide +kernel) rfl (by decide +kernel)
theorem kc_68_24 : am_code tn_G 68 24 = some (.iconst 0, 1, 0) := am_code_of (M := tn_m68) rfl (by decide +kernel) rfl rfl
theorem kc_68_25 : am_code tn_G 68 25 = some (.goto 9, 3, 34) := am_code_of (M := tn_m68) rfl (by decide +kernel) rfl (by decide +kernel)
theorem kc_68_28 : am_code tn_G 68 28 = some (.aload_n 0, 1, 0) := am_code_of (M := tn_m68) rfl (by decide +kernel) rfl rfl
theorem kc_68_29 : am_code tn_G 68 29 = some (.getfield 19, 3, 0) := am_code_of (M := tn_m68) rfl (by decide +kernel) rfl rfl
theorem kf_68_19 : am_fld tn_G 68 19 = some (5, 8) := by decide +kernel
theorem kc_68_32 : am_code tn_G 68 32 = some (.iload_n 1, 1, 0) := am_code_of (M := tn_m68) rfl (by decide +kernel) rfl rfl
theorem kc_68_33 : am_code tn_G 68 33 = some (.iaload, 1, 0) := am_code_of (M := tn_m68) rfl (by decide +kernel) rfl rfl
theorem kc_68_34 : am_code tn_G 68 34 = some (.ireturn, 1, 0) := am_code_of (M := tn_m68) rfl (by decide +kernel) rfl rfl
-- 69: TermNetModel.size(I)I
theorem kl_69 : am_ml tn_G 69 = 3 := rfl
theorem ko_69 : am_oc tn_G 69 = 5 := rfl
theorem kn_69 : am_nc tn_G 69 = 0 := rfl
theorem kr_69 : am_rt tn_G 69 = 1 := rfl
theorem kc_69_0 : am_code tn_G 69 0 = some (.aload_n 0, 1, 0) := am_code_of (M := tn_m69) rfl (by decide +kernel) rfl rfl
theorem kc_69_1 : am_code tn_G 69 1 = some (.aload_n 0, 1, 0) := am_code_of (M := tn_m69) rfl (by decide +kernel) rfl rfl
theorem kc_69_2 : am_code tn_G 69 2 = some (.iload_n 1, 1, 0) := am_code_of (M := tn_m69) rfl (by decide +kernel) rfl rfl
theorem kc_69_3 : am_code tn_G 69 3 = some (.invokevirtual 68, 3, 0) := am_code_of (M := tn_m69) rfl (by decide +kernel) rfl rfl
theorem ka_69_68 : am_cal tn_G 69 68 = some (0, 62, 1) := by decide +kernel
theorem kc_69_6 : am_code tn_G 69 6 = some (.ifCond .eq 7, 3, 13) := am_code_of (M := tn_m69) rfl (by decide +kernel) rfl (by decide +kernel)
theorem kc_69_9 : am_code tn_G 69 9 = some (.iconst 0, 1, 0) := am_code_of (M := tn_m69) rfl (by decide +kernel) rfl rfl
theorem kc_69_10 : am_code tn_G 69 10 = some (.goto 4, 3, 14) := am_code_of (M := tn_m69) rfl (by decide +kernel) rfl (by decide +kernel)
theorem kc_69_13 : am_code tn_G 69 13 = some (.iconst 1, 1, 0) := am_code_of (M := tn_m69) rfl (by decide +kernel) rfl rfl
theorem kc_69_14 : am_code tn_G 69 14 = some (.putfield 50, 3, 0) := am_code_of (M := tn_m69) rfl (by decide +kernel) rfl rfl
theorem kf_69_50 : am_fld tn_G 69 50 = some (5, 7) := by decide +kernel
theorem kc_69_17 : am_code tn_G 69 17 = some (.aload_n 0, 1, 0) := am_code_of (M := tn_m69) rfl (by decide +kernel) rfl rfl
theorem kc_69_18 : am_code tn_G 69 18 = some (.getfield 50, 3, 0) := am_code_of (M := tn_m69) rfl (by decide +kernel) rfl rfl
theorem kc_69_21 : am_code tn_G 69 21 = some (.ifCond .le 5, 3, 26) := am_code_of (M := tn_m69) rfl (by decide +kernel) rfl (by decide +kernel)
theorem kc_69_24 : am_code tn_G 69 24 = some (.iconst 0, 1, 0) := am_code_of (M := tn_m69) rfl (by decide +kernel) rfl rfl
theorem kc_69_25 : am_code tn_G 69 25 = some (.ireturn, 1, 0) := am_code_of (M := tn_m69) rfl (by decide +kernel) rfl rfl
theorem kc_69_26 : am_code tn_G 69 26 = some (.aload_n 0, 1, 0) := am_code_of (M := tn_m69) rfl (by decide +kernel) rfl rfl
theorem kc_69_27 : am_code tn_G 69 27 = some (.aload_n 0, 1, 0) := am_code_of (M := tn_m69) rfl (by decide +kernel) rfl rfl
theorem kc_69_28 : am_code tn_G 69 28 = some (.getfield 19, 3, 0) := am_code_of (M := tn_m69) rfl (by decide +kernel) rfl rfl
theorem kf_69_19 : am_fld tn_G 69 19 = some (5, 8) := by decide +kernel
theorem kc_69_31 : am_code tn_G 69 31 = some (.invokevirtual 77, 3, 0) := am_code_of (M := tn_m69) rfl (by decide +kernel) rfl rfl
theorem ka_69_77 : am_cal tn_G 69 77 = some (0, 64, 1) := by decide +kernel
theorem kc_69_34 : am_code tn_G 69 34 = some (.istore_n 2, 1, 0) := am_code_of (M := tn_m69) rfl (by decide +kernel) rfl rfl
theorem kc_69_35 : am_code tn_G 69 35 = some (.aload_n 0, 1, 0) := am_code_of (M := tn_m69) rfl (by decide +kernel) rfl rfl
theorem kc_69_36 : am_code tn_G 69 36 = some (.getfield 37, 3, 0) := am_code_of (M := tn_m69) rfl (by decide +kernel) rfl rfl
theorem kf_69_37 : am_fld tn_G 69 37 = some (5, 14) := by decide +kernel
theorem kc_69_39 : am_code tn_G 69 39 = some (.aload_n 0, 1, 0) := am_code_of (M := tn_m69) rfl (by decide +kernel) rfl rfl
theorem kc_69_40 : am_code tn_G 69 40 = some (.getfield 19, 3, 0) := am_code_of (M := tn_m69) rfl (by decide +kernel) rfl rfl
theorem kc_69_43 : am_code tn_G 69 43 = some (.iload_n 1, 1, 0) := am_code_of (M := tn_m69) rfl (by decide +kernel) rfl rfl
theorem kc_69_44 : am_code tn_G 69 44 = some (.iaload, 1, 0) := am_code_of (M := tn_m69) rfl (by decide +kernel) rfl rfl
theorem kc_69_45 : am_code tn_G 69 45 = some (.iaload, 1, 0) := am_code_of (M := tn_m69) rfl (by decide +kernel) rfl rfl
theorem kc_69_46 : am_code tn_G 69 46 = some (.ireturn, 1, 0) := am_code_of (M := tn_m69) rfl (by decide +kernel) rfl rfl
-- 70: TermNetModel.depth(I)I
theorem kl_70 : am_ml tn_G 70 = 3 := rfl
theorem ko_70 : am_oc tn_G 70 = 5 := rfl
theorem kn_70 : am_nc tn_G 70 = 0 := rfl
theorem kr_70 : am_rt tn_G 70 = 1 := rfl
theorem kc_70_0 : am_code tn_G 70 0 = some (.aload_n 0, 1, 0) := am_code_of (M := tn_m70) rfl (by decide +kernel) rfl rfl
theorem kc_70_1 : am_code tn_G 70 1 = some (.aload_n 0, 1, 0) := am_code_of (M := tn_m70) rfl (by decide +kernel) rfl rfl
theorem kc_70_2 : am_code tn_G 70 2 = some (.iload_n 1, 1, 0) := am_code_of (M := tn_m70) rfl (by decide +kernel) rfl rfl
theorem kc_70_3 : am_code tn_G 70 3 = some (.invokevirtual 68, 3, 0) := am_code_of (M := tn_m70) rfl (by decide +kernel) rfl rfl
theorem ka_70_68 : am_cal tn_G 70 68 = some (0, 62, 1) := by decide +kernel
theorem kc_70_6 : am_code tn_G 70 6 = some (.ifCond .eq 7, 3, 13) := am_code_of (M := tn_m70) rfl (by decide +kernel) rfl (by decide +kernel)
theorem kc_70_9 : am_code tn_G 70 9 = some (.iconst 0, 1, 0) := am_code_of (M := tn_m70) rfl (by decide +kernel) rfl rfl
theorem kc_70_10 : am_code tn_G 70 10 = some (.goto 4, 3, 14) := am_code_of (M := tn_m70) rfl (by decide +kernel) rfl (by decide +kernel)
theorem kc_70_13 : am_code tn_G 70 13 = some (.iconst 1, 1, 0) := am_code_of (M := tn_m70) rfl (by decide +kernel) rfl rfl
theorem kc_70_14 : am_code tn_G 70 14 = some (.putfield 50, 3, 0) := am_code_of (M := tn_m70) rfl (by decide +kernel) rfl rfl
theorem kf_70_50 : am_fld tn_G 70 50 = some (5, 7) := by decide +kernel
theorem kc_70_17 : am_code tn_G 70 17 = some (.aload_n 0, 1, 0) := am_code_of (M := tn_m70) rfl (by decide +kernel) rfl rfl
theorem kc_70_18 : am_code tn_G 70 18 = some (.getfield 50, 3, 0) := am_code_of (M := tn_m70) rfl (by decide +kernel) rfl rfl
theorem kc_70_21 : am_code tn_G 70 21 = some (.ifCond .le 5, 3, 26) := am_code_of (M := tn_m70) rfl (by decide +kernel) rfl (by decide +kernel)
theorem kc_70_24 : am_code tn_G 70 24 = some (.iconst 0, 1, 0) := am_code_of (M := tn_m70) rfl (by decide +kernel) rfl rfl
theorem kc_70_25 : am_code tn_G 70 25 = some (.ireturn, 1, 0) := am_code_of (M := tn_m70) rfl (by decide +kernel) rfl rfl
theorem kc_70_26 : am_code tn_G 70 26 = some (.aload_n 0, 1, 0) := am_code_of (M := tn_m70) rfl (by decide +kernel) rfl rfl
theorem kc_70_27 : am_code tn_G 70 27 = some (.aload_n 0, 1, 0) := am_code_of (M := tn_m70) rfl (by decide +kernel) rfl rfl
theorem kc_70_28 : am_code tn_G 70 28 = some (.getfield 19, 3, 0) := am_code_of (M := tn_m70) rfl (by decide +kernel) rfl rfl
theorem kf_70_19 : am_fld tn_G 70 19 = some (5, 8) := by decide +kernel
theorem kc_70_31 : am_code tn_G 70 31 = some (.invokevirtual 77, 3, 0) := am_code_of (M := tn_m70) rfl (by decide +kernel) rfl rfl
theorem ka_70_77 : am_cal tn_G 70 77 = some (0, 64, 1) := by decide +kernel
theorem kc_70_34 : am_code tn_G 70 34 = some (.istore_n 2, 1, 0) := am_code_of (M := tn_m70) rfl (by decide +kernel) rfl rfl
theorem kc_70_35 : am_code tn_G 70 35 = some (.aload_n 0, 1, 0) := am_code_of (M := tn_m70) rfl (by decide +kernel) rfl rfl
theorem kc_70_36 : am_code tn_G 70 36 = some (.getfield 40, 3, 0) := am_code_of (M := tn_m70) rfl (by decide +kernel) rfl rfl
theorem kf_70_40 : am_fld tn_G 70 40 = some (5, 15) := by decide +kernel
theorem kc_70_39 : am_code tn_G 70 39 = some (.aload_n 0, 1, 0) := am_code_of (M := tn_m70) rfl (by decide +kernel) rfl rfl
theorem kc_70_40 : am_code tn_G 70 40 = some (.getfield 19, 3, 0) := am_code_of (M := tn_m70) rfl (by decide +kernel) rfl rfl
theorem kc_70_43 : am_code tn_G 70 43 = some (.iload_n 1, 1, 0) := am_code_of (M := tn_m70) rfl (by decide +kernel) rfl rfl
theorem kc_70_44 : am_code tn_G 70 44 = some (.iaload, 1, 0) := am_code_of (M := tn_m70) rfl (by decide +kernel) rfl rfl
theorem kc_70_45 : am_code tn_G 70 45 = some (.iaload, 1, 0) := am_code_of (M := tn_m70) rfl (by decide +kernel) rfl rfl
theorem kc_70_46 : am_code tn_G 70 46 = some (.ireturn, 1, 0) := am_code_of (M := tn_m70) rfl (by decide +kernel) rfl rfl
-- 71: TermNetModel.inside(II)Z
theorem kl_71 : am_ml tn_G 71 = 3 := rfl
theorem ko_71 : am_oc tn_G 71 = 5 := rfl
theorem kn_71 : am_nc tn_G 71 = 0 := rfl
theorem kr_71 : am_rt tn_G 71 = 2 := rfl
theorem kc_71_0 : am_code tn_G 71 0 = some (.aload_n 0, 1, 0) := am_code_of (M := tn_m71) rfl (by decide +kernel) rfl rfl
theorem kc_71_1 : am_code tn_G 71 1 = some (.aload_n 0, 1, 0) := am_code_of (M := tn_m71) rfl (by decide +kernel) rfl rfl
theorem kc_71_2 : am_code tn_G 71 2 = some (.iload_n 1, 1, 0) := am_code_of (M := tn_m71) rfl (by decide +kernel) rfl rfl
theorem kc_71_3 : am_code tn_G 71 3 = some (.invokevirtual 68, 3, 0) := am_code_of (M := tn_m71) rfl (by decide +kernel) rfl rfl
theorem ka_71_68 : am_cal tn_G 71 68 = some (0, 62, 1) := by decide +kernel
theorem kc_71_6 : am_code tn_G 71 6 = some (.ifCond .eq 15, 3, 21) := am_code_of (M := tn_m71) rfl (by decide +kernel) rfl (by decide +kernel)
theorem kc_71_9 : am_code tn_G 71 9 = some (.aload_n 0, 1, 0) := am_code_of (M := tn_m71) rfl (by decide +kernel) rfl rfl
theorem kc_71_10 : am_code tn_G 71 10 = some (.iload_n 2, 1, 0) := am_code_of (M := tn_m71) rfl (by decide +kernel) rfl rfl
theorem kc_71_11 : am_code tn_G 71 11 = some (.invokevirtual 68, 3, 0) := am_code_of (M := tn_m71) rfl (by decide +kernel) rfl rfl
theorem kc_71_14 : am_code tn_G 71 14 = some (.ifCond .eq 7, 3, 21) := am_code_of (M := tn_m71) rfl (by decide +kernel) rfl (by decide +kernel)
theorem kc_71_17 : am_code tn_G 71 17 = some (.iconst 0, 1, 0) := am_code_of (M := tn_m71) rfl (by decide +kernel) rfl rfl
theorem kc_71_18 : am_code tn_G 71 18 = some (.goto 4, 3, 22) := am_code_of (M := tn_m71) rfl (by decide +kernel) rfl (by decide +kernel)
theorem kc_71_21 : am_code tn_G 71 21 = some (.iconst 1, 1, 0) := am_code_of (M := tn_m71) rfl (by decide +kernel) rfl rfl
theorem kc_71_22 : am_code tn_G 71 22 = some (.putfield 50, 3, 0) := am_code_of (M := tn_m71) rfl (by decide +kernel) rfl rfl
theorem kf_71_50 : am_fld tn_G 71 50 = some (5, 7) := by decide +kernel
theorem kc_71_25 : am_code tn_G 71 25 = some (.aload_n 0, 1, 0) := am_code_of (M := tn_m71) rfl (by decide +kernel) rfl rfl
theorem kc_71_26 : am_code tn_G 71 26 = some (.getfield 50, 3, 0) := am_code_of (M := tn_m71) rfl (by decide +kernel) rfl rfl
theorem kc_71_29 : am_code tn_G 71 29 = some (.ifCond .le 5, 3, 34) := am_code_of (M := tn_m71) rfl (by decide +kernel) rfl (by decide +kernel)
theorem kc_71_32 : am_code tn_G 71 32 = some (.iconst 0, 1, 0) := am_code_of (M := tn_m71) rfl (by decide +kernel) rfl rfl
theorem kc_71_33 : am_code tn_G 71 33 = some (.ireturn, 1, 0) := am_code_of (M := tn_m71) rfl (by decide +kernel) rfl rfl
theorem kc_71_34 : am_code tn_G 71 34 = some (.aload_n 0, 1, 0) := am_code_of (M := tn_m71) rfl (by decide +kernel) rfl rfl
theorem kc_71_35 : am_code tn_G 71 35 = some (.iload_n 2, 1, 0) := am_code_of (M := tn_m71) rfl (by decide +kernel) rfl rfl
theorem kc_71_36 : am_code tn_G 71 36 = some (.invokevirtual 83, 3, 0) := am_code_of (M := tn_m71) rfl (by decide +kernel) rfl rfl
theorem ka_71_83 : am_cal tn_G 71 83 = some (0, 72, 1) := by decide +kernel
theorem kc_71_39 : am_code tn_G 71 39 = some (.aload_n 0, 1, 0) := am_code_of (M := tn_m71) rfl (by decide +kernel) rfl rfl
theorem kc_71_40 : am_code tn_G 71 40 = some (.getfield 34, 3, 0) := am_code_of (M := tn_m71) rfl (by decide +kernel) rfl rfl
theorem kf_71_34 : am_fld tn_G 71 34 = some (5, 13) := by decide +kernel
theorem kc_71_43 : am_code tn_G 71 43 = some (.aload_n 0, 1, 0) := am_code_of (M := tn_m71) rfl (by decide +kernel) rfl rfl
theorem kc_71_44 : am_code tn_G 71 44 = some (.getfield 19, 3, 0) := am_code_of (M := tn_m71) rfl (by decide +kernel) rfl rfl
theorem kf_71_19 : am_fld tn_G 71 19 = some (5, 8) := by decide +kernel
theorem kc_71_47 : am_code tn_G 71 47 = some (.iload_n 1, 1, 0) := am_code_of (M := tn_m71) rfl (by decide +kernel) rfl rfl
theorem kc_71_48 : am_code tn_G 71 48 = some (.iaload, 1, 0) := am_code_of (M := tn_m71) rfl (by decide +kernel) rfl rfl
theorem kc_71_49 : am_code tn_G 71 49 = some (.iaload, 1, 0) := am_code_of (M := tn_m71) rfl (by decide +kernel) rfl rfl
theorem kc_71_50 : am_code tn_G 71 50 = some (.ifCond .ge 21, 3, 71) := am_code_of (M := tn_m71) rfl (by decide +kernel) rfl (by decide +kernel)
theorem kc_71_53 : am_code tn_G 71 53 = some (.aload_n 0, 1, 0) := am_code_of (M := tn_m71) rfl (by decide +kernel) rfl rfl
theorem kc_71_54 : am_code tn_G 71 54 = some (.getfield 47, 3, 0) := am_code_of (M := tn_m71) rfl (by decide +kernel) rfl rfl
theorem kf_71_47 : am_fld tn_G 71 47 = some (5, 17) := by decide +kernel
theorem kc_71_57 : am_code tn_G 71 57 = some (.aload_n 0, 1, 0) := am_code_of (M := tn_m71) rfl (by decide +kernel) rfl rfl
theorem kc_71_58 : am_code tn_G 71 58 = some (.getfield 19, 3, 0) := am_code_of (M := tn_m71) rfl (by decide +kernel) rfl rfl
theorem kc_71_61 : am_code tn_G 71 61 = some (.iload_n 1, 1, 0) := am_code_of (M := tn_m71) rfl (by decide +kernel) rfl rfl
theorem kc_71_62 : am_code tn_G 71 62 = some (.iaload, 1, 0) := am_code_of (M := tn_m71) rfl (by decide +kernel) rfl rfl
theorem kc_71_63 : am_code tn_G 71 63 = some (.baload, 1, 0) := am_code_of (M := tn_m71) rfl (by decide +kernel) rfl rfl
theorem kc_71_64 : am_code tn_G 71 64 = some (.ifCond .eq 7, 3, 71) := am_code_of (M := tn_m71) rfl (by decide +kernel) rfl (by decide +kernel)
theorem kc_71_67 : am_code tn_G 71 67 = some (.iconst 1, 1, 0) := am_code_of (M := tn_m71) rfl (by decide +kernel) rfl rfl
theorem kc_71_68 : am_code tn_G 71 68 = some (.goto 4, 3, 72) := am_code_of (M := tn_m71) rfl (by decide +kernel) rfl (by decide +kernel)
theorem kc_71_71 : am_code tn_G 71 71 = some (.iconst 0, 1, 0) := am_code_of (M := tn_m71) rfl (by decide +kernel) rfl rfl
theorem kc_71_72 : am_code tn_G 71 72 = some (.ireturn, 1, 0) := am_code_of (M := tn_m71) rfl (by decide +kernel) rfl rfl
-- 72: TermNetModel.go(I)V
theorem kl_72 : am_ml tn_G 72 = 8 := rfl
theorem ko_72 : am_oc tn_G 72 = 5 := rfl
theorem kn_72 : am_nc tn_G 72 = 0 := rfl
theorem kr_72 : am_rt tn_G 72 = 0 := rfl
theorem kc_72_0 : am_code tn_G 72 0 = some (.aload_n 0, 1, 0) := am_code_of (M := tn_m72) rfl (by decide +kernel) rfl rfl
theorem kc_72_1 : am_code tn_G 72 1 = some (.aload_n 0, 1, 0) := am_code_of (M := tn_m72) rfl (by decide +kernel) rfl rfl
theorem kc_72_2 : am_code tn_G 72 2 = some (.getfield 19, 3, 0) := am_code_of (M := tn_m72) rfl (by decide +kernel) rfl rfl
theorem kf_72_19 : am_fld tn_G 72 19 = some (5, 8) := by decide +kernel
theorem kc_72_5 : am_code tn_G 72 5 = some (.invokevirtual 77, 3, 0) := am_code_of (M := tn_m72) rfl (by decide +kernel) rfl rfl
theorem ka_72_77 : am_cal tn_G 72 77 = some (0, 64, 1) := by decide +kernel
theorem kc_72_8 : am_code tn_G 72 8 = some (.istore_n 2, 1, 0) := am_code_of (M := tn_m72) rfl (by decide +kernel) rfl rfl
theorem kc_72_9 : am_code tn_G 72 9 = some (.iconst 0, 1, 0) := am_code_of (M := tn_m72) rfl (by decide +kernel) rfl rfl
theorem kc_72_10 : am_code tn_G 72 10 = some (.istore_n 3, 1, 0) := am_code_of (M := tn_m72) rfl (by decide +kernel) rfl rfl
theorem kc_72_11 : am_code tn_G 72 11 = some (.iload_n 3, 1, 0) := am_code_of (M := tn_m72) rfl (by decide +kernel) rfl rfl
theorem kc_72_12 : am_code tn_G 72 12 = some (.aload_n 0, 1, 0) := am_code_of (M := tn_m72) rfl (by decide +kernel) rfl rfl
theorem kc_72_13 : am_code tn_G 72 13 = some (.getfield 54, 3, 0) := am_code_of (M := tn_m72) rfl (by decide +kernel) rfl rfl
theorem kf_72_54 : am_fld tn_G 72 54 = some (5, 4) := by decide +kernel
theorem kc_72_16 : am_code tn_G 72 16 = some (.if_icmp .ge 16, 3, 32) := am_code_of (M := tn_m72) rfl (by decide +kernel) rfl (by decide +kernel)
theorem kc_72_19 : am_code tn_G 72 19 = some (.aload_n 0, 1, 0) := am_code_of (M := tn_m72) rfl (by decide +kernel) rfl rfl
theorem kc_72_20 : am_code tn_G 72 20 = some (.getfield 47, 3, 0) := am_code_of (M := tn_m72) rfl (by decide +kernel) rfl rfl
theorem kf_72_47 : am_fld tn_G 72 47 = some (5, 17) := by decide +kernel
theorem kc_72_23 : am_code tn_G 72 23 = some (.iload_n 3, 1, 0) := am_code_of (M := tn_m72) rfl (by decide +kernel) rfl rfl
theorem kc_72_24 : am_code tn_G 72 24 = some (.iconst 0, 1, 0) := am_code_of (M := tn_m72) rfl (by decide +kernel) rfl rfl
theorem kc_72_25 : am_code tn_G 72 25 = some (.bastore, 1, 0) := am_code_of (M := tn_m72) rfl (by decide +kernel) rfl rfl
theorem kc_72_26 : am_code tn_G 72 26 = some (.iinc 3 1, 3, 0) := am_code_of (M := tn_m72) rfl (by decide +kernel) rfl rfl
theorem kc_72_29 : am_code tn_G 72 29 = some (.goto (-18), 3, 11) := am_code_of (M := tn_m72) rfl (by decide +kernel) rfl (by decide +kernel)
theorem kc_72_32 : am_code tn_G 72 32 = some (.aload_n 0, 1, 0) := am_code_of (M := tn_m72) rfl (by decide +kernel) rfl rfl
theorem kc_72_33 : am_code tn_G 72 33 = some (.getfield 47, 3, 0) := am_code_of (M := tn_m72) rfl (by decide +kernel) rfl rfl
theorem kc_72_36 : am_code tn_G 72 36 = some (.aload_n 0, 1, 0) := am_code_of (M := tn_m72) rfl (by decide +kernel) rfl rfl
theorem kc_72_37 : am_code tn_G 72 37 = some (.getfield 19, 3, 0) := am_code_of (M := tn_m72) rfl (by decide +kernel) rfl rfl
theorem kc_72_40 : am_code tn_G 72 40 = some (.iload_n 1, 1, 0) := am_code_of (M := tn_m72) rfl (by decide +kernel) rfl rfl
theorem kc_72_41 : am_code tn_G 72 41 = some (.iaload, 1, 0) := am_code_of (M := tn_m72) rfl (by decide +kernel) rfl rfl
theorem kc_72_42 : am_code tn_G 72 42 = some (.iconst 1, 1, 0) := am_code_of (M := tn_m72) rfl (by decide +kernel) rfl rfl
theorem kc_72_43 : am_code tn_G 72 43 = some (.bastore, 1, 0) := am_code_of (M := tn_m72) rfl (by decide +kernel) rfl rfl
theorem kc_72_44 : am_code tn_G 72 44 = some (.iconst 1, 1, 0) := am_code_of (M := tn_m72) rfl (by decide +kernel) rfl rfl
theorem kc_72_45 : am_code tn_G 72 45 = some (.istore_n 3, 1, 0) := am_code_of (M := tn_m72) rfl (by decide +kernel) rfl rfl
theorem kc_72_46 : am_code tn_G 72 46 = some (.iload_n 3, 1, 0) := am_code_of (M := tn_m72) rfl (by decide +kernel) rfl rfl
theorem kc_72_47 : am_code tn_G 72 47 = some (.ifCond .eq 122, 3, 169) := am_code_of (M := tn_m72) rfl (by decide +kernel) rfl (by decide +kernel)
theorem kc_72_50 : am_code tn_G 72 50 = some (.iconst 0, 1, 0) := am_code_of (M := tn_m72) rfl (by decide +kernel) rfl rfl
theorem kc_72_51 : am_code tn_G 72 51 = some (.istore_n 3, 1, 0) := am_code_of (M := tn_m72) rfl (by decide +kernel) rfl rfl
theorem kc_72_52 : am_code tn_G 72 52 = some (.iconst 0, 1, 0) := am_code_of (M := tn_m72) rfl (by decide +kernel) rfl rfl
theorem kc_72_53 : am_code tn_G 72 53 = some (.istore 4, 2, 0) := am_code_of (M := tn_m72) rfl (by decide +kernel) rfl rfl
theorem kc_72_55 : am_code tn_G 72 55 = some (.iload 4, 2, 0) := am_code_of (M := tn_m72) rfl (by decide +kernel) rfl rfl
theorem kc_72_57 : am_code tn_G 72 57 = some (.aload_n 0, 1, 0) := am_code_of (M := tn_m72) rfl (by decide +kernel) rfl rfl
theorem kc_72_58 : am_code tn_G 72 58 = some (.getfield 54, 3, 0) := am_code_of (M := tn_m72) rfl (by decide +kernel) rfl rfl
theorem kc_72_61 : am_code tn_G 72 61 = some (.if_icmp .ge 105, 3, 166) := am_code_of (M := tn_m72) rfl (by decide +kernel) rfl (by decide +kernel)
theorem kc_72_64 : am_code tn_G 72 64 = some (.aload_n 0, 1, 0) := am_code_of (M := tn_m72) rfl (by decide +kernel) rfl rfl
theorem kc_72_65 : am_code tn_G 72 65 = some (.getfield 47, 3, 0) := am_code_of (M := tn_m72) rfl (by decide +kernel) rfl rfl
theorem kc_72_68 : am_code tn_G 72 68 = some (.iload 4, 2, 0) := am_code_of (M := tn_m72) rfl (by decide +kernel) rfl rfl
theorem kc_72_70 : am_code tn_G 72 70 = some (.baload, 1, 0) := am_code_of (M := tn_m72) rfl (by decide +kernel) rfl rfl
theorem kc_72_71 : am_code tn_G 72 71 = some (.ifCond .eq 13, 3, 84) := am_code_of (M := tn_m72) rfl (by decide +kernel) rfl (by decide +kernel)
theorem kc_72_74 : am_code tn_G 72 74 = some (.aload_n 0, 1, 0) := am_code_of (M := tn_m72) rfl (by decide +kernel) rfl rfl
theorem kc_72_75 : am_code tn_G 72 75 = some (.getfield 34, 3, 0) := am_code_of (M := tn_m72) rfl (by decide +kernel) rfl rfl
theorem kf_72_34 : am_fld tn_G 72 34 = some (5, 13) := by decide +kernel
theorem kc_72_78 : am_code tn_G 72 78 = some (.iload 4, 2, 0) := am_code_of (M := tn_m72) rfl (by decide +kernel) rfl rfl
theorem kc_72_80 : am_code tn_G 72 80 = some (.iaload, 1, 0) := am_code_of (M := tn_m72) rfl (by decide +kernel) rfl rfl
theorem kc_72_81 : am_code tn_G 72 81 = some (.goto 4, 3, 85) := am_code_of (M := tn_m72) rfl (by decide +kernel) rfl (by decide +kernel)
theorem kc_72_84 : am_code tn_G 72 84 = some (.iconst (-1), 1, 0) := am_code_of (M := tn_m72) rfl (by decide +kernel) rfl rfl
theorem kc_72_85 : am_code tn_G 72 85 = some (.istore 5, 2, 0) := am_code_of (M := tn_m72) rfl (by decide +kernel) rfl rfl
theorem kc_72_87 : am_code tn_G 72 87 = some (.iconst 0, 1, 0) := am_code_of (M := tn_m72) rfl (by decide +kernel) rfl rfl
theorem kc_72_88 : am_code tn_G 72 88 = some (.istore 6, 2, 0) := am_code_of (M := tn_m72) rfl (by decide +kernel) rfl rfl
theorem kc_72_90 : am_code tn_G 72 90 = some (.iload 5, 2, 0) := am_code_of (M := tn_m72) rfl (by decide +kernel) rfl rfl
theorem kc_72_92 : am_code tn_G 72 92 = some (.ifCond .lt 68, 3, 160) := am_code_of (M := tn_m72) rfl (by decide +kernel) rfl (by decide +kernel)
theorem kc_72_95 : am_code tn_G 72 95 = some (.iload 6, 2, 0) := am_code_of (M := tn_m72) rfl (by decide +kernel) rfl rfl
theorem kc_72_97 : am_code tn_G 72 97 = some (.aload_n 0, 1, 0) := am_code_of (M := tn_m72) rfl (by decide +kernel) rfl rfl
theorem kc_72_98 : am_code tn_G 72 98 = some (.getfield 9, 3, 0) := am_code_of (M := tn_m72) rfl (by decide +kernel) rfl rfl
theorem kf_72_9 : am_fld tn_G 72 9 = some (5, 0) := by decide +kernel
theorem kc_72_101 : am_code tn_G 72 101 = some (.aload_n 0, 1, 0) := am_code_of (M := tn_m72) rfl (by decide +kernel) rfl rfl
theorem kc_72_102 : am_code tn_G 72 102 = some (.getfield 13, 3, 0) := am_code_of (M := tn_m72) rfl (by decide +kernel) rfl rfl
theorem kf_72_13 : am_fld tn_G 72 13 = some (5, 1) := by decide +kernel
theorem kc_72_105 : am_code tn_G 72 105 = some (.iload 5, 2, 0) := am_code_of (M := tn_m72) rfl (by decide +kernel) rfl rfl
theorem kc_72_107 : am_code tn_G 72 107 = some (.iaload, 1, 0) := am_code_of (M := tn_m72) rfl (by decide +kernel) rfl rfl
theorem kc_72_108 : am_code tn_G 72 108 = some (.iaload, 1, 0) := am_code_of (M := tn_m72) rfl (by decide +kernel) rfl rfl
theorem kc_72_109 : am_code tn_G 72 109 = some (.if_icmp .ge 51, 3, 160) := am_code_of (M := tn_m72) rfl (by decide +kernel) rfl (by decide +kernel)
theorem kc_72_112 : am_code tn_G 72 112 = some (.aload_n 0, 1, 0) := am_code_of (M := tn_m72) rfl (by decide +kernel) rfl rfl
theorem kc_72_113 : am_code tn_G 72 113 = some (.getfield 19, 3, 0) := am_code_of (M := tn_m72) rfl (by decide +kernel) rfl rfl
theorem kc_72_116 : am_code tn_G 72 116 = some (.aload_n 0, 1, 0) := am_code_of (M := tn_m72) rfl (by decide +kernel) rfl rfl
theorem kc_72_117 : am_code tn_G 72 117 = some (.getfield 16, 3, 0) := am_code_of (M := tn_m72) rfl (by decide +kernel) rfl rfl
theorem kf_72_16 : am_fld tn_G 72 16 = some (5, 2) := by decide +kernel
theorem kc_72_120 : am_code tn_G 72 120 = some (.iconst 3, 1, 0) := am_code_of (M := tn_m72) rfl (by decide +kernel) rfl rfl
theorem kc_72_121 : am_code tn_G 72 121 = some (.iload 5, 2, 0) := am_code_of (M := tn_m72) rfl (by decide +kernel) rfl rfl
theorem kc_72_123 : am_code tn_G 72 123 = some (.imul, 1, 0) := am_code_of (M := tn_m72) rfl (by decide +kernel) rfl rfl
theorem kc_72_124 : am_code tn_G 72 124 = some (.iload 6, 2, 0) := am_code_of (M := tn_m72) rfl (by decide +kernel) rfl rfl
theorem kc_72_126 : am_code tn_G 72 126 = some (.iadd, 1, 0) := am_code_of (M := tn_m72) rfl (by decide +kernel) rfl rfl
theorem kc_72_127 : am_code tn_G 72 127 = some (.iaload, 1, 0) := am_code_of (M := tn_m72) rfl (by decide +kernel) rfl rfl
theorem kc_72_128 : am_code tn_G 72 128 = some (.iaload, 1, 0) := am_code_of (M := tn_m72) rfl (by decide +kernel) rfl rfl
theorem kc_72_129 : am_code tn_G 72 129 = some (.istore 7, 2, 0) := am_code_of (M := tn_m72) rfl (by decide +kernel) rfl rfl
theorem kc_72_131 : am_code tn_G 72 131 = some (.aload_n 0, 1, 0) := am_code_of (M := tn_m72) rfl (by decide +kernel) rfl rfl
theorem kc_72_132 : am_code tn_G 72 132 = some (.getfield 47, 3, 0) := am_code_of (M := tn_m72) rfl (by decide +kernel) rfl rfl
theorem kc_72_135 : am_code tn_G 72 135 = some (.iload 7, 2, 0) := am_code_of (M := tn_m72) rfl (by decide +kernel) rfl rfl
theorem kc_72_137 : am_code tn_G 72 137 = some (.baload, 1, 0) := am_code_of (M := tn_m72) rfl (by decide +kernel) rfl rfl
theorem kc_72_138 : am_code tn_G 72 138 = some (.ifCond .eq 6, 3, 144) := am_code_of (M := tn_m72) rfl (by decide +kernel) rfl (by decide +kernel)
theorem kc_72_141 : am_code tn_G 72 141 = some (.goto 13, 3, 154) := am_code_of (M := tn_m72) rfl (by decide +kernel) rfl (by decide +kernel)
theorem kc_72_144 : am_code tn_G 72 144 = some (.aload_n 0, 1, 0) := am_code_of (M := tn_m72) rfl (by decide +kernel) rfl rfl
theorem kc_72_145 : am_code tn_G 72 145 = some (.getfield 47, 3, 0) := am_code_of (M := tn_m72) rfl (by decide +kernel) rfl rfl
theorem kc_72_148 : am_code tn_G 72 148 = some (.iload 7, 2, 0) := am_code_of (M := tn_m72) rfl (by decide +kernel) rfl rfl
theorem kc_72_150 : am_code tn_G 72 150 = some (.iconst 1, 1, 0) := am_code_of (M := tn_m72) rfl (by decide +kernel) rfl rfl
theorem kc_72_151 : am_code tn_G 72 151 = some (.bastore, 1, 0) := am_code_of (M := tn_m72) rfl (by decide +kernel) rfl rfl
theorem kc_72_152 : am_code tn_G 72 152 = some (.iconst 1, 1, 0) := am_code_of (M := tn_m72) rfl (by decide +kernel) rfl rfl
theorem kc_72_153 : am_code tn_G 72 153 = some (.istore_n 3, 1, 0) := am_code_of (M := tn_m72) rfl (by decide +kernel) rfl rfl
theorem kc_72_154 : am_code tn_G 72 154 = some (.iinc 6 1, 3, 0) := am_code_of (M := tn_m72) rfl (by decide +kernel) rfl rfl
theorem kc_72_157 : am_code tn_G 72 157 = some (.goto (-67), 3, 90) := am_code_of (M := tn_m72) rfl (by decide +kernel) rfl (by decide +kernel)
theorem kc_72_160 : am_code tn_G 72 160 = some (.iinc 4 1, 3, 0) := am_code_of (M := tn_m72) rfl (by decide +kernel) rfl rfl
theorem kc_72_163 : am_code tn_G 72 163 = some (.goto (-108), 3, 55) := am_code_of (M := tn_m72) rfl (by decide +kernel) rfl (by decide +kernel)
theorem kc_72_166 : am_code tn_G 72 166 = some (.goto (-120), 3, 46) := am_code_of (M := tn_m72) rfl (by decide +kernel) rfl (by decide +kernel)
theorem kc_72_169 : am_code tn_G 72 169 = some (.return_, 1, 0) := am_code_of (M := tn_m72) rfl (by decide +kernel) rfl rfl
-- 73: TermNetModel.unknowns(I)I
theorem kl_73 : am_ml tn_G 73 = 4 := rfl
theorem ko_73 : am_oc tn_G 73 = 5 := rfl
theorem kn_73 : am_nc tn_G 73 = 0 := rfl
theorem kr_73 : am_rt tn_G 73 = 1 := rfl
theorem kc_73_0 : am_code tn_G 73 0 = some (.aload_n 0, 1, 0) := am_code_of (M := tn_m73) rfl (by decide +kernel) rfl rfl
theorem kc_73_1 : am_code tn_G 73 1 = some (.aload_n 0, 1, 0) := am_code_of (M := tn_m73) rfl (by decide +kernel) rfl rfl
theorem kc_73_2 : am_code tn_G 73 2 = some (.iload_n 1, 1, 0) := am_code_of (M := tn_m73) rfl (by decide +kernel) rfl rfl
theorem kc_73_3 : am_code tn_G 73 3 = some (.invokevirtual 68, 3, 0) := am_code_of (M := tn_m73) rfl (by decide +kernel) rfl rfl
theorem ka_73_68 : am_cal tn_G 73 68 = some (0, 62, 1) := by decide +kernel
theorem kc_73_6 : am_code tn_G 73 6 = some (.ifCond .eq 7, 3, 13) := am_code_of (M := tn_m73) rfl (by decide +kernel) rfl (by decide +kernel)
theorem kc_73_9 : am_code tn_G 73 9 = some (.iconst 0, 1, 0) := am_code_of (M := tn_m73) rfl (by decide +kernel) rfl rfl
theorem kc_73_10 : am_code tn_G 73 10 = some (.goto 4, 3, 14) := am_code_of (M := tn_m73) rfl (by decide +kernel) rfl (by decide +kernel)
theorem kc_73_13 : am_code tn_G 73 13 = some (.iconst 1, 1, 0) := am_code_of (M := tn_m73) rfl (by decide +kernel) rfl rfl
theorem kc_73_14 : am_code tn_G 73 14 = some (.putfield 50, 3, 0) := am_code_of (M := tn_m73) rfl (by decide +kernel) rfl rfl
theorem kf_73_50 : am_fld tn_G 73 50 = some (5, 7) := by decide +kernel
theorem kc_73_17 : am_code tn_G 73 17 = some (.aload_n 0, 1, 0) := am_code_of (M := tn_m73) rfl (by decide +kernel) rfl rfl
theorem kc_73_18 : am_code tn_G 73 18 = some (.getfield 50, 3, 0) := am_code_of (M := tn_m73) rfl (by decide +kernel) rfl rfl
theorem kc_73_21 : am_code tn_G 73 21 = some (.ifCond .le 5, 3, 26) := am_code_of (M := tn_m73) rfl (by decide +kernel) rfl (by decide +kernel)
theorem kc_73_24 : am_code tn_G 73 24 = some (.iconst 0, 1, 0) := am_code_of (M := tn_m73) rfl (by decide +kernel) rfl rfl
theorem kc_73_25 : am_code tn_G 73 25 = some (.ireturn, 1, 0) := am_code_of (M := tn_m73) rfl (by decide +kernel) rfl rfl
theorem kc_73_26 : am_code tn_G 73 26 = some (.aload_n 0, 1, 0) := am_code_of (M := tn_m73) rfl (by decide +kernel) rfl rfl
theorem kc_73_27 : am_code tn_G 73 27 = some (.iload_n 1, 1, 0) := am_code_of (M := tn_m73) rfl (by decide +kernel) rfl rfl
theorem kc_73_28 : am_code tn_G 73 28 = some (.invokevirtual 83, 3, 0) := am_code_of (M := tn_m73) rfl (by decide +kernel) rfl rfl
theorem ka_73_83 : am_cal tn_G 73 83 = some (0, 72, 1) := by decide +kernel
theorem kc_73_31 : am_code tn_G 73 31 = some (.iconst 0, 1, 0) := am_code_of (M := tn_m73) rfl (by decide +kernel) rfl rfl
theorem kc_73_32 : am_code tn_G 73 32 = some (.istore_n 2, 1, 0) := am_code_of (M := tn_m73) rfl (by decide +kernel) rfl rfl
theorem kc_73_33 : am_code tn_G 73 33 = some (.iconst 0, 1, 0) := am_code_of (M := tn_m73) rfl (by decide +kernel) rfl rfl
theorem kc_73_34 : am_code tn_G 73 34 = some (.istore_n 3, 1, 0) := am_code_of (M := tn_m73) rfl (by decide +kernel) rfl rfl
theorem kc_73_35 : am_code tn_G 73 35 = some (.iload_n 3, 1, 0) := am_code_of (M := tn_m73) rfl (by decide +kernel) rfl rfl
theorem kc_73_36 : am_code tn_G 73 36 = some (.aload_n 0, 1, 0) := am_code_of (M := tn_m73) rfl (by decide +kernel) rfl rfl
theorem kc_73_37 : am_code tn_G 73 37 = some (.getfield 54, 3, 0) := am_code_of (M := tn_m73) rfl (by decide +kernel) rfl rfl
theorem kf_73_54 : am_fld tn_G 73 54 = some (5, 4) := by decide +kernel
theorem kc_73_40 : am_code tn_G 73 40 = some (.if_icmp .ge 30, 3, 70) := am_code_of (M := tn_m73) rfl (by decide +kernel) rfl (by decide +kernel)
theorem kc_73_43 : am_code tn_G 73 43 = some (.aload_n 0, 1, 0) := am_code_of (M := tn_m73) rfl (by decide +kernel) rfl rfl
theorem kc_73_44 : am_code tn_G 73 44 = some (.getfield 47, 3, 0) := am_code_of (M := tn_m73) rfl (by decide +kernel) rfl rfl
theorem kf_73_47 : am_fld tn_G 73 47 = some (5, 17) := by decide +kernel
theorem kc_73_47 : am_code tn_G 73 47 = some (.iload_n 3, 1, 0) := am_code_of (M := tn_m73) rfl (by decide +kernel) rfl rfl
theorem kc_73_48 : am_code tn_G 73 48 = some (.baload, 1, 0) := am_code_of (M := tn_m73) rfl (by decide +kernel) rfl rfl
theorem kc_73_49 : am_code tn_G 73 49 = some (.ifCond .eq 15, 3, 64) := am_code_of (M := tn_m73) rfl (by decide +kernel) rfl (by decide +kernel)
theorem kc_73_52 : am_code tn_G 73 52 = some (.aload_n 0, 1, 0) := am_code_of (M := tn_m73) rfl (by decide +kernel) rfl rfl
theorem kc_73_53 : am_code tn_G 73 53 = some (.getfield 34, 3, 0) := am_code_of (M := tn_m73) rfl (by decide +kernel) rfl rfl
theorem kf_73_34 : am_fld tn_G 73 34 = some (5, 13) := by decide +kernel
theorem kc_73_56 : am_code tn_G 73 56 = some (.iload_n 3, 1, 0) := am_code_of (M := tn_m73) rfl (by decide +kernel) rfl rfl
theorem kc_73_57 : am_code tn_G 73 57 = some (.iaload, 1, 0) := am_code_of (M := tn_m73) rfl (by decide +kernel) rfl rfl
theorem kc_73_58 : am_code tn_G 73 58 = some (.ifCond .ge 6, 3, 64) := am_code_of (M := tn_m73) rfl (by decide +kernel) rfl (by decide +kernel)
theorem kc_73_61 : am_code tn_G 73 61 = some (.iinc 2 1, 3, 0) := am_code_of (M := tn_m73) rfl (by decide +kernel) rfl rfl
theorem kc_73_64 : am_code tn_G 73 64 = some (.iinc 3 1, 3, 0) := am_code_of (M := tn_m73) rfl (by decide +kernel) rfl rfl
theorem kc_73_67 : am_code tn_G 73 67 = some (.goto (-32), 3, 35) := am_code_of (M := tn_m73) rfl (by decide +kernel) rfl (by decide +kernel)
theorem kc_73_70 : am_code tn_G 73 70 = some (.iload_n 2, 1, 0) := am_code_of (M := tn_m73) rfl (by decide +kernel) rfl rfl
theorem kc_73_71 : am_code tn_G 73 71 = some (.ireturn, 1, 0) := am_code_of (M := tn_m73) rfl (by decide +kernel) rfl rfl
-- 74: TermNetModel.mark()I
theorem kl_74 : am_ml tn_G 74 = 2 := rfl
theorem ko_74 : am_oc tn_G 74 = 5 := rfl
theorem kn_74 : am_nc tn_G 74 = 0 := rfl
theorem kr_74 : am_rt tn_G 74 = 1 := rfl
theorem kc_74_0 : am_code tn_G 74 0 = some (.aload_n 0, 1, 0) := am_code_of (M := tn_m74) rfl (by decide +kernel) rfl rfl
theorem kc_74_1 : am_code tn_G 74 1 = some (.aload_n 0, 1, 0) := am_code_of (M := tn_m74) rfl (by decide +kernel) rfl rfl
theorem kc_74_2 : am_code tn_G 74 2 = some (.getfield 87, 3, 0) := am_code_of (M := tn_m74) rfl (by decide +kernel) rfl rfl
theorem kf_74_87 : am_fld tn_G 74 87 = some (5, 5) := by decide +kernel
theorem kc_74_5 : am_code tn_G 74 5 = some (.bipush 20, 2, 0) := am_code_of (M := tn_m74) rfl (by decide +kernel) rfl rfl
theorem kc_74_7 : am_code tn_G 74 7 = some (.if_icmp .ne 7, 3, 14) := am_code_of (M := tn_m74) rfl (by decide +kernel) rfl (by decide +kernel)
theorem kc_74_10 : am_code tn_G 74 10 = some (.iconst 1, 1, 0) := am_code_of (M := tn_m74) rfl (by decide +kernel) rfl rfl
theorem kc_74_11 : am_code tn_G 74 11 = some (.goto 4, 3, 15) := am_code_of (M := tn_m74) rfl (by decide +kernel) rfl (by decide +kernel)
theorem kc_74_14 : am_code tn_G 74 14 = some (.iconst 0, 1, 0) := am_code_of (M := tn_m74) rfl (by decide +kernel) rfl rfl
theorem kc_74_15 : am_code tn_G 74 15 = some (.putfield 50, 3, 0) := am_code_of (M := tn_m74) rfl (by decide +kernel) rfl rfl
theorem kf_74_50 : am_fld tn_G 74 50 = some (5, 7) := by decide +kernel
theorem kc_74_18 : am_code tn_G 74 18 = some (.aload_n 0, 1, 0) := am_code_of (M := tn_m74) rfl (by decide +kernel) rfl rfl
theorem kc_74_19 : am_code tn_G 74 19 = some (.getfield 50, 3, 0) := am_code_of (M := tn_m74) rfl (by decide +kernel) rfl rfl
theorem kc_74_22 : am_code tn_G 74 22 = some (.ifCond .le 5, 3, 27) := am_code_of (M := tn_m74) rfl (by decide +kernel) rfl (by decide +kernel)
theorem kc_74_25 : am_code tn_G 74 25 = some (.iconst 0, 1, 0) := am_code_of (M := tn_m74) rfl (by decide +kernel) rfl rfl
theorem kc_74_26 : am_code tn_G 74 26 = some (.ireturn, 1, 0) := am_code_of (M := tn_m74) rfl (by decide +kernel) rfl rfl
theorem kc_74_27 : am_code tn_G 74 27 = some (.aload_n 0, 1, 0) := am_code_of (M := tn_m74) rfl (by decide +kernel) rfl rfl
theorem kc_74_28 : am_code tn_G 74 28 = some (.getfield 25, 3, 0) := am_code_of (M := tn_m74) rfl (by decide +kernel) rfl rfl
theorem kf_74_25 : am_fld tn_G 74 25 = some (5, 10) := by decide +kernel
theorem kc_74_31 : am_code tn_G 74 31 = some (.aload_n 0, 1, 0) := am_code_of (M := tn_m74) rfl (by decide +kernel) rfl rfl
theorem kc_74_32 : am_code tn_G 74 32 = some (.getfield 87, 3, 0) := am_code_of (M := tn_m74) rfl (by decide +kernel) rfl rfl
theorem kc_74_35 : am_code tn_G 74 35 = some (.aload_n 0, 1, 0) := am_code_of (M := tn_m74) rfl (by decide +kernel) rfl rfl
theorem kc_74_36 : am_code tn_G 74 36 = some (.getfield 54, 3, 0) := am_code_of (M := tn_m74) rfl (by decide +kernel) rfl rfl
theorem kf_74_54 : am_fld tn_G 74 54 = some (5, 4) := by decide +kernel
theorem kc_74_39 : am_code tn_G 74 39 = some (.iastore, 1, 0) := am_code_of (M := tn_m74) rfl (by decide +kernel) rfl rfl
theorem kc_74_40 : am_code tn_G 74 40 = some (.aload_n 0, 1, 0) := am_code_of (M := tn_m74) rfl (by decide +kernel) rfl rfl
theorem kc_74_41 : am_code tn_G 74 41 = some (.getfield 28, 3, 0) := am_code_of (M := tn_m74) rfl (by decide +kernel) rfl rfl
theorem kf_74_28 : am_fld tn_G 74 28 = some (5, 11) := by decide +kernel
theorem kc_74_44 : am_code tn_G 74 44 = some (.aload_n 0, 1, 0) := am_code_of (M := tn_m74) rfl (by decide +kernel) rfl rfl
theorem kc_74_45 : am_code tn_G 74 45 = some (.getfield 87, 3, 0) := am_code_of (M := tn_m74) rfl (by decide +kernel) rfl rfl
theorem kc_74_48 : am_code tn_G 74 48 = some (.aload_n 0, 1, 0) := am_code_of (M := tn_m74) rfl (by decide +kernel) rfl rfl
theorem kc_74_49 : am_code tn_G 74 49 = some (.getfield 80, 3, 0) := am_code_of (M := tn_m74) rfl (by decide +kernel) rfl rfl
theorem kf_74_80 : am_fld tn_G 74 80 = some (5, 6) := by decide +kernel
theorem kc_74_52 : am_code tn_G 74 52 = some (.iastore, 1, 0) := am_code_of (M := tn_m74) rfl (by decide +kernel) rfl rfl
theorem kc_74_53 : am_code tn_G 74 53 = some (.iconst 0, 1, 0) := am_code_of (M := tn_m74) rfl (by decide +kernel) rfl rfl
theorem kc_74_54 : am_code tn_G 74 54 = some (.istore_n 1, 1, 0) := am_code_of (M := tn_m74) rfl (by decide +kernel) rfl rfl
theorem kc_74_55 : am_code tn_G 74 55 = some (.iload_n 1, 1, 0) := am_code_of (M := tn_m74) rfl (by decide +kernel) rfl rfl
theorem kc_74_56 : am_code tn_G 74 56 = some (.aload_n 0, 1, 0) := am_code_of (M := tn_m74) rfl (by decide +kernel) rfl rfl
theorem kc_74_57 : am_code tn_G 74 57 = some (.getfield 54, 3, 0) := am_code_of (M := tn_m74) rfl (by decide +kernel) rfl rfl
theorem kc_74_60 : am_code tn_G 74 60 = some (.if_icmp .ge 30, 3, 90) := am_code_of (M := tn_m74) rfl (by decide +kernel) rfl (by decide +kernel)
theorem kc_74_63 : am_code tn_G 74 63 = some (.aload_n 0, 1, 0) := am_code_of (M := tn_m74) rfl (by decide +kernel) rfl rfl
theorem kc_74_64 : am_code tn_G 74 64 = some (.getfield 31, 3, 0) := am_code_of (M := tn_m74) rfl (by decide +kernel) rfl rfl
theorem kf_74_31 : am_fld tn_G 74 31 = some (5, 12) := by decide +kernel
theorem kc_74_67 : am_code tn_G 74 67 = some (.sipush 400, 3, 0) := am_code_of (M := tn_m74) rfl (by decide +kernel) rfl rfl
theorem kc_74_70 : am_code tn_G 74 70 = some (.aload_n 0, 1, 0) := am_code_of (M := tn_m74) rfl (by decide +kernel) rfl rfl
theorem kc_74_71 : am_code tn_G 74 71 = some (.getfield 87, 3, 0) := am_code_of (M := tn_m74) rfl (by decide +kernel) rfl rfl
theorem kc_74_74 : am_code tn_G 74 74 = some (.imul, 1, 0) := am_code_of (M := tn_m74) rfl (by decide +kernel) rfl rfl
theorem kc_74_75 : am_code tn_G 74 75 = some (.iload_n 1, 1, 0) := am_code_of (M := tn_m74) rfl (by decide +kernel) rfl rfl
theorem kc_74_76 : am_code tn_G 74 76 = some (.iadd, 1, 0) := am_code_of (M := tn_m74) rfl (by decide +kernel) rfl rfl
theorem kc_74_77 : am_code tn_G 74 77 = some (.aload_n 0, 1, 0) := am_code_of (M := tn_m74) rfl (by decide +kernel) rfl rfl
theorem kc_74_78 : am_code tn_G 74 78 = some (.getfield 19, 3, 0) := am_code_of (M := tn_m74) rfl (by decide +kernel) rfl rfl
theorem kf_74_19 : am_fld tn_G 74 19 = some (5, 8) := by decide +kernel
theorem kc_74_81 : am_code tn_G 74 81 = some (.iload_n 1, 1, 0) := am_code_of (M := tn_m74) rfl (by decide +kernel) rfl rfl
theorem kc_74_82 : am_code tn_G 74 82 = some (.iaload, 1, 0) := am_code_of (M := tn_m74) rfl (by decide +kernel) rfl rfl
theorem kc_74_83 : am_code tn_G 74 83 = some (.iastore, 1, 0) := am_code_of (M := tn_m74) rfl (by decide +kernel) rfl rfl
theorem kc_74_84 : am_code tn_G 74 84 = some (.iinc 1 1, 3, 0) := am_code_of (M := tn_m74) rfl (by decide +kernel) rfl rfl
theorem kc_74_87 : am_code tn_G 74 87 = some (.goto (-32), 3, 55) := am_code_of (M := tn_m74) rfl (by decide +kernel) rfl (by decide +kernel)
theorem kc_74_90 : am_code tn_G 74 90 = some (.aload_n 0, 1, 0) := am_code_of (M := tn_m74) rfl (by decide +kernel) rfl rfl
theorem kc_74_91 : am_code tn_G 74 91 = some (.dup, 1, 0) := am_code_of (M := tn_m74) rfl (by decide +kernel) rfl rfl
theorem kc_74_92 : am_code tn_G 74 92 = some (.getfield 87, 3, 0) := am_code_of (M := tn_m74) rfl (by decide +kernel) rfl rfl
theorem kc_74_95 : am_code tn_G 74 95 = some (.iconst 1, 1, 0) := am_code_of (M := tn_m74) rfl (by decide +kernel) rfl rfl
theorem kc_74_96 : am_code tn_G 74 96 = some (.iadd, 1, 0) := am_code_of (M := tn_m74) rfl (by decide +kernel) rfl rfl
theorem kc_74_97 : am_code tn_G 74 97 = some (.putfield 87, 3, 0) := am_code_of (M := tn_m74) rfl (by decide +kernel) rfl rfl
theorem kc_74_100 : am_code tn_G 74 100 = some (.aload_n 0, 1, 0) := am_code_of (M := tn_m74) rfl (by decide +kernel) rfl rfl
theorem kc_74_101 : am_code tn_G 74 101 = some (.getfield 87, 3, 0) := am_code_of (M := tn_m74) rfl (by decide +kernel) rfl rfl
theorem kc_74_104 : am_code tn_G 74 104 = some (.ireturn, 1, 0) := am_code_of (M := tn_m74) rfl (by decide +kernel) rfl rfl
-- 75: TermNetModel.back()I
theorem kl_75 : am_ml tn_G 75 = 2 := rfl
theorem ko_75 : am_oc tn_G 75 = 5 := rfl
theorem kn_75 : am_nc tn_G 75 = 0 := rfl
theorem kr_75 : am_rt tn_G 75 = 1 := rfl
theorem kc_75_0 : am_code tn_G 75 0 = some (.aload_n 0, 1, 0) := am_code_of (M := tn_m75) rfl (by decide +kernel) rfl rfl
theorem kc_75_1 : am_code tn_G 75 1 = some (.aload_n 0, 1, 0) := am_code_of (M := tn_m75) rfl (by decide +kernel) rfl rfl
theorem kc_75_2 : am_code tn_G 75 2 = some (.getfield 87, 3, 0) := am_code_of (M := tn_m75) rfl (by decide +kernel) rfl rfl
theorem kf_75_87 : am_fld tn_G 75 87 = some (5, 5) := by decide +kernel
theorem kc_75_5 : am_code tn_G 75 5 = some (.ifCond .ne 7, 3, 12) := am_code_of (M := tn_m75) rfl (by decide +kernel) rfl (by decide +kernel)
theorem kc_75_8 : am_code tn_G 75 8 = some (.iconst 1, 1, 0) := am_code_of (M := tn_m75) rfl (by decide +kernel) rfl rfl
theorem kc_75_9 : am_code tn_G 75 9 = some (.goto 4, 3, 13) := am_code_of (M := tn_m75) rfl (by decide +kernel) rfl (by decide +kernel)
theorem kc_75_12 : am_code tn_G 75 12 = some (.iconst 0, 1, 0) := am_code_of (M := tn_m75) rfl (by decide +kernel) rfl rfl
theorem kc_75_13 : am_code tn_G 75 13 = some (.putfield 50, 3, 0) := am_code_of (M := tn_m75) rfl (by decide +kernel) rfl rfl
theorem kf_75_50 : am_fld tn_G 75 50 = some (5, 7) := by decide +kernel
theorem kc_75_16 : am_code tn_G 75 16 = some (.aload_n 0, 1, 0) := am_code_of (M := tn_m75) rfl (by decide +kernel) rfl rfl
theorem kc_75_17 : am_code tn_G 75 17 = some (.getfield 50, 3, 0) := am_code_of (M := tn_m75) rfl (by decide +kernel) rfl rfl
theorem kc_75_20 : am_code tn_G 75 20 = some (.ifCond .le 5, 3, 25) := am_code_of (M := tn_m75) rfl (by decide +kernel) rfl (by decide +kernel)
theorem kc_75_23 : am_code tn_G 75 23 = some (.iconst 0, 1, 0) := am_code_of (M := tn_m75) rfl (by decide +kernel) rfl rfl
theorem kc_75_24 : am_code tn_G 75 24 = some (.ireturn, 1, 0) := am_code_of (M := tn_m75) rfl (by decide +kernel) rfl rfl
theorem kc_75_25 : am_code tn_G 75 25 = some (.aload_n 0, 1, 0) := am_code_of (M := tn_m75) rfl (by decide +kernel) rfl rfl
theorem kc_75_26 : am_code tn_G 75 26 = some (.dup, 1, 0) := am_code_of (M := tn_m75) rfl (by decide +kernel) rfl rfl
theorem kc_75_27 : am_code tn_G 75 27 = some (.getfield 87, 3, 0) := am_code_of (M := tn_m75) rfl (by decide +kernel) rfl rfl
theorem kc_75_30 : am_code tn_G 75 30 = some (.iconst 1, 1, 0) := am_code_of (M := tn_m75) rfl (by decide +kernel) rfl rfl
theorem kc_75_31 : am_code tn_G 75 31 = some (.isub, 1, 0) := am_code_of (M := tn_m75) rfl (by decide +kernel) rfl rfl
theorem kc_75_32 : am_code tn_G 75 32 = some (.putfield 87, 3, 0) := am_code_of (M := tn_m75) rfl (by decide +kernel) rfl rfl
theorem kc_75_35 : am_code tn_G 75 35 = some (.aload_n 0, 1, 0) := am_code_of (M := tn_m75) rfl (by decide +kernel) rfl rfl
theorem kc_75_36 : am_code tn_G 75 36 = some (.aload_n 0, 1, 0) := am_code_of (M := tn_m75) rfl (by decide +kernel) rfl rfl
theorem kc_75_37 : am_code tn_G 75 37 = some (.getfield 25, 3, 0) := am_code_of (M := tn_m75) rfl (by decide +kernel) rfl rfl
theorem kf_75_25 : am_fld tn_G 75 25 = some (5, 10) := by decide +kernel
theorem kc_75_40 : am_code tn_G 75 40 = some (.aload_n 0, 1, 0) := am_code_of (M := tn_m75) rfl (by decide +kernel) rfl rfl
theorem kc_75_41 : am_code tn_G 75 41 = some (.getfield 87, 3, 0) := am_code_of (M := tn_m75) rfl (by decide +kernel) rfl rfl
theorem kc_75_44 : am_code tn_G 75 44 = some (.iaload, 1, 0) := am_code_of (M := tn_m75) rfl (by decide +kernel) rfl rfl
theorem kc_75_45 : am_code tn_G 75 45 = some (.putfield 54, 3, 0) := am_code_of (M := tn_m75) rfl (by decide +kernel) rfl rfl
theorem kf_75_54 : am_fld tn_G 75 54 = some (5, 4) := by decide +kernel
theorem kc_75_48 : am_code tn_G 75 48 = some (.aload_n 0, 1, 0) := am_code_of (M := tn_m75) rfl (by decide +kernel) rfl rfl
theorem kc_75_49 : am_code tn_G 75 49 = some (.aload_n 0, 1, 0) := am_code_of (M := tn_m75) rfl (by decide +kernel) rfl rfl
theorem kc_75_50 : am_code tn_G 75 50 = some (.getfield 28, 3, 0) := am_code_of (M := tn_m75) rfl (by decide +kernel) rfl rfl
theorem kf_75_28 : am_fld tn_G 75 28 = some (5, 11) := by decide +kernel
theorem kc_75_53 : am_code tn_G 75 53 = some (.aload_n 0, 1, 0) := am_code_of (M := tn_m75) rfl (by decide +kernel) rfl rfl
theorem kc_75_54 : am_code tn_G 75 54 = some (.getfield 87, 3, 0) := am_code_of (M := tn_m75) rfl (by decide +kernel) rfl rfl
theorem kc_75_57 : am_code tn_G 75 57 = some (.iaload, 1, 0) := am_code_of (M := tn_m75) rfl (by decide +kernel) rfl rfl
theorem kc_75_58 : am_code tn_G 75 58 = some (.putfield 80, 3, 0) := am_code_of (M := tn_m75) rfl (by decide +kernel) rfl rfl
theorem kf_75_80 : am_fld tn_G 75 80 = some (5, 6) := by decide +kernel
theorem kc_75_61 : am_code tn_G 75 61 = some (.iconst 0, 1, 0) := am_code_of (M := tn_m75) rfl (by decide +kernel) rfl rfl
theorem kc_75_62 : am_code tn_G 75 62 = some (.istore_n 1, 1, 0) := am_code_of (M := tn_m75) rfl (by decide +kernel) rfl rfl
theorem kc_75_63 : am_code tn_G 75 63 = some (.iload_n 1, 1, 0) := am_code_of (M := tn_m75) rfl (by decide +kernel) rfl rfl
theorem kc_75_64 : am_code tn_G 75 64 = some (.aload_n 0, 1, 0) := am_code_of (M := tn_m75) rfl (by decide +kernel) rfl rfl
theorem kc_75_65 : am_code tn_G 75 65 = some (.getfield 54, 3, 0) := am_code_of (M := tn_m75) rfl (by decide +kernel) rfl rfl
theorem kc_75_68 : am_code tn_G 75 68 = some (.if_icmp .ge 30, 3, 98) := am_code_of (M := tn_m75) rfl (by decide +kernel) rfl (by decide +kernel)
theorem kc_75_71 : am_code tn_G 75 71 = some (.aload_n 0, 1, 0) := am_code_of (M := tn_m75) rfl (by decide +kernel) rfl rfl
theorem kc_75_72 : am_code tn_G 75 72 = some (.getfield 19, 3, 0) := am_code_of (M := tn_m75) rfl (by decide +kernel) rfl rfl
theorem kf_75_19 : am_fld tn_G 75 19 = some (5, 8) := by decide +kernel
theorem kc_75_75 : am_code tn_G 75 75 = some (.iload_n 1, 1, 0) := am_code_of (M := tn_m75) rfl (by decide +kernel) rfl rfl
theorem kc_75_76 : am_code tn_G 75 76 = some (.aload_n 0, 1, 0) := am_code_of (M := tn_m75) rfl (by decide +kernel) rfl rfl
theorem kc_75_77 : am_code tn_G 75 77 = some (.getfield 31, 3, 0) := am_code_of (M := tn_m75) rfl (by decide +kernel) rfl rfl
theorem kf_75_31 : am_fld tn_G 75 31 = some (5, 12) := by decide +kernel
theorem kc_75_80 : am_code tn_G 75 80 = some (.sipush 400, 3, 0) := am_code_of (M := tn_m75) rfl (by decide +kernel) rfl rfl
theorem kc_75_83 : am_code tn_G 75 83 = some (.aload_n 0, 1, 0) := am_code_of (M := tn_m75) rfl (by decide +kernel) rfl rfl
theorem kc_75_84 : am_code tn_G 75 84 = some (.getfield 87, 3, 0) := am_code_of (M := tn_m75) rfl (by decide +kernel) rfl rfl
theorem kc_75_87 : am_code tn_G 75 87 = some (.imul, 1, 0) := am_code_of (M := tn_m75) rfl (by decide +kernel) rfl rfl
theorem kc_75_88 : am_code tn_G 75 88 = some (.iload_n 1, 1, 0) := am_code_of (M := tn_m75) rfl (by decide +kernel) rfl rfl
theorem kc_75_89 : am_code tn_G 75 89 = some (.iadd, 1, 0) := am_code_of (M := tn_m75) rfl (by decide +kernel) rfl rfl
theorem kc_75_90 : am_code tn_G 75 90 = some (.iaload, 1, 0) := am_code_of (M := tn_m75) rfl (by decide +kernel) rfl rfl
theorem kc_75_91 : am_code tn_G 75 91 = some (.iastore, 1, 0) := am_code_of (M := tn_m75) rfl (by decide +kernel) rfl rfl
theorem kc_75_92 : am_code tn_G 75 92 = some (.iinc 1 1, 3, 0) := am_code_of (M := tn_m75) rfl (by decide +kernel) rfl rfl
theorem kc_75_95 : am_code tn_G 75 95 = some (.goto (-32), 3, 63) := am_code_of (M := tn_m75) rfl (by decide +kernel) rfl (by decide +kernel)
theorem kc_75_98 : am_code tn_G 75 98 = some (.aload_n 0, 1, 0) := am_code_of (M := tn_m75) rfl (by decide +kernel) rfl rfl
theorem kc_75_99 : am_code tn_G 75 99 = some (.getfield 87, 3, 0) := am_code_of (M := tn_m75) rfl (by decide +kernel) rfl rfl
theorem kc_75_102 : am_code tn_G 75 102 = some (.ireturn, 1, 0) := am_code_of (M := tn_m75) rfl (by decide +kernel) rfl rfl
-- 76: TermNetModel.count(I)I
theorem kl_76 : am_ml tn_G 76 = 6 := rfl
theorem ko_76 : am_oc tn_G 76 = 5 := rfl
theorem kn_76 : am_nc tn_G 76 = 0 := rfl
theorem kr_76 : am_rt tn_G 76 = 1 := rfl
theorem kc_76_0 : am_code tn_G 76 0 = some (.aload_n 0, 1, 0) := am_code_of (M := tn_m76) rfl (by decide +kernel) rfl rfl
theorem kc_76_1 : am_code tn_G 76 1 = some (.iconst 0, 1, 0) := am_code_of (M := tn_m76) rfl (by decide +kernel) rfl rfl
theorem kc_76_2 : am_code tn_G 76 2 = some (.putfield 50, 3, 0) := am_code_of (M := tn_m76) rfl (by decide +kernel) rfl rfl
theorem kf_76_50 : am_fld tn_G 76 50 = some (5, 7) := by decide +kernel
theorem kc_76_5 : am_code tn_G 76 5 = some (.aload_n 0, 1, 0) := am_code_of (M := tn_m76) rfl (by decide +kernel) rfl rfl
theorem kc_76_6 : am_code tn_G 76 6 = some (.aload_n 0, 1, 0) := am_code_of (M := tn_m76) rfl (by decide +kernel) rfl rfl
theorem kc_76_7 : am_code tn_G 76 7 = some (.getfield 19, 3, 0) := am_code_of (M := tn_m76) rfl (by decide +kernel) rfl rfl
theorem kf_76_19 : am_fld tn_G 76 19 = some (5, 8) := by decide +kernel
theorem kc_76_10 : am_code tn_G 76 10 = some (.invokevirtual 77, 3, 0) := am_code_of (M := tn_m76) rfl (by decide +kernel) rfl rfl
theorem ka_76_77 : am_cal tn_G 76 77 = some (0, 64, 1) := by decide +kernel
theorem kc_76_13 : am_code tn_G 76 13 = some (.istore_n 2, 1, 0) := am_code_of (M := tn_m76) rfl (by decide +kernel) rfl rfl
theorem kc_76_14 : am_code tn_G 76 14 = some (.iconst 0, 1, 0) := am_code_of (M := tn_m76) rfl (by decide +kernel) rfl rfl
theorem kc_76_15 : am_code tn_G 76 15 = some (.istore_n 3, 1, 0) := am_code_of (M := tn_m76) rfl (by decide +kernel) rfl rfl
theorem kc_76_16 : am_code tn_G 76 16 = some (.iconst 0, 1, 0) := am_code_of (M := tn_m76) rfl (by decide +kernel) rfl rfl
theorem kc_76_17 : am_code tn_G 76 17 = some (.istore 4, 2, 0) := am_code_of (M := tn_m76) rfl (by decide +kernel) rfl rfl
theorem kc_76_19 : am_code tn_G 76 19 = some (.iconst 0, 1, 0) := am_code_of (M := tn_m76) rfl (by decide +kernel) rfl rfl
theorem kc_76_20 : am_code tn_G 76 20 = some (.istore 5, 2, 0) := am_code_of (M := tn_m76) rfl (by decide +kernel) rfl rfl
theorem kc_76_22 : am_code tn_G 76 22 = some (.iload 5, 2, 0) := am_code_of (M := tn_m76) rfl (by decide +kernel) rfl rfl
theorem kc_76_24 : am_code tn_G 76 24 = some (.aload_n 0, 1, 0) := am_code_of (M := tn_m76) rfl (by decide +kernel) rfl rfl
theorem kc_76_25 : am_code tn_G 76 25 = some (.getfield 54, 3, 0) := am_code_of (M := tn_m76) rfl (by decide +kernel) rfl rfl
theorem kf_76_54 : am_fld tn_G 76 54 = some (5, 4) := by decide +kernel
theorem kc_76_28 : am_code tn_G 76 28 = some (.if_icmp .ge 40, 3, 68) := am_code_of (M := tn_m76) rfl (by decide +kernel) rfl (by decide +kernel)
theorem kc_76_31 : am_code tn_G 76 31 = some (.aload_n 0, 1, 0) := am_code_of (M := tn_m76) rfl (by decide +kernel) rfl rfl
theorem kc_76_32 : am_code tn_G 76 32 = some (.getfield 19, 3, 0) := am_code_of (M := tn_m76) rfl (by decide +kernel) rfl rfl
theorem kc_76_35 : am_code tn_G 76 35 = some (.iload 5, 2, 0) := am_code_of (M := tn_m76) rfl (by decide +kernel) rfl rfl
theorem kc_76_37 : am_code tn_G 76 37 = some (.iaload, 1, 0) := am_code_of (M := tn_m76) rfl (by decide +kernel) rfl rfl
theorem kc_76_38 : am_code tn_G 76 38 = some (.iload 5, 2, 0) := am_code_of (M := tn_m76) rfl (by decide +kernel) rfl rfl
theorem kc_76_40 : am_code tn_G 76 40 = some (.if_icmp .eq 6, 3, 46) := am_code_of (M := tn_m76) rfl (by decide +kernel) rfl (by decide +kernel)
theorem kc_76_43 : am_code tn_G 76 43 = some (.goto 19, 3, 62) := am_code_of (M := tn_m76) rfl (by decide +kernel) rfl (by decide +kernel)
theorem kc_76_46 : am_code tn_G 76 46 = some (.iinc 3 1, 3, 0) := am_code_of (M := tn_m76) rfl (by decide +kernel) rfl rfl
theorem kc_76_49 : am_code tn_G 76 49 = some (.aload_n 0, 1, 0) := am_code_of (M := tn_m76) rfl (by decide +kernel) rfl rfl
theorem kc_76_50 : am_code tn_G 76 50 = some (.getfield 34, 3, 0) := am_code_of (M := tn_m76) rfl (by decide +kernel) rfl rfl
theorem kf_76_34 : am_fld tn_G 76 34 = some (5, 13) := by decide +kernel
theorem kc_76_53 : am_code tn_G 76 53 = some (.iload 5, 2, 0) := am_code_of (M := tn_m76) rfl (by decide +kernel) rfl rfl
theorem kc_76_55 : am_code tn_G 76 55 = some (.iaload, 1, 0) := am_code_of (M := tn_m76) rfl (by decide +kernel) rfl rfl
theorem kc_76_56 : am_code tn_G 76 56 = some (.ifCond .lt 6, 3, 62) := am_code_of (M := tn_m76) rfl (by decide +kernel) rfl (by decide +kernel)
theorem kc_76_59 : am_code tn_G 76 59 = some (.iinc 4 1, 3, 0) := am_code_of (M := tn_m76) rfl (by decide +kernel) rfl rfl
theorem kc_76_62 : am_code tn_G 76 62 = some (.iinc 5 1, 3, 0) := am_code_of (M := tn_m76) rfl (by decide +kernel) rfl rfl
theorem kc_76_65 : am_code tn_G 76 65 = some (.goto (-43), 3, 22) := am_code_of (M := tn_m76) rfl (by decide +kernel) rfl (by decide +kernel)
theorem kc_76_68 : am_code tn_G 76 68 = some (.iload_n 1, 1, 0) := am_code_of (M := tn_m76) rfl (by decide +kernel) rfl rfl
theorem kc_76_69 : am_code tn_G 76 69 = some (.tableswitch 64 0 5 #[39, 44, 49, 54, 59, 61], 39, 133) := am_code_of (M := tn_m76) rfl (by decide +kernel) rfl (by decide +kernel)
theorem kc_76_108 : am_code tn_G 76 108 = some (.aload_n 0, 1, 0) := am_code_of (M := tn_m76) rfl (by decide +kernel) rfl rfl
theorem kc_76_109 : am_code tn_G 76 109 = some (.getfield 57, 3, 0) := am_code_of (M := tn_m76) rfl (by decide +kernel) rfl rfl
theorem kf_76_57 : am_fld tn_G 76 57 = some (5, 3) := by decide +kernel
theorem kc_76_112 : am_code tn_G 76 112 = some (.ireturn, 1, 0) := am_code_of (M := tn_m76) rfl (by decide +kernel) rfl rfl
theorem kc_76_113 : am_code tn_G 76 113 = some (.aload_n 0, 1, 0) := am_code_of (M := tn_m76) rfl (by decide +kernel) rfl rfl
theorem kc_76_114 : am_code tn_G 76 114 = some (.getfield 54, 3, 0) := am_code_of (M := tn_m76) rfl (by decide +kernel) rfl rfl
theorem kc_76_117 : am_code tn_G 76 117 = some (.ireturn, 1, 0) := am_code_of (M := tn_m76) rfl (by decide +kernel) rfl rfl
theorem kc_76_118 : am_code tn_G 76 118 = some (.aload_n 0, 1, 0) := am_code_of (M := tn_m76) rfl (by decide +kernel) rfl rfl
theorem kc_76_119 : am_code tn_G 76 119 = some (.getfield 87, 3, 0) := am_code_of (M := tn_m76) rfl (by decide +kernel) rfl rfl
theorem kf_76_87 : am_fld tn_G 76 87 = some (5, 5) := by decide +kernel
theorem kc_76_122 : am_code tn_G 76 122 = some (.ireturn, 1, 0) := am_code_of (M := tn_m76) rfl (by decide +kernel) rfl rfl
theorem kc_76_123 : am_code tn_G 76 123 = some (.aload_n 0, 1, 0) := am_code_of (M := tn_m76) rfl (by decide +kernel) rfl rfl
theorem kc_76_124 : am_code tn_G 76 124 = some (.getfield 80, 3, 0) := am_code_of (M := tn_m76) rfl (by decide +kernel) rfl rfl
theorem kf_76_80 : am_fld tn_G 76 80 = some (5, 6) := by decide +kernel
theorem kc_76_127 : am_code tn_G 76 127 = some (.ireturn, 1, 0) := am_code_of (M := tn_m76) rfl (by decide +kernel) rfl rfl
theorem kc_76_128 : am_code tn_G 76 128 = some (.iload_n 3, 1, 0) := am_code_of (M := tn_m76) rfl (by decide +kernel) rfl rfl
theorem kc_76_129 : am_code tn_G 76 129 = some (.ireturn, 1, 0) := am_code_of (M := tn_m76) rfl (by decide +kernel) rfl rfl
theorem kc_76_130 : am_code tn_G 76 130 = some (.iload 4, 2, 0) := am_code_of (M := tn_m76) rfl (by decide +kernel) rfl rfl
theorem kc_76_132 : am_code tn_G 76 132 = some (.ireturn, 1, 0) := am_code_of (M := tn_m76) rfl (by decide +kernel) rfl rfl
theorem kc_76_133 : am_code tn_G 76 133 = some (.iconst (-1), 1, 0) := am_code_of (M := tn_m76) rfl (by decide +kernel) rfl rfl
theorem kc_76_134 : am_code tn_G 76 134 = some (.ireturn, 1, 0) := am_code_of (M := tn_m76) rfl (by decide +kernel) rfl rfl
end
section
/-! PURE: partitions by their least members; what closes them; histories of merges. No machine here. sg t: the sign of t, none for an unknown; ar s: parts of a sign; pt t k: part k of t. -/
def pu_Part (n : Nat) (g : Nat → Nat) : Prop := ∀ t, t < n → g t ≤ t ∧ g (g t) = g t
def pu_le (n : Nat) (g g' : Nat → Nat) : Prop := ∀ i j, i < n → j < n → g i = g j → g' i = g' j
theorem pu_Part.lt {n : Nat} {g : Nat → Nat} (h : pu_Part n g) {t : Nat} (ht : t < n) : g t < n := Nat.lt_of_le_of_lt (h t ht).1 ht
theorem pu_eq_of_le {n : Nat} {g g' : Nat → Nat} (h : pu_Part n g) (h' : pu_Part n g') (a : pu_le n g g') (b : pu_le n g' g) : ∀ t, t < n → g t = g' t := by
  intro t ht
  have lt1 := h.lt ht
  have lt2 := h'.lt ht
  have e1 : g' (g t) = g' t := a _ _ lt1 ht (h t ht).2
  have e2 : g (g' t) = g t := b _ _ lt2 ht (h' t ht).2
  have l1 : g' t ≤ g t := by rw [← e1]; exact (h' _ lt1).1
  have l2 : g t ≤ g' t := by rw [← e2]; exact (h _ lt2).1
  omega
def pu_np (sg : Nat → Option Nat) (ar : Nat → Nat) (t : Nat) : Nat := match sg t with
  | none => 0
  | some s => ar s
theorem pu_np_eq {sg : Nat → Option Nat} {ar : Nat → Nat} {i j : Nat} (h : sg i = sg j) : pu_np sg ar i = pu_np sg ar j := by unfold pu_np; rw [h]
def pu_Told (n : Nat) (sg : Nat → Option Nat) (ar : Nat → Nat) (pt : Nat → Nat → Nat) : Prop := ∀ t, t < n → ∀ k, k < pu_np sg ar t → pt t k < t
/-- one sign, parts in one group each -/
def pu_E (sg : Nat → Option Nat) (ar : Nat → Nat) (pt : Nat → Nat → Nat) (g : Nat → Nat) (i j : Nat) : Prop := sg i = sg j ∧ ∀ k, k < pu_np sg ar i → g (pt i k) = g (pt j k)
section PUE
variable {sg : Nat → Option Nat} {ar : Nat → Nat} {pt : Nat → Nat → Nat} {g g' : Nat → Nat} {n : Nat}
theorem pu_E.rfl' {i : Nat} : pu_E sg ar pt g i i := ⟨rfl, fun _ _ => rfl⟩
theorem pu_E.symm {i j : Nat} (h : pu_E sg ar pt g i j) : pu_E sg ar pt g j i := ⟨h.1.symm, fun k hk => (h.2 k (by rw [pu_np_eq h.1]; exact hk)).symm⟩
theorem pu_E.trans {i j k : Nat} (h : pu_E sg ar pt g i j) (h2 : pu_E sg ar pt g j k) : pu_E sg ar pt g i k := ⟨h.1.trans h2.1, fun q hq => (h.2 q hq).trans (h2.2 q (by rw [← pu_np_eq h.1]; exact hq))⟩
theorem pu_E.coarse (hT : pu_Told n sg ar pt) (hle : pu_le n g g') {i j : Nat} (hi : i < n) (hj : j < n) (h : pu_E sg ar pt g i j) : pu_E sg ar pt g' i j :=
  ⟨h.1, fun k hk => hle _ _ (Nat.lt_trans (hT i hi k hk) hi) (Nat.lt_trans (hT j hj k (by rw [← pu_np_eq h.1]; exact hk)) hj) (h.2 k hk)⟩
end PUE
/-- groups have one sign, and parts in one group -/
def pu_U (n : Nat) (sg : Nat → Option Nat) (ar : Nat → Nat) (pt : Nat → Nat → Nat) (g : Nat → Nat) : Prop := ∀ i j, i < n → j < n → sg i ≠ none → sg j ≠ none → g i = g j → pu_E sg ar pt g i j
/-- twins are in one group -/
def pu_Cg (n : Nat) (sg : Nat → Option Nat) (ar : Nat → Nat) (pt : Nat → Nat → Nat) (g : Nat → Nat) : Prop := ∀ i j, i < n → j < n → sg i ≠ none → pu_E sg ar pt g i j → g i = g j
/-- no group lies below itself -/
def pu_A (n : Nat) (sg : Nat → Option Nat) (ar : Nat → Nat) (pt : Nat → Nat → Nat) (g : Nat → Nat) : Prop := ∃ rk : Nat → Nat, ∀ t, t < n → ∀ k, k < pu_np sg ar t → rk (g (pt t k)) < rk (g t)
def pu_Good (n : Nat) (sg : Nat → Option Nat) (ar : Nat → Nat) (pt : Nat → Nat → Nat) (g : Nat → Nat) : Prop := pu_Part n g ∧ pu_U n sg ar pt g ∧ pu_Cg n sg ar pt g ∧ pu_A n sg ar pt g
/-- a closed partition, coarser than g0, that has a and b in one group -/
def pu_Clo (n : Nat) (sg : Nat → Option Nat) (ar : Nat → Nat) (pt : Nat → Nat → Nat) (g0 : Nat → Nat) (a b : Nat) (g : Nat → Nat) : Prop := pu_Part n g ∧ pu_U n sg ar pt g ∧ pu_Cg n sg ar pt g ∧ pu_le n g0 g ∧ g a = g b
/-- the finest one, and no group lies below itself -/
def pu_Res (n : Nat) (sg : Nat → Option Nat) (ar : Nat → Nat) (pt : Nat → Nat → Nat) (g0 : Nat → Nat) (a b : Nat) (g : Nat → Nat) : Prop := pu_Clo n sg ar pt g0 a b g ∧ pu_A n sg ar pt g ∧ ∀ g', pu_Clo n sg ar pt g0 a b g' → pu_le n g g'
theorem pu_Res.unique {n : Nat} {sg : Nat → Option Nat} {ar : Nat → Nat} {pt : Nat → Nat → Nat} {g0 g g' : Nat → Nat} {a b : Nat} (h : pu_Res n sg ar pt g0 a b g) (h' : pu_Res n sg ar pt g0 a b g') : ∀ t, t < n → g t = g' t :=
  pu_eq_of_le h.1.1 h'.1.1 (h.2.2 g' h'.1) (h'.2.2 g h.1)
theorem pu_A.fine {n : Nat} {sg : Nat → Option Nat} {ar : Nat → Nat} {pt : Nat → Nat → Nat} {g g' : Nat → Nat} (hT : pu_Told n sg ar pt) (hg : pu_Part n g) (hle : pu_le n g g') (h : pu_A n sg ar pt g') : pu_A n sg ar pt g := by
  obtain ⟨rk, hrk⟩ := h
  refine ⟨fun x => rk (g' x), fun t ht k hk => ?_⟩
  have hp : pt t k < n := Nat.lt_trans (hT t ht k hk) ht
  have e1 : g' (g (pt t k)) = g' (pt t k) := hle _ _ (hg.lt hp) hp (hg _ hp).2
  have e2 : g' (g t) = g' t := hle _ _ (hg.lt ht) ht (hg _ ht).2
  show rk (g' (g (pt t k))) < rk (g' (g t))
  rw [e1, e2]
  exact hrk t ht k hk
/-! Histories, the latest merge first: (w, l), the group of l has gone to w. -/
def pu_hg : List (Nat × Nat) → Nat → Nat
  | [], t => t
  | q :: hs, t => if pu_hg hs t = q.2 then q.1 else pu_hg hs t
/-- every merge was one of two leaders, the lesser has won -/
def pu_V (n : Nat) : List (Nat × Nat) → Prop
  | [] => True
  | q :: hs => q.1 < q.2 ∧ q.2 < n ∧ pu_hg hs q.1 = q.1 ∧ pu_hg hs q.2 = q.2 ∧ pu_V n hs
/-- the rings: each term's next -/
def pu_hr : List (Nat × Nat) → Nat → Nat
  | [], t => t
  | q :: hs, t => if t = q.1 then pu_hr hs q.2 else if t = q.2 then pu_hr hs q.1 else pu_hr hs t
/-- the shapes -/
def pu_hs (sg : Nat → Option Nat) : List (Nat × Nat) → Nat → Option Nat
  | [], t => if sg t = none then none else some t
  | q :: hs, t => if t = q.1 then (match pu_hs sg hs q.1 with
    | none => pu_hs sg hs q.2
    | some x => some x) else pu_hs sg hs t
/-- a leader's ring, but itself -/
def pu_ht : List (Nat × Nat) → Nat → List Nat
  | [], _ => []
  | q :: hs, a => if a = q.1 then pu_ht hs q.2 ++ q.2 :: pu_ht hs q.1 else pu_ht hs a
theorem pu_hg_part : ∀ {hs : List (Nat × Nat)} {n : Nat}, pu_V n hs → ∀ t, pu_hg hs t ≤ t ∧ pu_hg hs (pu_hg hs t) = pu_hg hs t
  | [], _, _, t => ⟨Nat.le_refl _, rfl⟩
  | q :: hs, n, h, t => by
    obtain ⟨h1, h2, h3, h4, h5⟩ := h
    obtain ⟨i1, i2⟩ := pu_hg_part h5 t
    by_cases e : pu_hg hs t = q.2
    · have ht : pu_hg (q :: hs) t = q.1 := by simp only [pu_hg]; rw [if_pos e]
      rw [ht]
      refine ⟨by omega, ?_⟩
      simp only [pu_hg]
      rw [h3, if_neg (by omega)]
    · have ht : pu_hg (q :: hs) t = pu_hg hs t := by simp only [pu_hg]; rw [if_neg e]
      rw [ht]
      refine ⟨i1, ?_⟩
      simp only [pu_hg]
      rw [i2, if_neg e]
theorem pu_V.part {hs : List (Nat × Nat)} {n : Nat} (h : pu_V n hs) : pu_Part n (pu_hg hs) := fun t _ => pu_hg_part h t
theorem pu_V.mono : ∀ {hs : List (Nat × Nat)} {n n' : Nat}, n ≤ n' → pu_V n hs → pu_V n' hs
  | [], _, _, _, _ => trivial
  | _ :: _, _, _, hn, h => ⟨h.1, Nat.lt_of_lt_of_le h.2.1 hn, h.2.2.1, h.2.2.2.1, pu_V.mono hn h.2.2.2.2⟩
theorem pu_V.drop {n : Nat} : ∀ {hs : List (Nat × Nat)} (k : Nat), pu_V n hs → pu_V n (hs.drop k)
  | [], k, _ => by rw [List.drop_nil]; trivial
  | q :: hs, 0, h => h
  | q :: hs, k + 1, h => pu_V.drop (hs := hs) k h.2.2.2.2
theorem pu_hg_new : ∀ {hs : List (Nat × Nat)} {n : Nat}, pu_V n hs → ∀ t, n ≤ t → pu_hg hs t = t
  | [], _, _, _, _ => rfl
  | q :: hs, n, h, t, ht => by
    have i := pu_hg_new h.2.2.2.2 t ht
    have := h.2.1
    simp only [pu_hg]
    rw [i, if_neg (by omega)]
theorem pu_hr_new : ∀ {hs : List (Nat × Nat)} {n : Nat}, pu_V n hs → ∀ t, n ≤ t → pu_hr hs t = t
  | [], _, _, _, _ => rfl
  | q :: hs, n, h, t, ht => by
    have i := pu_hr_new h.2.2.2.2 t ht
    have h1 := h.1
    have h2 := h.2.1
    simp only [pu_hr]
    rw [if_neg (by omega), if_neg (by omega)]
    exact i
theorem pu_hs_new (sg : Nat → Option Nat) : ∀ {hs : List (Nat × Nat)} {n : Nat}, pu_V n hs → ∀ t, n ≤ t → pu_hs sg hs t = if sg t = none then none else some t
  | [], _, _, _, _ => rfl
  | q :: hs, n, h, t, ht => by
    have i := pu_hs_new sg h.2.2.2.2 t ht
    have h1 := h.1
    have h2 := h.2.1
    simp only [pu_hs]
    rw [if_neg (by omega)]
    exact i
/-- coarser and coarser -/
theorem pu_hg_le {hs : List (Nat × Nat)} {q : Nat × Nat} {i j : Nat} (h : pu_hg hs i = pu_hg hs j) : pu_hg (q :: hs) i = pu_hg (q :: hs) j := by
  simp only [pu_hg, h]
/-- a chain of r from x through L to e -/
def pu_ch (r : Nat → Nat) : Nat → List Nat → Nat → Prop
  | x, [], e => r x = e
  | x, y :: L, e => r x = y ∧ pu_ch r y L e
theorem pu_ch_app {r : Nat → Nat} {z e : Nat} {B : List Nat} : ∀ {x : Nat} {A : List Nat}, pu_ch r x A z → pu_ch r z B e → pu_ch r x (A ++ z :: B) e
  | _, [], h, h2 => ⟨h, h2⟩
  | _, _ :: _, h, h2 => ⟨h.1, pu_ch_app h.2 h2⟩
/-- the first link from elsewhere, the others as they were -/
theorem pu_ch_from {r r' : Nat → Nat} {e : Nat} : ∀ {L : List Nat} {x x' : Nat}, pu_ch r x L e → r' x' = r x → (∀ y ∈ L, r' y = r y) → pu_ch r' x' L e
  | [], _, _, h, h1, _ => h1.trans h
  | y :: L, _, _, h, h1, h2 => ⟨h1.trans h.1, pu_ch_from h.2 (h2 y List.mem_cons_self) (fun z hz => h2 z (List.mem_cons_of_mem _ hz))⟩
/-- a leader's ring: a cycle, each of its members once, just its group -/
theorem pu_ring : ∀ {hs : List (Nat × Nat)} {n : Nat}, pu_V n hs → ∀ a, pu_hg hs a = a → pu_ch (pu_hr hs) a (pu_ht hs a) a ∧ (a :: pu_ht hs a).Nodup ∧ ∀ t, t ∈ a :: pu_ht hs a ↔ pu_hg hs t = a
  | [], _, _, a, _ => ⟨rfl, by simp [pu_ht], fun t => by simp [pu_ht, pu_hg]⟩
  | q :: hs, n, h, a, ha => by
    obtain ⟨w, l⟩ := q
    obtain ⟨h1, h2, h3, h4, h5⟩ := h
    simp only at h1 h2 h3 h4
    obtain ⟨c1, d1, m1⟩ := pu_ring h5 w h3
    obtain ⟨c2, d2, m2⟩ := pu_ring h5 l h4
    have hga : pu_hg hs a ≠ l := by
      intro e
      simp only [pu_hg, e, if_true] at ha
      subst ha
      omega
    have hga2 : pu_hg hs a = a := by
      simp only [pu_hg, if_neg hga] at ha
      exact ha
    have old : ∀ y, y ≠ w → y ≠ l → pu_hr ((w, l) :: hs) y = pu_hr hs y := fun y y1 y2 => by simp only [pu_hr, if_neg y1, if_neg y2]
    have inW : ∀ y, y ∈ pu_ht hs w → y ≠ w ∧ y ≠ l := fun y hy => by
      refine ⟨fun e => (List.nodup_cons.mp d1).1 (e ▸ hy), fun e => ?_⟩
      have := (m1 y).mp (List.mem_cons_of_mem _ hy)
      rw [e, h4] at this
      omega
    have inL : ∀ y, y ∈ pu_ht hs l → y ≠ w ∧ y ≠ l := fun y hy => by
      refine ⟨fun e => ?_, fun e => (List.nodup_cons.mp d2).1 (e ▸ hy)⟩
      have := (m2 y).mp (List.mem_cons_of_mem _ hy)
      rw [e, h3] at this
      omega
    by_cases haw : a = w
    · subst haw
      have hT : pu_ht ((a, l) :: hs) a = pu_ht hs l ++ l :: pu_ht hs a := by simp only [pu_ht, if_true]
      rw [hT]
      refine ⟨?_, ?_, fun t => ?_⟩
      · refine pu_ch_app (pu_ch_from c2 (by simp only [pu_hr, if_true]) (fun y hy => old y (inL y hy).1 (inL y hy).2)) (pu_ch_from c1 (by simp only [pu_hr]; rw [if_neg (by omega), if_pos trivial]) (fun y hy => old y (inW y hy).1 (inW y hy).2))
      · rw [List.nodup_cons, List.nodup_append]
        have n1 := List.nodup_cons.mp d1
        have n2 := List.nodup_cons.mp d2
        refine ⟨?_, n2.2, ?_, ?_⟩
        · rw [List.mem_append, List.mem_cons]
          rintro (z | z | z)
          · exact (inL a z).1 rfl
          · omega
          · exact n1.1 z
        · rw [List.nodup_cons]
          exact ⟨fun z => (inW l z).2 rfl, n1.2⟩
        · intro x hx y hy e
          subst e
          rcases List.mem_cons.mp hy with z | z
          · exact (inL x hx).2 z
          · have e1 := (m2 x).mp (List.mem_cons_of_mem _ hx)
            have e2 := (m1 x).mp (List.mem_cons_of_mem _ z)
            omega
      · have k1 := m1 t
        have k2 := m2 t
        simp only [List.mem_cons] at k1 k2
        simp only [List.mem_cons, List.mem_append, pu_hg]
        by_cases e : pu_hg hs t = l
        · rw [if_pos e]
          have := k2.mpr e
          constructor
          · intro _; rfl
          · intro _
            rcases this with z | z
            · exact Or.inr (Or.inr (Or.inl z))
            · exact Or.inr (Or.inl z)
        · rw [if_neg e]
          have ne := fun z => e (k2.mp z)
          constructor
          · rintro (z | z | z | z)
            · exact k1.mp (Or.inl z)
            · exact absurd (Or.inr z) ne
            · exact absurd (Or.inl z) ne
            · exact k1.mp (Or.inr z)
          · intro z
            rcases k1.mpr z with y | y
            · exact Or.inl y
            · exact Or.inr (Or.inr (Or.inr y))
    · have hal : a ≠ l := fun e => hga (by rw [hga2, e])
      obtain ⟨c3, d3, m3⟩ := pu_ring h5 a hga2
      have hT : pu_ht ((w, l) :: hs) a = pu_ht hs a := by simp only [pu_ht, if_neg haw]
      rw [hT]
      have inA : ∀ y, y ∈ pu_ht hs a → y ≠ w ∧ y ≠ l := fun y hy => by
        have e := (m3 y).mp (List.mem_cons_of_mem _ hy)
        refine ⟨fun z => haw ?_, fun z => hal ?_⟩
        · rw [z, h3] at e; exact e.symm
        · rw [z, h4] at e; exact e.symm
      refine ⟨pu_ch_from c3 (old a haw hal) (fun y hy => old y (inA y hy).1 (inA y hy).2), d3, fun t => ?_⟩
      rw [m3 t]
      simp only [pu_hg]
      by_cases e : pu_hg hs t = l
      · rw [if_pos e, e]
        exact ⟨fun z => absurd z.symm hal, fun z => absurd z.symm haw⟩
      · rw [if_neg e]
/-- a leader's shape: a term with a sign of its group; none only if it has none -/
theorem pu_shape (sg : Nat → Option Nat) : ∀ {hs : List (Nat × Nat)} {n : Nat}, pu_V n hs → ∀ a, pu_hg hs a = a → (∀ x, pu_hs sg hs a = some x → pu_hg hs x = a ∧ sg x ≠ none) ∧ (pu_hs sg hs a = none → ∀ t, pu_hg hs t = a → sg t = none)
  | [], _, _, a, _ => by
    refine ⟨fun x hx => ?_, fun hn t ht => ?_⟩
    · simp only [pu_hs] at hx
      by_cases e : sg a = none
      · rw [if_pos e] at hx; cases hx
      · rw [if_neg e] at hx
        cases hx
        exact ⟨rfl, e⟩
    · simp only [pu_hg] at ht
      subst ht
      simp only [pu_hs] at hn
      by_cases e : sg t = none
      · exact e
      · rw [if_neg e] at hn; cases hn
  | q :: hs, n, h, a, ha => by
    obtain ⟨w, l⟩ := q
    obtain ⟨h1, h2, h3, h4, h5⟩ := h
    simp only at h1 h2 h3 h4
    obtain ⟨sw, nw⟩ := pu_shape sg h5 w h3
    obtain ⟨sl, nl⟩ := pu_shape sg h5 l h4
    have hga : pu_hg hs a ≠ l := by
      intro e
      simp only [pu_hg, e, if_true] at ha
      subst ha
      omega
    have hga2 : pu_hg hs a = a := by
      simp only [pu_hg, if_neg hga] at ha
      exact ha
    by_cases haw : a = w
    · subst haw
      refine ⟨fun x hx => ?_, fun hn t ht => ?_⟩
      · simp only [pu_hs, if_true] at hx
        cases hsw : pu_hs sg hs a with
        | none =>
          rw [hsw] at hx
          obtain ⟨e1, e2⟩ := sl x hx
          refine ⟨?_, e2⟩
          simp only [pu_hg, e1, if_true]
        | some y =>
          rw [hsw] at hx
          cases hx
          obtain ⟨e1, e2⟩ := sw x hsw
          refine ⟨?_, e2⟩
          simp only [pu_hg, e1]
          rw [if_neg (by omega)]
      · simp only [pu_hs, if_true] at hn
        cases hsw : pu_hs sg hs a with
        | some y => rw [hsw] at hn; cases hn
        | none =>
          rw [hsw] at hn
          simp only [pu_hg] at ht
          by_cases e : pu_hg hs t = l
          · exact nl hn t e
          · rw [if_neg e] at ht
            exact nw hsw t ht
    · have hal : a ≠ l := fun e => hga (by rw [hga2, e])
      obtain ⟨sa, na⟩ := pu_shape sg h5 a hga2
      refine ⟨fun x hx => ?_, fun hn t ht => ?_⟩
      · simp only [pu_hs, if_neg haw] at hx
        obtain ⟨e1, e2⟩ := sa x hx
        refine ⟨?_, e2⟩
        simp only [pu_hg, e1]
        rw [if_neg hal]
      · simp only [pu_hs, if_neg haw] at hn
        simp only [pu_hg] at ht
        by_cases e : pu_hg hs t = l
        · rw [if_pos e] at ht
          exact absurd ht.symm haw
        · rw [if_neg e] at ht
          exact na hn t ht
end
section
/-! PURE: joins, and how the parts of what was joined are settled. -/
def pu_jn (hs : List (Nat × Nat)) (a b : Nat) : List (Nat × Nat) := if pu_hg hs a = pu_hg hs b then hs else if pu_hg hs a < pu_hg hs b then (pu_hg hs a, pu_hg hs b) :: hs else (pu_hg hs b, pu_hg hs a) :: hs
theorem pu_jn_V {n : Nat} {hs : List (Nat × Nat)} {a b : Nat} (h : pu_V n hs) (ha : a < n) (hb : b < n) : pu_V n (pu_jn hs a b) := by
  unfold pu_jn
  have pa := pu_hg_part h a
  have pb := pu_hg_part h b
  by_cases e : pu_hg hs a = pu_hg hs b
  · rw [if_pos e]; exact h
  · rw [if_neg e]
    by_cases l : pu_hg hs a < pu_hg hs b
    · rw [if_pos l]; exact ⟨l, by show pu_hg hs b < n; omega, pa.2, pb.2, h⟩
    · rw [if_neg l]; exact ⟨by show pu_hg hs b < pu_hg hs a; omega, by show pu_hg hs a < n; omega, pb.2, pa.2, h⟩
theorem pu_jn_eq {n : Nat} {hs : List (Nat × Nat)} (h : pu_V n hs) (a b : Nat) : pu_hg (pu_jn hs a b) a = pu_hg (pu_jn hs a b) b := by
  unfold pu_jn
  by_cases e : pu_hg hs a = pu_hg hs b
  · rw [if_pos e]; exact e
  · rw [if_neg e]
    by_cases l : pu_hg hs a < pu_hg hs b
    · rw [if_pos l]
      simp only [pu_hg, if_true]
      rw [if_neg e]
    · rw [if_neg l]
      simp only [pu_hg, if_true]
      rw [if_neg (fun z => e z.symm)]
theorem pu_jn_le {hs : List (Nat × Nat)} {a b i j : Nat} (h : pu_hg hs i = pu_hg hs j) : pu_hg (pu_jn hs a b) i = pu_hg (pu_jn hs a b) j := by
  unfold pu_jn
  split
  · exact h
  · split <;> exact pu_hg_le h
/-- a join goes no further than it must -/
theorem pu_jn_min {n : Nat} {hs : List (Nat × Nat)} (h : pu_V n hs) {g' : Nat → Nat} (hle : pu_le n (pu_hg hs) g') {a b : Nat} (ha : a < n) (hb : b < n) (e : g' a = g' b) : pu_le n (pu_hg (pu_jn hs a b)) g' := by
  have hP := h.part
  have ga : g' (pu_hg hs a) = g' a := hle _ _ (hP.lt ha) ha (hP a ha).2
  have gb : g' (pu_hg hs b) = g' b := hle _ _ (hP.lt hb) hb (hP b hb).2
  have key : ∀ w l : Nat, w < n → l < n → pu_hg hs w = w → pu_hg hs l = l → g' w = g' l → pu_le n (pu_hg ((w, l) :: hs)) g' := by
    intro w l hw hl ew el ewl i j hi hj hij
    have gi : g' (pu_hg hs i) = g' i := hle _ _ (hP.lt hi) hi (hP i hi).2
    have gj : g' (pu_hg hs j) = g' j := hle _ _ (hP.lt hj) hj (hP j hj).2
    simp only [pu_hg] at hij
    by_cases ei : pu_hg hs i = l <;> by_cases ej : pu_hg hs j = l
    · exact hle i j hi hj (ei.trans ej.symm)
    · rw [if_pos ei, if_neg ej] at hij
      rw [← gi, ← gj, ei, ← hij, ewl]
    · rw [if_neg ei, if_pos ej] at hij
      rw [← gi, ← gj, ej, hij, ewl]
    · rw [if_neg ei, if_neg ej] at hij
      exact hle i j hi hj hij
  unfold pu_jn
  by_cases e0 : pu_hg hs a = pu_hg hs b
  · rw [if_pos e0]; exact hle
  · rw [if_neg e0]
    by_cases l : pu_hg hs a < pu_hg hs b
    · rw [if_pos l]
      exact key _ _ (hP.lt ha) (hP.lt hb) (hP a ha).2 (hP b hb).2 (by rw [ga, gb, e])
    · rw [if_neg l]
      exact key _ _ (hP.lt hb) (hP.lt ha) (hP b hb).2 (hP a ha).2 (by rw [ga, gb, e])
/-- a shape, kept or not, is of the group -/
theorem pu_shape_of (sg : Nat → Option Nat) : ∀ {hs : List (Nat × Nat)} {n : Nat}, pu_V n hs → ∀ t x, pu_hs sg hs t = some x → pu_hg hs x = pu_hg hs t ∧ sg x ≠ none
  | [], _, _, t, x, hx => by
    simp only [pu_hs] at hx
    by_cases e : sg t = none
    · rw [if_pos e] at hx; cases hx
    · rw [if_neg e] at hx
      cases hx
      exact ⟨rfl, e⟩
  | q :: hs, n, h, t, x, hx => by
    obtain ⟨w, l⟩ := q
    obtain ⟨h1, h2, h3, h4, h5⟩ := h
    simp only at h1 h2 h3 h4
    simp only [pu_hs] at hx
    by_cases e : t = w
    · subst e
      rw [if_pos rfl] at hx
      cases hsw : pu_hs sg hs t with
      | none =>
        rw [hsw] at hx
        obtain ⟨e1, e2⟩ := pu_shape_of sg h5 l x hx
        refine ⟨?_, e2⟩
        simp only [pu_hg, e1, h4, h3, if_true]
        rw [if_neg (by omega)]
      | some y =>
        rw [hsw] at hx
        cases hx
        obtain ⟨e1, e2⟩ := pu_shape_of sg h5 t x hsw
        exact ⟨pu_hg_le e1, e2⟩
    · rw [if_neg e] at hx
      obtain ⟨e1, e2⟩ := pu_shape_of sg h5 t x hx
      exact ⟨pu_hg_le e1, e2⟩
/-- who has lost leads no more -/
theorem pu_lost : ∀ {hs : List (Nat × Nat)} {n : Nat}, pu_V n hs → ∀ q ∈ hs, pu_hg hs q.2 < q.2
  | [], _, _, q, hq => by cases hq
  | p :: hs, n, h, q, hq => by
    obtain ⟨h1, h2, h3, h4, h5⟩ := h
    rcases List.mem_cons.mp hq with e | hq
    · subst e
      simp only [pu_hg, h4, if_true]
      exact h1
    · have i := pu_lost h5 q hq
      simp only [pu_hg]
      by_cases e : pu_hg hs q.2 = p.2
      · rw [if_pos e]; omega
      · rw [if_neg e]; exact i
/-- what becomes of a term with a sign: it matches its group's shape, or that of a merge still to be looked at (from i on) -/
def pu_Lk (sg : Nat → Option Nat) (ar : Nat → Nat) (pt : Nat → Nat → Nat) (i : Nat) (hs : List (Nat × Nat)) (u : Nat) : Prop :=
  (∃ c, pu_hs sg hs (pu_hg hs u) = some c ∧ pu_E sg ar pt (pu_hg hs) u c) ∨
  ∃ (j : Nat) (q : Nat × Nat) (x : Nat), i ≤ j ∧ hs.reverse[j]? = some q ∧ pu_hs sg hs q.2 = some x ∧ pu_hg hs x = pu_hg hs u ∧ pu_E sg ar pt (pu_hg hs) u x
section PUS
variable {sg : Nat → Option Nat} {ar : Nat → Nat} {pt : Nat → Nat → Nat} {n : Nat}
theorem pu_shape_lt {hs : List (Nat × Nat)} (h : pu_V n hs) {t x : Nat} (ht : t < n) (hx : pu_hs sg hs t = some x) : x < n := by
  have e := (pu_shape_of sg h t x hx).1
  apply Nat.lt_of_not_le
  intro hn
  have h1 := pu_hg_new h x hn
  have h2 := (pu_hg_part h t).1
  omega
theorem pu_Lk_push (hT : pu_Told n sg ar pt) {hs : List (Nat × Nat)} {q : Nat × Nat} (h : pu_V n (q :: hs)) {i u : Nat} (hu : u < n) (hi : i ≤ hs.length) (hk : pu_Lk sg ar pt i hs u) : pu_Lk sg ar pt i (q :: hs) u := by
  obtain ⟨w, l⟩ := q
  obtain ⟨h1, h2, h3, h4, h5⟩ := id h
  simp only at h1 h2 h3 h4
  have hle : pu_le n (pu_hg hs) (pu_hg ((w, l) :: hs)) := fun i j _ _ e => pu_hg_le e
  have hgu : pu_hg hs u < n := h5.part.lt hu
  rcases hk with ⟨c, hc, hE⟩ | ⟨j, q, x, hj, hq, hx, hgx, hE⟩
  · have hcn : c < n := pu_shape_lt h5 hgu hc
    have hE' := hE.coarse hT hle hu hcn
    have hcg := (pu_shape_of sg h5 _ c hc).1
    rw [(pu_hg_part h5 u).2] at hcg
    by_cases e : pu_hg hs u = l
    · right
      refine ⟨hs.length, (w, l), c, hi, ?_, ?_, pu_hg_le hcg, hE'⟩
      · rw [List.reverse_cons, List.getElem?_append_right (by simp)]
        simp
      · simp only [pu_hs]
        rw [if_neg (by omega), ← e]
        exact hc
    · left
      refine ⟨c, ?_, hE'⟩
      have hgu' : pu_hg ((w, l) :: hs) u = pu_hg hs u := by simp only [pu_hg]; rw [if_neg e]
      rw [hgu']
      simp only [pu_hs]
      by_cases e2 : pu_hg hs u = w
      · rw [if_pos e2, ← e2, hc]
      · rw [if_neg e2]; exact hc
  · right
    have hxn : x < n := by
      apply Nat.lt_of_not_le
      intro hn
      have k1 := pu_hg_new h5 x hn
      omega
    refine ⟨j, q, x, hj, ?_, ?_, pu_hg_le hgx, hE.coarse hT hle hu hxn⟩
    · rw [List.reverse_cons, List.getElem?_append_left (List.getElem?_eq_some_iff.mp hq).1]
      exact hq
    · simp only [pu_hs]
      have hm : q ∈ hs := List.mem_reverse.mp (List.mem_of_getElem? hq)
      have hlt := pu_lost h5 q hm
      rw [if_neg]
      · exact hx
      · intro e
        rw [e, h3] at hlt
        omega
theorem pu_Lk_jn (hT : pu_Told n sg ar pt) {hs : List (Nat × Nat)} {a b : Nat} (h : pu_V n hs) (ha : a < n) (hb : b < n) {i u : Nat} (hu : u < n) (hi : i ≤ hs.length) (hk : pu_Lk sg ar pt i hs u) : pu_Lk sg ar pt i (pu_jn hs a b) u := by
  have hV := pu_jn_V h ha hb
  unfold pu_jn at hV ⊢
  split at hV
  · rename_i e; rw [if_pos e]; exact hk
  · rename_i e
    rw [if_neg e]
    split at hV
    · rename_i e2; rw [if_pos e2]; exact pu_Lk_push hT hV hu hi hk
    · rename_i e2; rw [if_neg e2]; exact pu_Lk_push hT hV hu hi hk
theorem pu_jn_len {hs : List (Nat × Nat)} {a b : Nat} : hs.length ≤ (pu_jn hs a b).length := by
  unfold pu_jn
  split
  · exact Nat.le_refl _
  · split <;> simp
theorem pu_jn_suf {hs : List (Nat × Nat)} {a b : Nat} : ∃ ns, pu_jn hs a b = ns ++ hs := by
  unfold pu_jn
  split
  · exact ⟨[], rfl⟩
  · split
    · exact ⟨[_], rfl⟩
    · exact ⟨[_], rfl⟩
/-- the state of settling, with the merges up to i looked at -/
def pu_SI (n : Nat) (sg : Nat → Option Nat) (ar : Nat → Nat) (pt : Nat → Nat → Nat) (hs0 : List (Nat × Nat)) (a b i : Nat) (hs : List (Nat × Nat)) : Prop :=
  pu_V n hs ∧ (∃ ns, hs = ns ++ hs0) ∧ i ≤ hs.length ∧ hs0.length ≤ i ∧ (∀ u, u < n → sg u ≠ none → pu_Lk sg ar pt i hs u) ∧
  (∀ g', pu_Part n g' → pu_U n sg ar pt g' → pu_le n (pu_hg hs0) g' → g' a = g' b → pu_le n (pu_hg hs) g') ∧ pu_hg hs a = pu_hg hs b
theorem pu_SI_0 (hT : pu_Told n sg ar pt) {hs0 : List (Nat × Nat)} (h : pu_V n hs0) (hU : pu_U n sg ar pt (pu_hg hs0)) {a b : Nat} (ha : a < n) (hb : b < n) : pu_SI n sg ar pt hs0 a b hs0.length (pu_jn hs0 a b) := by
  refine ⟨pu_jn_V h ha hb, pu_jn_suf, pu_jn_len, Nat.le_refl _, fun u hu hsu => ?_, fun g' _ _ hle e => pu_jn_min h hle ha hb e, pu_jn_eq h a b⟩
  refine pu_Lk_jn hT h ha hb hu (Nat.le_refl _) (Or.inl ?_)
  have hl := (pu_hg_part h u).2
  obtain ⟨s1, s2⟩ := pu_shape sg h (pu_hg hs0 u) hl
  cases hc : pu_hs sg hs0 (pu_hg hs0 u) with
  | none => exact absurd (s2 hc u rfl) hsu
  | some c =>
    obtain ⟨e1, e2⟩ := s1 c hc
    exact ⟨c, rfl, hU u c hu (pu_shape_lt h (h.part.lt hu) hc) hsu e2 e1.symm⟩
theorem pu_SI_end {hs0 hs : List (Nat × Nat)} {a b : Nat} (h : pu_SI n sg ar pt hs0 a b hs.length hs) : pu_U n sg ar pt (pu_hg hs) := by
  obtain ⟨hV, -, -, -, hL, -⟩ := h
  have key : ∀ u, u < n → sg u ≠ none → ∃ c, pu_hs sg hs (pu_hg hs u) = some c ∧ pu_E sg ar pt (pu_hg hs) u c := by
    intro u hu hsu
    rcases hL u hu hsu with h1 | ⟨j, q, x, hj, hq, -⟩
    · exact h1
    · exfalso
      have := (List.getElem?_eq_some_iff.mp hq).1
      rw [List.length_reverse] at this
      omega
  intro i j hi hj hsi hsj e
  obtain ⟨c, hc, hE⟩ := key i hi hsi
  obtain ⟨d, hd, hE2⟩ := key j hj hsj
  rw [e, hd] at hc
  cases hc
  exact hE.trans hE2.symm
/-- a merge that has nothing to match -/
theorem pu_SI_skip {hs0 hs : List (Nat × Nat)} {a b i : Nat} (h : pu_SI n sg ar pt hs0 a b i hs) {q : Nat × Nat} (hq : hs.reverse[i]? = some q) (hz : pu_hs sg hs q.2 = none ∨ pu_hs sg hs q.2 = pu_hs sg hs (pu_hg hs q.2)) : pu_SI n sg ar pt hs0 a b (i + 1) hs := by
  obtain ⟨hV, hns, hi, h0, hL, hm, hab⟩ := h
  have hil : i < hs.length := by
    have := (List.getElem?_eq_some_iff.mp hq).1
    rwa [List.length_reverse] at this
  refine ⟨hV, hns, hil, by omega, fun u hu hsu => ?_, hm, hab⟩
  rcases hL u hu hsu with h1 | ⟨j, q', x, hj, hq', hx, hgx, hE⟩
  · exact Or.inl h1
  · by_cases e : j = i
    · subst e
      rw [hq] at hq'
      cases hq'
      rcases hz with hz | hz
      · rw [hz] at hx; cases hx
      · left
        refine ⟨x, ?_, hE⟩
        rw [← hgx, (pu_shape_of sg hV _ x hx).1, ← hz]
        exact hx
    · exact Or.inr ⟨j, q', x, by omega, hq', hx, hgx, hE⟩
/-- the shape of a loser's group is there, if the loser had one -/
theorem pu_common {hs : List (Nat × Nat)} (hV : pu_V n hs) {l x : Nat} (hx : pu_hs sg hs l = some x) : ∃ c, pu_hs sg hs (pu_hg hs l) = some c ∧ pu_hg hs c = pu_hg hs x ∧ sg c ≠ none := by
  obtain ⟨e1, e2⟩ := pu_shape_of sg hV l x hx
  obtain ⟨s1, s2⟩ := pu_shape sg hV (pu_hg hs l) (pu_hg_part hV l).2
  cases hc : pu_hs sg hs (pu_hg hs l) with
  | none => exact absurd (s2 hc x e1) e2
  | some c => exact ⟨c, rfl, (s1 c hc).1.trans e1.symm, (s1 c hc).2⟩
/-- the joins of the parts, one by one -/
def pu_jp (pt : Nat → Nat → Nat) (x c : Nat) : Nat → List (Nat × Nat) → List (Nat × Nat)
  | 0, hs => hs
  | k + 1, hs => pu_jn (pu_jp pt x c k hs) (pt x k) (pt c k)
theorem pu_jp_all (hT : pu_Told n sg ar pt) {hs : List (Nat × Nat)} (hV : pu_V n hs) {x c : Nat} (hx : x < n) (hc : c < n) (hs2 : sg x = sg c) : ∀ k, k ≤ pu_np sg ar x →
    pu_V n (pu_jp pt x c k hs) ∧ (∃ ns, pu_jp pt x c k hs = ns ++ hs) ∧ hs.length ≤ (pu_jp pt x c k hs).length ∧ (∀ i u, u < n → i ≤ hs.length → pu_Lk sg ar pt i hs u → pu_Lk sg ar pt i (pu_jp pt x c k hs) u) ∧ (∀ i j, pu_hg hs i = pu_hg hs j → pu_hg (pu_jp pt x c k hs) i = pu_hg (pu_jp pt x c k hs) j) ∧
    (∀ j, j < k → pu_hg (pu_jp pt x c k hs) (pt x j) = pu_hg (pu_jp pt x c k hs) (pt c j)) ∧ ∀ g', pu_Part n g' → pu_U n sg ar pt g' → pu_le n (pu_hg hs) g' → pu_E sg ar pt g' x c → pu_le n (pu_hg (pu_jp pt x c k hs)) g'
  | 0, _ => ⟨hV, ⟨[], rfl⟩, Nat.le_refl _, fun _ _ _ _ h => h, fun _ _ h => h, fun j hj => by omega, fun _ _ _ h _ => h⟩
  | k + 1, hk => by
    obtain ⟨v1, ⟨ns, v2⟩, v3, v4, v5, v6, v7⟩ := pu_jp_all hT hV hx hc hs2 k (by omega)
    have p1 : pt x k < n := Nat.lt_trans (hT x hx k (by omega)) hx
    have p2 : pt c k < n := Nat.lt_trans (hT c hc k (by rw [← pu_np_eq hs2]; omega)) hc
    simp only [pu_jp]
    refine ⟨pu_jn_V v1 p1 p2, ?_, Nat.le_trans v3 pu_jn_len, fun i u hu hi h => pu_Lk_jn hT v1 p1 p2 hu (Nat.le_trans hi v3) (v4 i u hu hi h), fun i j h => pu_jn_le (v5 i j h), fun j hj => ?_, fun g' q1 q2 q3 q4 => pu_jn_min v1 (v7 g' q1 q2 q3 q4) p1 p2 (q4.2 k (by omega))⟩
    · obtain ⟨m, hm⟩ := pu_jn_suf (hs := pu_jp pt x c k hs) (a := pt x k) (b := pt c k)
      exact ⟨m ++ ns, by rw [hm]; conv => lhs; rw [v2]
                         rw [List.append_assoc]⟩
    · by_cases e : j = k
      · subst e; exact pu_jn_eq v1 _ _
      · exact pu_jn_le (v6 j (by omega))
theorem pu_SI_step (hT : pu_Told n sg ar pt) {hs0 hs : List (Nat × Nat)} {a b i : Nat} (h : pu_SI n sg ar pt hs0 a b i hs) {q : Nat × Nat} (hq : hs.reverse[i]? = some q) {x c : Nat} (hx : pu_hs sg hs q.2 = some x) (hc : pu_hs sg hs (pu_hg hs q.2) = some c) (hs2 : sg x = sg c) : pu_SI n sg ar pt hs0 a b (i + 1) (pu_jp pt x c (pu_np sg ar x) hs) := by
  obtain ⟨hV, ⟨ns, hns⟩, hi, h0, hL, hm, hab⟩ := h
  have hil : i < hs.length := by
    have := (List.getElem?_eq_some_iff.mp hq).1
    rwa [List.length_reverse] at this
  have hqn : q.2 < n := by
    have key : ∀ {hs : List (Nat × Nat)}, pu_V n hs → ∀ q ∈ hs, q.2 < n := by
      intro hs
      induction hs with
      | nil => intro _ q hq; cases hq
      | cons p hs ih =>
        intro h q hq
        rcases List.mem_cons.mp hq with e | hq
        · subst e; exact h.2.1
        · exact ih h.2.2.2.2 q hq
    exact key hV q (List.mem_reverse.mp (List.mem_of_getElem? hq))
  have hxn := pu_shape_lt hV hqn hx
  have hcn := pu_shape_lt hV (hV.part.lt hqn) hc
  obtain ⟨ex, sx⟩ := pu_shape_of sg hV _ x hx
  obtain ⟨ec, sc⟩ := pu_shape_of sg hV _ c hc
  rw [(pu_hg_part hV q.2).2] at ec
  obtain ⟨v1, ⟨ms, v2⟩, v3, v4, v5, v6, v7⟩ := pu_jp_all hT hV hxn hcn hs2 (pu_np sg ar x) (Nat.le_refl _)
  have hxc : pu_E sg ar pt (pu_hg (pu_jp pt x c (pu_np sg ar x) hs)) x c := ⟨hs2, v6⟩
  refine ⟨v1, ⟨ms ++ ns, by rw [v2, hns, List.append_assoc]⟩, by omega, by omega, fun u hu hsu => ?_, fun g' q1 q2 q3 q4 => ?_, v5 _ _ hab⟩
  · have hlc : pu_Lk sg ar pt (i + 1) hs c := Or.inl ⟨c, by rw [ec]; exact hc, pu_E.rfl'⟩
    have hlc' := v4 (i + 1) c hcn hil hlc
    rcases v4 i u hu hi (hL u hu hsu) with h1 | ⟨j, q', y, hj, hq', hy, hgy, hE⟩
    · exact Or.inl h1
    · by_cases e : j = i
      · have hq2 : (pu_jp pt x c (pu_np sg ar x) hs).reverse[i]? = some q := by
          rw [v2, List.reverse_append, List.getElem?_append_left (List.getElem?_eq_some_iff.mp hq).1]
          exact hq
        subst e
        rw [hq2] at hq'
        cases hq'
        have hyx : y = x := by
          have keep : ∀ (hs : List (Nat × Nat)) (ms : List (Nat × Nat)), pu_V n (ms ++ hs) → q ∈ hs → pu_hs sg (ms ++ hs) q.2 = pu_hs sg hs q.2 := by
            intro hs ms
            induction ms with
            | nil => intro _ _; rfl
            | cons p ms ih =>
              intro hv hm
              have hv2 : pu_V n (ms ++ hs) := hv.2.2.2.2
              have hlt := pu_lost hv2 q (List.mem_append_right _ hm)
              have hp : pu_hg (ms ++ hs) p.1 = p.1 := hv.2.2.1
              show pu_hs sg (p :: (ms ++ hs)) q.2 = _
              simp only [pu_hs]
              rw [if_neg]
              · exact ih hv2 hm
              · intro e
                rw [e, hp] at hlt
                omega
          have := keep hs ms (by rw [← v2]; exact v1) (List.mem_reverse.mp (List.mem_of_getElem? hq))
          rw [← v2, hx] at this
          rw [this] at hy
          exact (Option.some.inj hy).symm
        subst hyx
        have huc : pu_E sg ar pt (pu_hg (pu_jp pt y c (pu_np sg ar y) hs)) u c := hE.trans hxc
        have hgc : pu_hg (pu_jp pt y c (pu_np sg ar y) hs) c = pu_hg (pu_jp pt y c (pu_np sg ar y) hs) u := by
          rw [← hgy]
          exact v5 _ _ (ec.trans ex.symm)
        rcases hlc' with ⟨d, hd, hE2⟩ | ⟨j2, q2, y2, hj2, hq2', hy2, hgy2, hE2⟩
        · left
          exact ⟨d, by rw [← hgc]; exact hd, huc.trans hE2⟩
        · right
          exact ⟨j2, q2, y2, hj2, hq2', hy2, hgy2.trans hgc, huc.trans hE2⟩
      · exact Or.inr ⟨j, q', y, by omega, hq', hy, hgy, hE⟩
  · have hle := hm g' q1 q2 q3 q4
    exact v7 g' q1 q2 hle (q2 x c hxn hcn sx sc (hle x c hxn hcn (ex.trans ec.symm)))
/-- two signs clash: nothing holds it -/
theorem pu_SI_clash {hs0 hs : List (Nat × Nat)} {a b i : Nat} (h : pu_SI n sg ar pt hs0 a b i hs) {l x c : Nat} (hl : l < n) (hx : pu_hs sg hs l = some x) (hc : pu_hs sg hs (pu_hg hs l) = some c) (hne : sg x ≠ sg c) (g' : Nat → Nat) (hg : pu_Clo n sg ar pt (pu_hg hs0) a b g') : False := by
  obtain ⟨hV, -, -, -, -, hm, -⟩ := h
  have hxn := pu_shape_lt hV hl hx
  have hcn := pu_shape_lt hV (hV.part.lt hl) hc
  obtain ⟨ex, sx⟩ := pu_shape_of sg hV _ x hx
  obtain ⟨ec, sc⟩ := pu_shape_of sg hV _ c hc
  rw [(pu_hg_part hV l).2] at ec
  have hle := hm g' hg.1 hg.2.1 hg.2.2.2.1 hg.2.2.2.2
  exact hne (hg.2.1 x c hxn hcn sx sc (hle x c hxn hcn (ex.trans ec.symm))).1
end PUS
end
section
/-! PURE: counting; a history is shorter than its terms. -/
def pu_cn (p : Nat → Bool) : Nat → Nat
  | 0 => 0
  | n + 1 => pu_cn p n + (if p n = true then 1 else 0)
theorem pu_cn_congr {p q : Nat → Bool} : ∀ {n : Nat}, (∀ t, t < n → p t = q t) → pu_cn p n = pu_cn q n
  | 0, _ => rfl
  | n + 1, h => by
    simp only [pu_cn]
    rw [pu_cn_congr (fun t ht => h t (by omega)), h n (by omega)]
theorem pu_cn_less {p q : Nat → Bool} {l : Nat} (hp : p l = true) (hq : q l = false) (he : ∀ t, t ≠ l → q t = p t) : ∀ {n : Nat}, (l < n → pu_cn q n + 1 = pu_cn p n) ∧ (n ≤ l → pu_cn q n = pu_cn p n)
  | 0 => ⟨fun h => by omega, fun _ => rfl⟩
  | n + 1 => by
    obtain ⟨i1, i2⟩ := pu_cn_less hp hq he (n := n)
    simp only [pu_cn]
    refine ⟨fun h => ?_, fun h => ?_⟩
    · by_cases e : n = l
      · subst e
        rw [i2 (Nat.le_refl _), hp, hq]
        simp
      · have := i1 (by omega)
        rw [he n e]
        omega
    · rw [i2 (by omega), he n (by omega)]
theorem pu_cn_le {p : Nat → Bool} : ∀ {n : Nat}, pu_cn p n ≤ n
  | 0 => Nat.le_refl _
  | n + 1 => by
    have := pu_cn_le (p := p) (n := n)
    simp only [pu_cn]
    split <;> omega
theorem pu_cn_all {p : Nat → Bool} : ∀ {n : Nat}, (∀ t, t < n → p t = true) → pu_cn p n = n
  | 0, _ => rfl
  | n + 1, h => by
    simp only [pu_cn]
    rw [pu_cn_all (fun t ht => h t (by omega)), h n (by omega)]
    simp
theorem pu_cn_pos {p : Nat → Bool} {l : Nat} (hp : p l = true) : ∀ {n : Nat}, l < n → 0 < pu_cn p n
  | 0, h => by omega
  | n + 1, h => by
    simp only [pu_cn]
    by_cases e : n = l
    · subst e
      rw [hp]
      simp
    · have := pu_cn_pos hp (n := n) (by omega)
      omega
/-- leaders and merges -/
theorem pu_ld : ∀ {hs : List (Nat × Nat)} {n : Nat}, pu_V n hs → pu_cn (fun t => decide (pu_hg hs t = t)) n + hs.length = n
  | [], n, _ => by
    rw [pu_cn_all (fun t _ => by simp [pu_hg])]
    rfl
  | (w, l) :: hs, n, h => by
    obtain ⟨h1, h2, h3, h4, h5⟩ := h
    simp only at h1 h2 h3 h4
    have ih := pu_ld h5
    have key := (pu_cn_less (p := fun t => decide (pu_hg hs t = t)) (q := fun t => decide (pu_hg ((w, l) :: hs) t = t)) (l := l) (by simp [h4]) (by simp only [pu_hg, h4, if_true, decide_eq_false_iff_not]; omega) (fun t ht => by
      simp only [pu_hg]
      by_cases e : pu_hg hs t = l
      · have a1 : ¬ w = t := fun q => by rw [← q, h3] at e; omega
        have a2 : ¬ pu_hg hs t = t := fun q => ht (q.symm.trans e)
        rw [if_pos e]
        simp [a1, a2]
      · rw [if_neg e]) (n := n)).1 h2
    simp only [List.length_cons]
    omega
theorem pu_len {hs : List (Nat × Nat)} {n : Nat} (h : pu_V n hs) (hn : 0 < n) : hs.length < n := by
  have h1 := pu_ld h
  have h2 := pu_cn_pos (p := fun t => decide (pu_hg hs t = t)) (l := 0) (by
    have := (pu_hg_part h 0).1
    simp only [decide_eq_true_eq]
    omega) hn
  omega
theorem pu_len0 {hs : List (Nat × Nat)} {n : Nat} (h : pu_V n hs) : hs.length ≤ n := by
  have h1 := pu_ld h
  omega
/-- a list of different numbers below n is no longer than n -/
theorem pu_nd_len : ∀ {n : Nat} {L : List Nat}, L.Nodup → (∀ y ∈ L, y < n) → L.length ≤ n
  | 0, [], _, _ => Nat.le_refl _
  | 0, y :: _, _, h => absurd (h y List.mem_cons_self) (by omega)
  | n + 1, L, hd, h => by
    have h1 := pu_nd_len (n := n) (L := L.filter (fun y => decide (y ≠ n))) (hd.filter _) (fun y hy => by
      obtain ⟨a, b⟩ := List.mem_filter.mp hy
      have := h y a
      simp only [decide_eq_true_eq] at b
      omega)
    have h2 : ∀ {L : List Nat}, L.Nodup → L.length ≤ (L.filter (fun y => decide (y ≠ n))).length + 1 := by
      intro L
      induction L with
      | nil => intro _; simp
      | cons z L ih =>
        intro hd
        obtain ⟨a, b⟩ := List.nodup_cons.mp hd
        by_cases e : z = n
        · subst e
          have hf : L.filter (fun y => decide (y ≠ z)) = L := by
            apply List.filter_eq_self.mpr
            intro y hy
            simp only [decide_eq_true_eq]
            exact fun q => a (q ▸ hy)
          rw [List.filter_cons_of_neg (by simp), hf]
          simp
        · rw [List.filter_cons_of_pos (by simp [e])]
          have := ih b
          simp only [List.length_cons]
          omega
    have := h2 hd
    omega
end
section
/-! PURE: a walk in depth. deg x: how many parts a group has; ch x k: its part k. P: the path, its end first; O: what is done, the latest first; tr: parts tried. R: a property that goes down. -/
def pu_top (deg : Nat → Nat) (ch : Nat → Nat → Nat) : List Nat → Prop
  | [] => True
  | x :: O => (∀ k, k < deg x → ch x k ∈ O) ∧ pu_top deg ch O
def pu_pth (deg : Nat → Nat) (ch : Nat → Nat → Nat) (O : List Nat) (tr : Nat → Nat) : Option Nat → List Nat → Prop
  | _, [] => True
  | up, x :: P => tr x ≤ deg x ∧ (∀ k, k < tr x → ch x k ∈ O ∨ up = some (ch x k)) ∧ (∀ c, up = some c → ∃ k, k < deg x ∧ ch x k = c) ∧ pu_pth deg ch O tr (some x) P
def pu_DS (n : Nat) (deg : Nat → Nat) (ch : Nat → Nat → Nat) (R : Nat → Prop) (P O : List Nat) (tr : Nat → Nat) : Prop :=
  (P ++ O).Nodup ∧ (∀ x ∈ P ++ O, x < n ∧ R x) ∧ pu_top deg ch O ∧ pu_pth deg ch O tr none P
theorem pu_pth_more {deg : Nat → Nat} {ch : Nat → Nat → Nat} {O O' : List Nat} {tr tr' : Nat → Nat} (hO : ∀ x ∈ O, x ∈ O') : ∀ {P : List Nat} {up : Option Nat}, (∀ x ∈ P, tr' x = tr x) → pu_pth deg ch O tr up P → pu_pth deg ch O' tr' up P
  | [], _, _, _ => trivial
  | x :: P, up, ht, h => by
    obtain ⟨h1, h2, h3, h4⟩ := h
    have e := ht x List.mem_cons_self
    refine ⟨by rw [e]; exact h1, fun k hk => ?_, h3, pu_pth_more hO (fun y hy => ht y (List.mem_cons_of_mem _ hy)) h4⟩
    rcases h2 k (by rw [← e]; exact hk) with z | z
    · exact Or.inl (hO _ z)
    · exact Or.inr z
section PD
variable {n : Nat} {deg : Nat → Nat} {ch : Nat → Nat → Nat} {R : Nat → Prop} {P O : List Nat} {tr : Nat → Nat}
/-- down to a new one -/
theorem pu_DS.push {x c : Nat} (h : pu_DS n deg ch R (x :: P) O tr) (ht : tr x < deg x) (hc : ch x (tr x) = c) (hn : c < n) (hR : R c) (hP : c ∉ x :: P) (hO : c ∉ O) : pu_DS n deg ch R (c :: x :: P) O (fun y => if y = c then 0 else if y = x then tr x + 1 else tr y) := by
  obtain ⟨d1, d2, d3, d4, d5, d6, d7⟩ := h
  have hxc : x ≠ c := fun e => hP (by rw [← e]; exact List.mem_cons_self)
  have nd := List.nodup_append.mp d1
  have hxP : x ∉ P := (List.nodup_cons.mp nd.1).1
  refine ⟨?_, ?_, d3, ?_⟩
  · show (c :: (x :: P ++ O)).Nodup
    rw [List.nodup_cons]
    exact ⟨fun q => (List.mem_append.mp q).elim hP hO, d1⟩
  · intro y hy
    rcases List.mem_cons.mp hy with e | hy
    · subst e; exact ⟨hn, hR⟩
    · exact d2 y hy
  · refine ⟨by simp, fun k hk => by simp at hk, fun _ q => (by cases q), ?_, ?_, ?_, ?_⟩
    · simp only [if_neg hxc, if_true]; omega
    · intro k hk
      simp only [if_neg hxc, if_true] at hk
      by_cases e : k = tr x
      · right; rw [e, hc]
      · rcases d5 k (by omega) with z | z
        · exact Or.inl z
        · cases z
    · intro c' e
      cases e
      exact ⟨tr x, ht, hc⟩
    · refine pu_pth_more (fun _ z => z) (fun y hy => ?_) d7
      have h1 : y ≠ c := fun e => hP (by rw [← e]; exact List.mem_cons_of_mem _ hy)
      have h2 : y ≠ x := fun e => hxP (e ▸ hy)
      simp only [if_neg h1, if_neg h2]
/-- a part that is done -/
theorem pu_DS.skip {x c : Nat} (h : pu_DS n deg ch R (x :: P) O tr) (ht : tr x < deg x) (hc : ch x (tr x) = c) (hO : c ∈ O) : pu_DS n deg ch R (x :: P) O (fun y => if y = x then tr x + 1 else tr y) := by
  obtain ⟨d1, d2, d3, d4, d5, d6, d7⟩ := h
  have nd := List.nodup_append.mp d1
  have hxP : x ∉ P := (List.nodup_cons.mp nd.1).1
  refine ⟨d1, d2, d3, by simp only [if_true]; omega, fun k hk => ?_, d6, pu_pth_more (fun _ z => z) (fun y hy => ?_) d7⟩
  · simp only [if_true] at hk
    by_cases e : k = tr x
    · left; rw [e, hc]; exact hO
    · exact d5 k (by omega)
  · have h2 : y ≠ x := fun e => hxP (e ▸ hy)
    simp only [if_neg h2]
/-- all parts tried -/
theorem pu_DS.pop {x : Nat} (h : pu_DS n deg ch R (x :: P) O tr) (ht : deg x ≤ tr x) : pu_DS n deg ch R P (x :: O) tr := by
  obtain ⟨d1, d2, d3, d4, d5, d6, d7⟩ := h
  have all : ∀ k, k < deg x → ch x k ∈ O := fun k hk => by
    rcases d5 k (by omega) with z | z
    · exact z
    · cases z
  refine ⟨?_, ?_, ⟨all, d3⟩, ?_⟩
  · rw [List.cons_append, List.nodup_cons] at d1
    rw [List.nodup_append]
    have nd := List.nodup_append.mp d1.2
    refine ⟨nd.1, ?_, fun a ha b hb => ?_⟩
    · rw [List.nodup_cons]
      exact ⟨fun q => d1.1 (List.mem_append_right _ q), nd.2.1⟩
    · intro e
      subst e
      rcases List.mem_cons.mp hb with e | hb
      · subst e
        exact d1.1 (List.mem_append_left _ ha)
      · exact nd.2.2 a ha a hb rfl
  · intro y hy
    apply d2 y
    rcases List.mem_append.mp hy with q | q
    · exact List.mem_cons_of_mem _ (List.mem_append_left _ q)
    · rcases List.mem_cons.mp q with e | q
      · subst e; exact List.mem_cons_self
      · exact List.mem_cons_of_mem _ (List.mem_append_right _ q)
  · cases P with
    | nil => trivial
    | cons y P =>
      obtain ⟨e1, e2, e3, e4⟩ := d7
      refine ⟨e1, fun k hk => ?_, fun _ q => (by cases q), pu_pth_more (fun _ z => List.mem_cons_of_mem _ z) (fun _ _ => rfl) e4⟩
      left
      rcases e2 k hk with z | z
      · exact List.mem_cons_of_mem _ z
      · cases z
        exact List.mem_cons_self
/-- a path goes down in rank -/
theorem pu_pth_rk {rk : Nat → Nat} (hrk : ∀ x, x < n → ∀ k, k < deg x → rk (ch x k) < rk x) : ∀ {P : List Nat} {c : Nat}, (∀ x ∈ P, x < n) → pu_pth deg ch O tr (some c) P → ∀ y ∈ P, rk c < rk y
  | [], _, _, _, y, hy => by cases hy
  | x :: P, c, hn, h, y, hy => by
    obtain ⟨-, -, h3, h4⟩ := h
    obtain ⟨k, hk, e⟩ := h3 c rfl
    have l1 := hrk x (hn x List.mem_cons_self) k hk
    rw [e] at l1
    rcases List.mem_cons.mp hy with e2 | hy
    · subst e2; exact l1
    · exact Nat.lt_trans l1 (pu_pth_rk hrk (fun z hz => hn z (List.mem_cons_of_mem _ hz)) h4 y hy)
/-- a part on the path: no rank -/
theorem pu_DS.cyc {x : Nat} (h : pu_DS n deg ch R (x :: P) O tr) (ht : tr x < deg x) (hP : ch x (tr x) ∈ x :: P) (rk : Nat → Nat) (hrk : ∀ x, x < n → ∀ k, k < deg x → rk (ch x k) < rk x) : False := by
  obtain ⟨d1, d2, d3, d4, d5, d6, d7⟩ := h
  have hn : ∀ y ∈ x :: P, y < n := fun y hy => (d2 y (List.mem_append_left _ hy)).1
  have l1 := hrk x (hn x List.mem_cons_self) (tr x) ht
  rcases List.mem_cons.mp hP with e | hP
  · rw [e] at l1; omega
  · have := pu_pth_rk hrk (fun z hz => hn z (List.mem_cons_of_mem _ hz)) d7 _ hP
    omega
end PD
/-- sums, and what is still to be done -/
def pu_sm (f : Nat → Nat) : Nat → Nat
  | 0 => 0
  | n + 1 => pu_sm f n + f n
theorem pu_sm_congr {f g : Nat → Nat} : ∀ {n : Nat}, (∀ t, t < n → f t = g t) → pu_sm f n = pu_sm g n
  | 0, _ => rfl
  | n + 1, h => by
    simp only [pu_sm]
    rw [pu_sm_congr (fun t ht => h t (by omega)), h n (by omega)]
theorem pu_sm_dec {f g : Nat → Nat} {x : Nat} (he : ∀ t, t ≠ x → g t = f t) (hx : g x + 1 = f x) : ∀ {n : Nat}, x < n → pu_sm g n + 1 = pu_sm f n
  | 0, h => by omega
  | n + 1, h => by
    simp only [pu_sm]
    by_cases e : n = x
    · subst e
      rw [pu_sm_congr (fun t ht => he t (by omega))]
      omega
    · have := pu_sm_dec he hx (n := n) (by omega)
      rw [he n e]
      omega
theorem pu_sm_le {f : Nat → Nat} {b : Nat} : ∀ {n : Nat}, (∀ t, t < n → f t ≤ b) → pu_sm f n ≤ b * n
  | 0, _ => by simp [pu_sm]
  | n + 1, h => by
    have h1 := pu_sm_le (b := b) (n := n) (fun t ht => h t (by omega))
    have h2 := h n (by omega)
    simp only [pu_sm]
    rw [Nat.mul_succ]
    omega
theorem pu_sm_ge {f : Nat → Nat} {x : Nat} : ∀ {n : Nat}, x < n → f x ≤ pu_sm f n
  | 0, h => by omega
  | n + 1, h => by
    simp only [pu_sm]
    by_cases e : n = x
    · subst e; omega
    · have := pu_sm_ge (f := f) (n := n) (x := x) (by omega)
      omega
def pu_mw (deg : Nat → Nat) (P O : List Nat) (tr : Nat → Nat) (t : Nat) : Nat := if t ∈ O then 0 else if t ∈ P then deg t - tr t + 1 else deg t + 1
end
section
/-! how configurations are run by rewriting -/
def am_kk (G : am_G) (sh : List am_D) (n : Nat) (K : am_S → Option Value → am_C) (Q : am_Q) : am_Q := am_k Q (fun h r => am_R G sh n (K h r) Q)
theorem am_kk_l {G : am_G} {sh : List am_D} {n : Nat} {K : am_S → Option Value → am_C} {Q : am_Q} {h : am_S} {r : Option Value} : am_kk G sh n K Q h (.inl r) = am_R G sh n (K h r) Q := rfl
theorem am_kk_r {G : am_G} {sh : List am_D} {n : Nat} {K : am_S → Option Value → am_C} {Q : am_Q} {h : am_S} {E : String} : am_kk G sh n K Q h (.inr E) = Q h (.inr E) := rfl
def am_al (G : am_G) (sh : List am_D) (n : Nat) (Q : am_Q) : List (Prop × am_C) → Prop
  | [] => True
  | q :: r => (q.1 → am_R G sh n q.2 Q) ∧ am_al G sh n Q r
theorem am_al_eq {G : am_G} {sh : List am_D} {n : Nat} {Q : am_Q} : ∀ l : List (Prop × am_C), am_all (fun c' => am_R G sh n c' Q) l = am_al G sh n Q l
  | [] => rfl
  | q :: r => by simp only [am_all, am_al, am_al_eq r]
def am_g2 (G : am_G) (sh : List am_D) (n : Nat) (Q : am_Q) (x : Option am_N) : Prop := match x with
  | none => False
  | some (ob, .inl l) => ob ∧ am_al G sh n Q l
  | some (ob, .inr (.inl (c', K))) => ob ∧ am_AW G sh c' (am_kk G sh n K Q)
  | some (ob, .inr (.inr (h, o))) => ob ∧ Q h o
theorem am_Rs {G : am_G} {sh : List am_D} {n : Nat} {c : am_C} {Q : am_Q} : am_R G sh (n + 1) c Q = am_g2 G sh n Q (am_step G sh c) := by
  show am_go (am_AW G sh) (fun c' Q' => am_R G sh n c' Q') (am_step G sh c) Q = _
  match am_step G sh c with
  | none => rfl
  | some (ob, .inl l) => show (ob ∧ am_all (fun c' => am_R G sh n c' Q) l) = _; rw [am_al_eq]; rfl
  | some (ob, .inr (.inl (c', K))) => rfl
  | some (ob, .inr (.inr (h, o))) => rfl
theorem am_R0 {G : am_G} {sh : List am_D} {c : am_C} {Q : am_Q} : am_R G sh 0 c Q = am_AW G sh c Q := rfl
/-! the same, up to the next of some program counters -/
def am_mem : List Nat → Nat → Bool
  | [], _ => false
  | a :: l, p => if a = p then true else am_mem l p
def am_zn (G : am_G) (sh : List am_D) (S : List Nat) (F : am_C → am_Q → Prop) (c : am_C) (Q : am_Q) : Prop := if am_mem S c.2.1 = true then am_AW G sh c Q else F c Q
def am_Z (G : am_G) (sh : List am_D) (S : List Nat) : Nat → am_C → am_Q → Prop
  | 0, c, Q => am_AW G sh c Q
  | n + 1, c, Q => am_go (am_AW G sh) (fun c' Q' => am_zn G sh S (am_Z G sh S n) c' Q') (am_step G sh c) Q
theorem am_AW.go {G : am_G} {sh : List am_D} (S : List Nat) : ∀ (n : Nat) {c : am_C} {Q : am_Q}, am_Z G sh S n c Q → am_AW G sh c Q
  | 0, _, _, h => h
  | n + 1, _, _, h => am_AW.fold (am_go_le (am_AW_mono G sh) (fun _ _ q => q) (fun c' Q' q => by
      unfold am_zn at q
      split at q
      · exact q
      · exact am_AW.go S n q) h)
def am_kz (G : am_G) (sh : List am_D) (S : List Nat) (n : Nat) (K : am_S → Option Value → am_C) (Q : am_Q) : am_Q := am_k Q (fun h r => am_zn G sh S (am_Z G sh S n) (K h r) Q)
theorem am_kz_l {G : am_G} {sh : List am_D} {S : List Nat} {n : Nat} {K : am_S → Option Value → am_C} {Q : am_Q} {h : am_S} {r : Option Value} : am_kz G sh S n K Q h (.inl r) = am_zn G sh S (am_Z G sh S n) (K h r) Q := rfl
theorem am_kz_r {G : am_G} {sh : List am_D} {S : List Nat} {n : Nat} {K : am_S → Option Value → am_C} {Q : am_Q} {h : am_S} {E : String} : am_kz G sh S n K Q h (.inr E) = Q h (.inr E) := rfl
def am_a3 (G : am_G) (sh : List am_D) (S : List Nat) (n : Nat) (Q : am_Q) : List (Prop × am_C) → Prop
  | [] => True
  | q :: r => (q.1 → am_zn G sh S (am_Z G sh S n) q.2 Q) ∧ am_a3 G sh S n Q r
theorem am_a3_eq {G : am_G} {sh : List am_D} {S : List Nat} {n : Nat} {Q : am_Q} : ∀ l : List (Prop × am_C), am_all (fun c' => am_zn G sh S (am_Z G sh S n) c' Q) l = am_a3 G sh S n Q l
  | [] => rfl
  | q :: r => by simp only [am_all, am_a3, am_a3_eq r]
def am_g3 (G : am_G) (sh : List am_D) (S : List Nat) (n : Nat) (Q : am_Q) (x : Option am_N) : Prop := match x with
  | none => False
  | some (ob, .inl l) => ob ∧ am_a3 G sh S n Q l
  | some (ob, .inr (.inl (c', K))) => ob ∧ am_AW G sh c' (am_kz G sh S n K Q)
  | some (ob, .inr (.inr (h, o))) => ob ∧ Q h o
theorem am_Zs {G : am_G} {sh : List am_D} {S : List Nat} {n : Nat} {c : am_C} {Q : am_Q} : am_Z G sh S (n + 1) c Q = am_g3 G sh S n Q (am_step G sh c) := by
  show am_go (am_AW G sh) (fun c' Q' => am_zn G sh S (am_Z G sh S n) c' Q') (am_step G sh c) Q = _
  match am_step G sh c with
  | none => rfl
  | some (ob, .inl l) => show (ob ∧ am_all (fun c' => am_zn G sh S (am_Z G sh S n) c' Q) l) = _; rw [am_a3_eq]; rfl
  | some (ob, .inr (.inl (c', K))) => rfl
  | some (ob, .inr (.inr (h, o))) => rfl
theorem am_zn_1 {G : am_G} {sh : List am_D} {S : List Nat} {F : am_C → am_Q → Prop} {μ pc nc : Nat} {lo : List (Option Value)} {st : List Value} {h : am_S} {Q : am_Q} : am_zn G sh S F (μ, pc, nc, lo, st, h) Q = if am_mem S pc = true then am_AW G sh (μ, pc, nc, lo, st, h) Q else F (μ, pc, nc, lo, st, h) Q := rfl
theorem am_Z0 {G : am_G} {sh : List am_D} {S : List Nat} {c : am_C} {Q : am_Q} : am_Z G sh S 0 c Q = am_AW G sh c Q := rfl
/-! numbers in the code -/
theorem am_f0 : ((0 : Fin 4)).val = 0 := rfl
theorem am_f1 : ((1 : Fin 4)).val = 1 := rfl
theorem am_f2 : ((2 : Fin 4)).val = 2 := rfl
theorem am_f3 : ((3 : Fin 4)).val = 3 := rfl
theorem am_cm1 : Int32.ofInt (-1) = -1 := by decide
theorem am_c0 : Int32.ofInt 0 = nI 0 := by decide
theorem am_c1 : Int32.ofInt 1 = nI 1 := by decide
theorem am_c2 : Int32.ofInt 2 = nI 2 := by decide
theorem am_c3 : Int32.ofInt 3 = nI 3 := by decide
theorem am_c20 : (Int8.ofInt 20).toInt32 = nI 20 := by decide
theorem am_c40 : (Int8.ofInt 40).toInt32 = nI 40 := by decide
theorem am_c400 : (Int16.ofInt 400).toInt32 = nI 400 := by decide
theorem am_c401 : (Int16.ofInt 401).toInt32 = nI 401 := by decide
theorem am_c1600 : (Int16.ofInt 1600).toInt32 = nI 1600 := by decide
theorem am_b0 : (nI 0 = 0 ∨ nI 0 = 1) = True := by simp [nI_0]
theorem am_b1 : (nI 1 = 0 ∨ nI 1 = 1) = True := eq_true (Or.inr (by decide))
theorem am_vs {α : Type} (f : Nat → α) (k : Nat) (v : α) : va_up f k v k = v := by simp [va_up]
theorem am_vn {α : Type} {f : Nat → α} {k j : Nat} {v : α} (h : j ≠ k) : va_up f k v j = f j := by simp [va_up, h]
theorem am_tl0 : (none : Option Value).toList = [] := rfl
theorem am_tl1 (v : Value) : (some v).toList = [v] := rfl
end
section
/-! THE CLASS'S STATE: n terms, m signs with ar parts, sg and pt as told, hs the merges that stand (the latest first). -/
def tn_o (x : Option Nat) : Int32 := match x with
  | none => -1
  | some k => nI k
theorem tn_o_none {x : Option Nat} (h : ∀ k, x = some k → k < 2 ^ 31) : tn_o x = -1 ↔ x = none := by
  cases x with
  | none => simp [tn_o]
  | some k =>
    simp only [tn_o, reduceCtorEq, iff_false]
    intro e
    have h1 := congrArg Int32.toInt e
    rw [nI_toInt (h k rfl)] at h1
    have h2 : (-1 : Int32).toInt = -1 := by decide
    rw [h2] at h1
    omega
def tn_C (n m : Nat) (ar : Nat → Nat) (sg : Nat → Option Nat) (pt : Nat → Nat → Nat) (hs : List (Nat × Nat)) (h : am_S) : Prop :=
  (h.1 2 = nI m ∧ m ≤ 40) ∧ (h.1 3 = nI n ∧ n ≤ 400) ∧ h.1 4 = nI hs.length ∧ (∀ s, s < m → h.2 8 s = nI (ar s) ∧ ar s ≤ 3) ∧
  (∀ t, t < n → h.2 9 t = tn_o (sg t) ∧ (∀ s, sg t = some s → s < m) ∧ ∀ k, k < pu_np sg ar t → h.2 10 (t * 3 + k) = nI (pt t k)) ∧ pu_Told n sg ar pt ∧ pu_V n hs ∧
  (∀ t, t < n → h.2 11 t = nI (pu_hg hs t) ∧ h.2 12 t = nI (pu_hr hs t) ∧ h.2 13 t = tn_o (pu_hs sg hs t)) ∧ ∀ (i : Nat) (q : Nat × Nat), hs.reverse[i]? = some q → h.2 14 i = nI q.2
section CC
variable {n m : Nat} {ar : Nat → Nat} {sg : Nat → Option Nat} {pt : Nat → Nat → Nat} {hs : List (Nat × Nat)} {h : am_S}
theorem tn_C.le (C : tn_C n m ar sg pt hs h) : n ≤ 400 := C.2.1.2
theorem tn_C.nn (C : tn_C n m ar sg pt hs h) : h.1 3 = nI n := C.2.1.1
theorem tn_C.V (C : tn_C n m ar sg pt hs h) : pu_V n hs := C.2.2.2.2.2.2.1
theorem tn_C.T (C : tn_C n m ar sg pt hs h) : pu_Told n sg ar pt := C.2.2.2.2.2.1
theorem tn_C.ld (C : tn_C n m ar sg pt hs h) {t : Nat} (ht : t < n) : h.2 11 t = nI (pu_hg hs t) := (C.2.2.2.2.2.2.2.1 t ht).1
theorem tn_C.rg (C : tn_C n m ar sg pt hs h) {t : Nat} (ht : t < n) : h.2 12 t = nI (pu_hr hs t) := (C.2.2.2.2.2.2.2.1 t ht).2.1
theorem tn_C.sp (C : tn_C n m ar sg pt hs h) {t : Nat} (ht : t < n) : h.2 13 t = tn_o (pu_hs sg hs t) := (C.2.2.2.2.2.2.2.1 t ht).2.2
theorem tn_C.sn (C : tn_C n m ar sg pt hs h) {t : Nat} (ht : t < n) : h.2 9 t = tn_o (sg t) := (C.2.2.2.2.1 t ht).1
theorem tn_C.sm (C : tn_C n m ar sg pt hs h) {t s : Nat} (ht : t < n) (e : sg t = some s) : s < m := (C.2.2.2.2.1 t ht).2.1 s e
theorem tn_C.pa (C : tn_C n m ar sg pt hs h) {t k : Nat} (ht : t < n) (hk : k < pu_np sg ar t) : h.2 10 (t * 3 + k) = nI (pt t k) := (C.2.2.2.2.1 t ht).2.2 k hk
theorem tn_C.ay (C : tn_C n m ar sg pt hs h) {s : Nat} (e : s < m) : h.2 8 s = nI (ar s) := (C.2.2.2.1 s e).1
theorem tn_C.a3 (C : tn_C n m ar sg pt hs h) {s : Nat} (e : s < m) : ar s ≤ 3 := (C.2.2.2.1 s e).2
theorem tn_C.m4 (C : tn_C n m ar sg pt hs h) : m ≤ 40 := C.1.2
theorem tn_C.g (C : tn_C n m ar sg pt hs h) {t : Nat} (ht : t < n) : pu_hg hs t < n := C.V.part.lt ht
theorem tn_C.p3 (C : tn_C n m ar sg pt hs h) {t : Nat} (ht : t < n) : pu_np sg ar t ≤ 3 := by
  unfold pu_np
  cases e : sg t with
  | none => exact Nat.zero_le _
  | some s => exact C.a3 (C.sm ht e)
theorem tn_C.sx (C : tn_C n m ar sg pt hs h) {t x : Nat} (ht : t < n) (e : pu_hs sg hs t = some x) : x < n := pu_shape_lt C.V ht e
theorem tn_C.son (C : tn_C n m ar sg pt hs h) {t : Nat} (ht : t < n) : tn_o (sg t) = -1 ↔ sg t = none := tn_o_none fun k e => by
  have := C.sm ht e
  have := C.m4
  omega
theorem tn_C.spn (C : tn_C n m ar sg pt hs h) {t : Nat} (ht : t < n) : tn_o (pu_hs sg hs t) = -1 ↔ pu_hs sg hs t = none := tn_o_none fun k e => by
  have := C.sx ht e
  have := C.le
  omega
theorem tn_C.pl (C : tn_C n m ar sg pt hs h) {t k : Nat} (ht : t < n) (hk : k < pu_np sg ar t) : pt t k < n := Nat.lt_trans (C.T t ht k hk) ht
end CC
theorem cl_ {t : Nat} (h : t < 401) : (nI t).toNatClampNeg = t := nI_clamp (by omega)
theorem vi_ {t N : Nat} (h : t < N) (hN : N ≤ 8000) : vp_in (nI t) N := vp_in_nI h (by omega)
/-- the degree of a group: parts of its shape -/
def tn_dg (ar : Nat → Nat) (sg : Nat → Option Nat) (hs : List (Nat × Nat)) (t : Nat) : Nat := match pu_hs sg hs (pu_hg hs t) with
  | none => 0
  | some x => pu_np sg ar x
section RD
variable {n m : Nat} {ar : Nat → Nat} {sg : Nat → Option Nat} {pt : Nat → Nat → Nat} {hs : List (Nat × Nat)} {h : am_S} {Q : am_Q}
/-- Groups.leaderOf -/
theorem sp_10 (C : tn_C n m ar sg pt hs h) {t : Nat} (ht : t < n) (hQ : Q h (.inl (some (.int (nI (pu_hg hs t)))))) : am_AW tn_G tn_X (10, 0, 0, [some (.ref 2), some (.int (nI t))], [], h) Q := by
  have hn := C.le
  refine am_AW.run 5 ?_
  simp only [am_Zs, am_zn_1, am_g3, am_a3, am_kz_l, am_kz_r, am_mem, Bool.false_eq_true, am_Rs, am_R0, am_g2, am_al, am_kk_l, am_kk_r, am_step, am_op, am_one, am_two, am_br, am_inv, am_pp, am_ct, am_in, am_no, am_rc, am_s1, am_cut, am_s2, List.getElem?_cons_zero, List.getElem?_cons_succ, List.set_cons_zero, List.set_cons_succ, Value.category, List.cons_append, List.nil_append, am_f0, am_f1, am_f2, am_f3, am_cm1, am_c0, am_c1, am_c2, am_c3, am_c20, am_c40, am_c400, am_c401, am_c1600, true_and, and_true, true_implies, if_true, if_false, Nat.reduceAdd, Nat.reduceSub, Nat.reduceLT, Nat.reduceLeDiff, Nat.reduceEqDiff, reduceIte, Nat.le_refl, or_false, false_and, false_implies, or_true, true_or, implies_true, pk_us, pk_un, am_vs, am_vn, bx_uu, ne_eq, not_false_eq_true, not_true_eq_false, am_b0, am_b1, Nat.not_lt_zero, am_tl0, am_tl1, kr_10, kn_10, kl_10, kc_10_0, kc_10_1, kf_10_9, kc_10_4, kc_10_5, kc_10_6, tn_X0, tn_X1, tn_X2, tn_X3, tn_X4, tn_X5, tn_X6, tn_X7, tn_X8, tn_X9, tn_X10, tn_X11, tn_X12, tn_X13, tn_X14, tn_X15, tn_X16, tn_X17, tn_X18, tn_X19, tn_X20, tn_X21, tn_X22]
  rw [cl_ (by omega), C.ld ht]
  exact ⟨vi_ (by omega) (by omega), hQ⟩
/-- Groups.shapeOf -/
theorem sp_9 (C : tn_C n m ar sg pt hs h) {t : Nat} (ht : t < n) (hQ : Q h (.inl (some (.int (tn_o (pu_hs sg hs (pu_hg hs t))))))) : am_AW tn_G tn_X (9, 0, 0, [some (.ref 2), some (.int (nI t))], [], h) Q := by
  have hn := C.le
  have hg := C.g ht
  refine am_AW.run 8 ?_
  simp only [am_Zs, am_zn_1, am_g3, am_a3, am_kz_l, am_kz_r, am_mem, Bool.false_eq_true, am_Rs, am_R0, am_g2, am_al, am_kk_l, am_kk_r, am_step, am_op, am_one, am_two, am_br, am_inv, am_pp, am_ct, am_in, am_no, am_rc, am_s1, am_cut, am_s2, List.getElem?_cons_zero, List.getElem?_cons_succ, List.set_cons_zero, List.set_cons_succ, Value.category, List.cons_append, List.nil_append, am_f0, am_f1, am_f2, am_f3, am_cm1, am_c0, am_c1, am_c2, am_c3, am_c20, am_c40, am_c400, am_c401, am_c1600, true_and, and_true, true_implies, if_true, if_false, Nat.reduceAdd, Nat.reduceSub, Nat.reduceLT, Nat.reduceLeDiff, Nat.reduceEqDiff, reduceIte, Nat.le_refl, or_false, false_and, false_implies, or_true, true_or, implies_true, pk_us, pk_un, am_vs, am_vn, bx_uu, ne_eq, not_false_eq_true, not_true_eq_false, am_b0, am_b1, Nat.not_lt_zero, am_tl0, am_tl1, kr_9, kn_9, kl_9, kc_9_0, kc_9_1, kf_9_18, kc_9_4, kc_9_5, kf_9_9, kc_9_8, kc_9_9, kc_9_10, kc_9_11, tn_X0, tn_X1, tn_X2, tn_X3, tn_X4, tn_X5, tn_X6, tn_X7, tn_X8, tn_X9, tn_X10, tn_X11, tn_X12, tn_X13, tn_X14, tn_X15, tn_X16, tn_X17, tn_X18, tn_X19, tn_X20, tn_X21, tn_X22]
  rw [cl_ (by omega), C.ld ht, cl_ (by omega), C.sp hg]
  exact ⟨vi_ (by omega) (by omega), vi_ (by omega) (by omega), hQ⟩
/-- Groups.isKnown -/
theorem sp_15 (C : tn_C n m ar sg pt hs h) {t : Nat} (ht : t < n) (h0 : pu_hs sg hs (pu_hg hs t) = none → Q h (.inl (some (.int (nI 0))))) (h1 : ∀ x, pu_hs sg hs (pu_hg hs t) = some x → Q h (.inl (some (.int (nI 1))))) : am_AW tn_G tn_X (15, 0, 0, [some (.ref 2), some (.int (nI t))], [], h) Q := by
  have hg := C.g ht
  refine am_AW.run 9 ?_
  simp only [am_Zs, am_zn_1, am_g3, am_a3, am_kz_l, am_kz_r, am_mem, Bool.false_eq_true, am_Rs, am_R0, am_g2, am_al, am_kk_l, am_kk_r, am_step, am_op, am_one, am_two, am_br, am_inv, am_pp, am_ct, am_in, am_no, am_rc, am_s1, am_cut, am_s2, List.getElem?_cons_zero, List.getElem?_cons_succ, List.set_cons_zero, List.set_cons_succ, Value.category, List.cons_append, List.nil_append, am_f0, am_f1, am_f2, am_f3, am_cm1, am_c0, am_c1, am_c2, am_c3, am_c20, am_c40, am_c400, am_c401, am_c1600, true_and, and_true, true_implies, if_true, if_false, Nat.reduceAdd, Nat.reduceSub, Nat.reduceLT, Nat.reduceLeDiff, Nat.reduceEqDiff, reduceIte, Nat.le_refl, or_false, false_and, false_implies, or_true, true_or, implies_true, pk_us, pk_un, am_vs, am_vn, bx_uu, ne_eq, not_false_eq_true, not_true_eq_false, am_b0, am_b1, Nat.not_lt_zero, am_tl0, am_tl1, kr_15, kn_15, kl_15, kc_15_0, kc_15_1, kc_15_2, kl_9, ko_9, kn_9, ka_15_37, kc_15_5, kc_15_6, kc_15_9, kc_15_10, kc_15_13, kc_15_14, tn_X0, tn_X1, tn_X2, tn_X3, tn_X4, tn_X5, tn_X6, tn_X7, tn_X8, tn_X9, tn_X10, tn_X11, tn_X12, tn_X13, tn_X14, tn_X15, tn_X16, tn_X17, tn_X18, tn_X19, tn_X20, tn_X21, tn_X22]
  refine sp_9 C ht ?_
  simp only [am_Zs, am_zn_1, am_g3, am_a3, am_kz_l, am_kz_r, am_mem, Bool.false_eq_true, am_Rs, am_R0, am_g2, am_al, am_kk_l, am_kk_r, am_step, am_op, am_one, am_two, am_br, am_inv, am_pp, am_ct, am_in, am_no, am_rc, am_s1, am_cut, am_s2, List.getElem?_cons_zero, List.getElem?_cons_succ, List.set_cons_zero, List.set_cons_succ, Value.category, List.cons_append, List.nil_append, am_f0, am_f1, am_f2, am_f3, am_cm1, am_c0, am_c1, am_c2, am_c3, am_c20, am_c40, am_c400, am_c401, am_c1600, true_and, and_true, true_implies, if_true, if_false, Nat.reduceAdd, Nat.reduceSub, Nat.reduceLT, Nat.reduceLeDiff, Nat.reduceEqDiff, reduceIte, Nat.le_refl, or_false, false_and, false_implies, or_true, true_or, implies_true, pk_us, pk_un, am_vs, am_vn, bx_uu, ne_eq, not_false_eq_true, not_true_eq_false, am_b0, am_b1, Nat.not_lt_zero, am_tl0, am_tl1, kr_15, kn_15, kl_15, kc_15_0, kc_15_1, kc_15_2, kl_9, ko_9, kn_9, ka_15_37, kc_15_5, kc_15_6, kc_15_9, kc_15_10, kc_15_13, kc_15_14, tn_X0, tn_X1, tn_X2, tn_X3, tn_X4, tn_X5, tn_X6, tn_X7, tn_X8, tn_X9, tn_X10, tn_X11, tn_X12, tn_X13, tn_X14, tn_X15, tn_X16, tn_X17, tn_X18, tn_X19, tn_X20, tn_X21, tn_X22]
  rw [C.spn hg]
  refine ⟨h0, fun hne => ?_⟩
  cases e : pu_hs sg hs (pu_hg hs t) with
  | none => exact absurd e hne
  | some x => exact h1 x e
/-- Told.partsOfTerm -/
theorem sp_21 (C : tn_C n m ar sg pt hs h) {t : Nat} (ht : t < n) (hQ : Q h (.inl (some (.int (nI (pu_np sg ar t)))))) : am_AW tn_G tn_X (21, 0, 0, [some (.ref 1), some (.int (nI t))], [], h) Q := by
  have hn := C.le
  refine am_AW.run 16 ?_
  simp only [am_Zs, am_zn_1, am_g3, am_a3, am_kz_l, am_kz_r, am_mem, Bool.false_eq_true, am_Rs, am_R0, am_g2, am_al, am_kk_l, am_kk_r, am_step, am_op, am_one, am_two, am_br, am_inv, am_pp, am_ct, am_in, am_no, am_rc, am_s1, am_cut, am_s2, List.getElem?_cons_zero, List.getElem?_cons_succ, List.set_cons_zero, List.set_cons_succ, Value.category, List.cons_append, List.nil_append, am_f0, am_f1, am_f2, am_f3, am_cm1, am_c0, am_c1, am_c2, am_c3, am_c20, am_c40, am_c400, am_c401, am_c1600, true_and, and_true, true_implies, if_true, if_false, Nat.reduceAdd, Nat.reduceSub, Nat.reduceLT, Nat.reduceLeDiff, Nat.reduceEqDiff, reduceIte, Nat.le_refl, or_false, false_and, false_implies, or_true, true_or, implies_true, pk_us, pk_un, am_vs, am_vn, bx_uu, ne_eq, not_false_eq_true, not_true_eq_false, am_b0, am_b1, Nat.not_lt_zero, am_tl0, am_tl1, kr_21, kn_21, kl_21, kc_21_0, kc_21_1, kf_21_15, kc_21_4, kc_21_5, kc_21_6, kc_21_7, kc_21_10, kc_21_11, kc_21_14, kc_21_15, kf_21_9, kc_21_18, kc_21_19, kc_21_22, kc_21_23, kc_21_24, kc_21_25, tn_X0, tn_X1, tn_X2, tn_X3, tn_X4, tn_X5, tn_X6, tn_X7, tn_X8, tn_X9, tn_X10, tn_X11, tn_X12, tn_X13, tn_X14, tn_X15, tn_X16, tn_X17, tn_X18, tn_X19, tn_X20, tn_X21, tn_X22]
  rw [cl_ (by omega), C.sn ht, C.son ht]
  refine ⟨vi_ (by omega) (by omega), fun hne => ?_, fun e => ?_⟩
  · cases e : sg t with
    | none => exact absurd e hne
    | some s =>
      have hs9 := C.sm ht e
      have hm := C.m4
      simp only [tn_o]
      rw [cl_ (by omega), C.ay hs9]
      refine ⟨vi_ (by omega) (by omega), vi_ (by omega) (by omega), ?_⟩
      simp only [pu_np, e] at hQ
      exact hQ
  · simp only [pu_np, e] at hQ
    exact hQ
/-- Told.partOfTerm -/
theorem sp_22 (C : tn_C n m ar sg pt hs h) {t k : Nat} (ht : t < n) (hk : k < pu_np sg ar t) (hQ : Q h (.inl (some (.int (nI (pt t k)))))) : am_AW tn_G tn_X (22, 0, 0, [some (.ref 1), some (.int (nI t)), some (.int (nI k))], [], h) Q := by
  have hn := C.le
  have h3 := C.p3 ht
  refine am_AW.run 9 ?_
  simp only [am_Zs, am_zn_1, am_g3, am_a3, am_kz_l, am_kz_r, am_mem, Bool.false_eq_true, am_Rs, am_R0, am_g2, am_al, am_kk_l, am_kk_r, am_step, am_op, am_one, am_two, am_br, am_inv, am_pp, am_ct, am_in, am_no, am_rc, am_s1, am_cut, am_s2, List.getElem?_cons_zero, List.getElem?_cons_succ, List.set_cons_zero, List.set_cons_succ, Value.category, List.cons_append, List.nil_append, am_f0, am_f1, am_f2, am_f3, am_cm1, am_c0, am_c1, am_c2, am_c3, am_c20, am_c40, am_c400, am_c401, am_c1600, true_and, and_true, true_implies, if_true, if_false, Nat.reduceAdd, Nat.reduceSub, Nat.reduceLT, Nat.reduceLeDiff, Nat.reduceEqDiff, reduceIte, Nat.le_refl, or_false, false_and, false_implies, or_true, true_or, implies_true, pk_us, pk_un, am_vs, am_vn, bx_uu, ne_eq, not_false_eq_true, not_true_eq_false, am_b0, am_b1, Nat.not_lt_zero, am_tl0, am_tl1, kr_22, kn_22, kl_22, kc_22_0, kc_22_1, kf_22_18, kc_22_4, kc_22_5, kc_22_6, kc_22_7, kc_22_8, kc_22_9, kc_22_10, tn_X0, tn_X1, tn_X2, tn_X3, tn_X4, tn_X5, tn_X6, tn_X7, tn_X8, tn_X9, tn_X10, tn_X11, tn_X12, tn_X13, tn_X14, tn_X15, tn_X16, tn_X17, tn_X18, tn_X19, tn_X20, tn_X21, tn_X22]
  rw [pk_mul, nI_add, nI_clamp (by omega), C.pa ht hk]
  exact ⟨vi_ (by omega) (by omega), hQ⟩
/-- Groups.partsOf -/
theorem sp_11 (C : tn_C n m ar sg pt hs h) {t : Nat} (ht : t < n) (hQ : Q h (.inl (some (.int (nI (tn_dg ar sg hs t)))))) : am_AW tn_G tn_X (11, 0, 0, [some (.ref 2), some (.int (nI t)), none], [], h) Q := by
  have hg := C.g ht
  refine am_AW.run 14 ?_
  simp only [am_Zs, am_zn_1, am_g3, am_a3, am_kz_l, am_kz_r, am_mem, Bool.false_eq_true, am_Rs, am_R0, am_g2, am_al, am_kk_l, am_kk_r, am_step, am_op, am_one, am_two, am_br, am_inv, am_pp, am_ct, am_in, am_no, am_rc, am_s1, am_cut, am_s2, List.getElem?_cons_zero, List.getElem?_cons_succ, List.set_cons_zero, List.set_cons_succ, Value.category, List.cons_append, List.nil_append, am_f0, am_f1, am_f2, am_f3, am_cm1, am_c0, am_c1, am_c2, am_c3, am_c20, am_c40, am_c400, am_c401, am_c1600, true_and, and_true, true_implies, if_true, if_false, Nat.reduceAdd, Nat.reduceSub, Nat.reduceLT, Nat.reduceLeDiff, Nat.reduceEqDiff, reduceIte, Nat.le_refl, or_false, false_and, false_implies, or_true, true_or, implies_true, pk_us, pk_un, am_vs, am_vn, bx_uu, ne_eq, not_false_eq_true, not_true_eq_false, am_b0, am_b1, Nat.not_lt_zero, am_tl0, am_tl1, kr_11, kn_11, kl_11, kc_11_0, kc_11_1, kc_11_2, kl_9, ko_9, kn_9, ka_11_37, kc_11_5, kc_11_6, kc_11_7, kc_11_8, kc_11_11, kc_11_12, kc_11_15, kc_11_16, kf_11_28, kc_11_19, kc_11_20, kl_21, ko_21, kn_21, ka_11_41, kc_11_23, tn_X0, tn_X1, tn_X2, tn_X3, tn_X4, tn_X5, tn_X6, tn_X7, tn_X8, tn_X9, tn_X10, tn_X11, tn_X12, tn_X13, tn_X14, tn_X15, tn_X16, tn_X17, tn_X18, tn_X19, tn_X20, tn_X21, tn_X22]
  refine sp_9 C ht ?_
  simp only [am_Zs, am_zn_1, am_g3, am_a3, am_kz_l, am_kz_r, am_mem, Bool.false_eq_true, am_Rs, am_R0, am_g2, am_al, am_kk_l, am_kk_r, am_step, am_op, am_one, am_two, am_br, am_inv, am_pp, am_ct, am_in, am_no, am_rc, am_s1, am_cut, am_s2, List.getElem?_cons_zero, List.getElem?_cons_succ, List.set_cons_zero, List.set_cons_succ, Value.category, List.cons_append, List.nil_append, am_f0, am_f1, am_f2, am_f3, am_cm1, am_c0, am_c1, am_c2, am_c3, am_c20, am_c40, am_c400, am_c401, am_c1600, true_and, and_true, true_implies, if_true, if_false, Nat.reduceAdd, Nat.reduceSub, Nat.reduceLT, Nat.reduceLeDiff, Nat.reduceEqDiff, reduceIte, Nat.le_refl, or_false, false_and, false_implies, or_true, true_or, implies_true, pk_us, pk_un, am_vs, am_vn, bx_uu, ne_eq, not_false_eq_true, not_true_eq_false, am_b0, am_b1, Nat.not_lt_zero, am_tl0, am_tl1, kr_11, kn_11, kl_11, kc_11_0, kc_11_1, kc_11_2, kl_9, ko_9, kn_9, ka_11_37, kc_11_5, kc_11_6, kc_11_7, kc_11_8, kc_11_11, kc_11_12, kc_11_15, kc_11_16, kf_11_28, kc_11_19, kc_11_20, kl_21, ko_21, kn_21, ka_11_41, kc_11_23, tn_X0, tn_X1, tn_X2, tn_X3, tn_X4, tn_X5, tn_X6, tn_X7, tn_X8, tn_X9, tn_X10, tn_X11, tn_X12, tn_X13, tn_X14, tn_X15, tn_X16, tn_X17, tn_X18, tn_X19, tn_X20, tn_X21, tn_X22]
  rw [C.spn hg]
  refine ⟨fun hne => ?_, fun e => ?_⟩
  · cases e : pu_hs sg hs (pu_hg hs t) with
    | none => exact absurd e hne
    | some x =>
      simp only [tn_o]
      refine sp_21 C (C.sx hg e) ?_
      simp only [am_Zs, am_zn_1, am_g3, am_a3, am_kz_l, am_kz_r, am_mem, Bool.false_eq_true, am_Rs, am_R0, am_g2, am_al, am_kk_l, am_kk_r, am_step, am_op, am_one, am_two, am_br, am_inv, am_pp, am_ct, am_in, am_no, am_rc, am_s1, am_cut, am_s2, List.getElem?_cons_zero, List.getElem?_cons_succ, List.set_cons_zero, List.set_cons_succ, Value.category, List.cons_append, List.nil_append, am_f0, am_f1, am_f2, am_f3, am_cm1, am_c0, am_c1, am_c2, am_c3, am_c20, am_c40, am_c400, am_c401, am_c1600, true_and, and_true, true_implies, if_true, if_false, Nat.reduceAdd, Nat.reduceSub, Nat.reduceLT, Nat.reduceLeDiff, Nat.reduceEqDiff, reduceIte, Nat.le_refl, or_false, false_and, false_implies, or_true, true_or, implies_true, pk_us, pk_un, am_vs, am_vn, bx_uu, ne_eq, not_false_eq_true, not_true_eq_false, am_b0, am_b1, Nat.not_lt_zero, am_tl0, am_tl1, kr_11, kn_11, kl_11, kc_11_0, kc_11_1, kc_11_2, kl_9, ko_9, kn_9, ka_11_37, kc_11_5, kc_11_6, kc_11_7, kc_11_8, kc_11_11, kc_11_12, kc_11_15, kc_11_16, kf_11_28, kc_11_19, kc_11_20, kl_21, ko_21, kn_21, ka_11_41, kc_11_23, tn_X0, tn_X1, tn_X2, tn_X3, tn_X4, tn_X5, tn_X6, tn_X7, tn_X8, tn_X9, tn_X10, tn_X11, tn_X12, tn_X13, tn_X14, tn_X15, tn_X16, tn_X17, tn_X18, tn_X19, tn_X20, tn_X21, tn_X22]
      simp only [tn_dg, e] at hQ
      exact hQ
  · simp only [tn_dg, e] at hQ
    exact hQ
/-- Groups.partLeader -/
theorem sp_12 (C : tn_C n m ar sg pt hs h) {t k x : Nat} (ht : t < n) (hx : pu_hs sg hs (pu_hg hs t) = some x) (hk : k < pu_np sg ar x) (hQ : Q h (.inl (some (.int (nI (pu_hg hs (pt x k))))))) : am_AW tn_G tn_X (12, 0, 0, [some (.ref 2), some (.int (nI t)), some (.int (nI k))], [], h) Q := by
  have hg := C.g ht
  have hn := C.le
  have hxn := C.sx hg hx
  have hp := C.pl hxn hk
  refine am_AW.run 11 ?_
  simp only [am_Zs, am_zn_1, am_g3, am_a3, am_kz_l, am_kz_r, am_mem, Bool.false_eq_true, am_Rs, am_R0, am_g2, am_al, am_kk_l, am_kk_r, am_step, am_op, am_one, am_two, am_br, am_inv, am_pp, am_ct, am_in, am_no, am_rc, am_s1, am_cut, am_s2, List.getElem?_cons_zero, List.getElem?_cons_succ, List.set_cons_zero, List.set_cons_succ, Value.category, List.cons_append, List.nil_append, am_f0, am_f1, am_f2, am_f3, am_cm1, am_c0, am_c1, am_c2, am_c3, am_c20, am_c40, am_c400, am_c401, am_c1600, true_and, and_true, true_implies, if_true, if_false, Nat.reduceAdd, Nat.reduceSub, Nat.reduceLT, Nat.reduceLeDiff, Nat.reduceEqDiff, reduceIte, Nat.le_refl, or_false, false_and, false_implies, or_true, true_or, implies_true, pk_us, pk_un, am_vs, am_vn, bx_uu, ne_eq, not_false_eq_true, not_true_eq_false, am_b0, am_b1, Nat.not_lt_zero, am_tl0, am_tl1, kr_12, kn_12, kl_12, kc_12_0, kc_12_1, kf_12_9, kc_12_4, kc_12_5, kf_12_28, kc_12_8, kc_12_9, kc_12_10, kl_9, ko_9, kn_9, ka_12_37, kc_12_13, kc_12_14, kl_22, ko_22, kn_22, ka_12_44, kc_12_17, kc_12_18, tn_X0, tn_X1, tn_X2, tn_X3, tn_X4, tn_X5, tn_X6, tn_X7, tn_X8, tn_X9, tn_X10, tn_X11, tn_X12, tn_X13, tn_X14, tn_X15, tn_X16, tn_X17, tn_X18, tn_X19, tn_X20, tn_X21, tn_X22]
  refine sp_9 C ht ?_
  rw [hx]
  simp only [am_Zs, am_zn_1, am_g3, am_a3, am_kz_l, am_kz_r, am_mem, Bool.false_eq_true, am_Rs, am_R0, am_g2, am_al, am_kk_l, am_kk_r, am_step, am_op, am_one, am_two, am_br, am_inv, am_pp, am_ct, am_in, am_no, am_rc, am_s1, am_cut, am_s2, List.getElem?_cons_zero, List.getElem?_cons_succ, List.set_cons_zero, List.set_cons_succ, Value.category, List.cons_append, List.nil_append, am_f0, am_f1, am_f2, am_f3, am_cm1, am_c0, am_c1, am_c2, am_c3, am_c20, am_c40, am_c400, am_c401, am_c1600, true_and, and_true, true_implies, if_true, if_false, Nat.reduceAdd, Nat.reduceSub, Nat.reduceLT, Nat.reduceLeDiff, Nat.reduceEqDiff, reduceIte, Nat.le_refl, or_false, false_and, false_implies, or_true, true_or, implies_true, pk_us, pk_un, am_vs, am_vn, bx_uu, ne_eq, not_false_eq_true, not_true_eq_false, am_b0, am_b1, Nat.not_lt_zero, am_tl0, am_tl1, kr_12, kn_12, kl_12, kc_12_0, kc_12_1, kf_12_9, kc_12_4, kc_12_5, kf_12_28, kc_12_8, kc_12_9, kc_12_10, kl_9, ko_9, kn_9, ka_12_37, kc_12_13, kc_12_14, kl_22, ko_22, kn_22, ka_12_44, kc_12_17, kc_12_18, tn_X0, tn_X1, tn_X2, tn_X3, tn_X4, tn_X5, tn_X6, tn_X7, tn_X8, tn_X9, tn_X10, tn_X11, tn_X12, tn_X13, tn_X14, tn_X15, tn_X16, tn_X17, tn_X18, tn_X19, tn_X20, tn_X21, tn_X22, tn_o]
  refine sp_22 C hxn hk ?_
  simp only [am_Zs, am_zn_1, am_g3, am_a3, am_kz_l, am_kz_r, am_mem, Bool.false_eq_true, am_Rs, am_R0, am_g2, am_al, am_kk_l, am_kk_r, am_step, am_op, am_one, am_two, am_br, am_inv, am_pp, am_ct, am_in, am_no, am_rc, am_s1, am_cut, am_s2, List.getElem?_cons_zero, List.getElem?_cons_succ, List.set_cons_zero, List.set_cons_succ, Value.category, List.cons_append, List.nil_append, am_f0, am_f1, am_f2, am_f3, am_cm1, am_c0, am_c1, am_c2, am_c3, am_c20, am_c40, am_c400, am_c401, am_c1600, true_and, and_true, true_implies, if_true, if_false, Nat.reduceAdd, Nat.reduceSub, Nat.reduceLT, Nat.reduceLeDiff, Nat.reduceEqDiff, reduceIte, Nat.le_refl, or_false, false_and, false_implies, or_true, true_or, implies_true, pk_us, pk_un, am_vs, am_vn, bx_uu, ne_eq, not_false_eq_true, not_true_eq_false, am_b0, am_b1, Nat.not_lt_zero, am_tl0, am_tl1, kr_12, kn_12, kl_12, kc_12_0, kc_12_1, kf_12_9, kc_12_4, kc_12_5, kf_12_28, kc_12_8, kc_12_9, kc_12_10, kl_9, ko_9, kn_9, ka_12_37, kc_12_13, kc_12_14, kl_22, ko_22, kn_22, ka_12_44, kc_12_17, kc_12_18, tn_X0, tn_X1, tn_X2, tn_X3, tn_X4, tn_X5, tn_X6, tn_X7, tn_X8, tn_X9, tn_X10, tn_X11, tn_X12, tn_X13, tn_X14, tn_X15, tn_X16, tn_X17, tn_X18, tn_X19, tn_X20, tn_X21, tn_X22]
  rw [cl_ (by omega), C.ld hp]
  exact ⟨vi_ (by omega) (by omega), hQ⟩
/-- Told.isTerm -/
theorem sp_19 (hn : h.1 3 = nI n) (hN : n ≤ 400) {a : Int32} (h1 : ∀ t, t < n → a = nI t → Q h (.inl (some (.int (nI 1))))) (h0 : (∀ t, t < n → a ≠ nI t) → Q h (.inl (some (.int (nI 0))))) : am_AW tn_G tn_X (19, 0, 0, [some (.ref 1), some (.int a)], [], h) Q := by
  refine am_AW.run 10 ?_
  simp only [am_Zs, am_zn_1, am_g3, am_a3, am_kz_l, am_kz_r, am_mem, Bool.false_eq_true, am_Rs, am_R0, am_g2, am_al, am_kk_l, am_kk_r, am_step, am_op, am_one, am_two, am_br, am_inv, am_pp, am_ct, am_in, am_no, am_rc, am_s1, am_cut, am_s2, List.getElem?_cons_zero, List.getElem?_cons_succ, List.set_cons_zero, List.set_cons_succ, Value.category, List.cons_append, List.nil_append, am_f0, am_f1, am_f2, am_f3, am_cm1, am_c0, am_c1, am_c2, am_c3, am_c20, am_c40, am_c400, am_c401, am_c1600, true_and, and_true, true_implies, if_true, if_false, Nat.reduceAdd, Nat.reduceSub, Nat.reduceLT, Nat.reduceLeDiff, Nat.reduceEqDiff, reduceIte, Nat.le_refl, or_false, false_and, false_implies, or_true, true_or, implies_true, pk_us, pk_un, am_vs, am_vn, bx_uu, ne_eq, not_false_eq_true, not_true_eq_false, am_b0, am_b1, Nat.not_lt_zero, am_tl0, am_tl1, kr_19, kn_19, kl_19, kc_19_0, kc_19_1, kc_19_4, kc_19_5, kc_19_6, kf_19_25, kc_19_9, kc_19_12, kc_19_13, kc_19_16, kc_19_17, tn_X0, tn_X1, tn_X2, tn_X3, tn_X4, tn_X5, tn_X6, tn_X7, tn_X8, tn_X9, tn_X10, tn_X11, tn_X12, tn_X13, tn_X14, tn_X15, tn_X16, tn_X17, tn_X18, tn_X19, tn_X20, tn_X21, tn_X22]
  rw [hn]
  refine ⟨fun hlt => h0 fun t ht e => ?_, fun hge => ⟨fun hle => h0 fun t ht e => ?_, fun hlt => ?_⟩⟩
  · subst e; exact nI_pos (by omega) hlt
  · subst e; exact nI_ge ht (by omega) hle
  · rcases pk_ix a (n := n) (by omega) with q | q | ⟨j, hj, q⟩
    · exact absurd q hge
    · exact absurd q hlt
    · exact h1 j hj q
end RD
end
section
/-! Groups: rings, joins. -/
def tn_wr (f : Nat → Int32) (L : List Nat) (x : Int32) : Nat → Int32 := fun j => if j ∈ L then x else f j
theorem tn_wr_cons (f : Nat → Int32) (y : Nat) (L : List Nat) (x : Int32) : tn_wr (upd f y x) L x = tn_wr f (y :: L) x := by
  funext j
  simp only [tn_wr, upd, List.mem_cons]
  by_cases h1 : j ∈ L <;> by_cases h2 : j = y <;> simp [h1, h2]
/-- leadRing, its loop -/
theorem sp_5l (r : Nat → Nat) {s : Nat} {x : Int32} {Q : am_Q} (hs4 : s < 400) : ∀ (L : List Nat) (t i : Nat) (h : am_S), pu_ch r t L s → (∀ y ∈ t :: L, y < 400 ∧ h.2 12 y = nI (r y)) → s ∉ L → i + L.length < 400 → Q (h.1, va_up h.2 11 (tn_wr (h.2 11) (t :: L) x)) (.inl none) →
    am_AW tn_G tn_X (5, 5, 0, [some (.ref 2), some (.int (nI s)), some (.int x), some (.int (nI t)), some (.int (nI i))], [], h) Q := by
  intro L
  induction L with
  | nil =>
    intro t i h hc hy hn hi hQ
    obtain ⟨t4, hr⟩ := hy t List.mem_cons_self
    simp only [List.length_nil, Nat.add_zero] at hi
    refine am_AW.run 18 ?_
    simp only [am_Zs, am_zn_1, am_g3, am_a3, am_kz_l, am_kz_r, am_mem, Bool.false_eq_true, am_Rs, am_R0, am_g2, am_al, am_kk_l, am_kk_r, am_step, am_op, am_one, am_two, am_br, am_inv, am_pp, am_ct, am_in, am_no, am_rc, am_s1, am_cut, am_s2, List.getElem?_cons_zero, List.getElem?_cons_succ, List.set_cons_zero, List.set_cons_succ, Value.category, List.cons_append, List.nil_append, am_f0, am_f1, am_f2, am_f3, am_cm1, am_c0, am_c1, am_c2, am_c3, am_c20, am_c40, am_c400, am_c401, am_c1600, true_and, and_true, true_implies, if_true, if_false, Nat.reduceAdd, Nat.reduceSub, Nat.reduceLT, Nat.reduceLeDiff, Nat.reduceEqDiff, reduceIte, Nat.le_refl, or_false, false_and, false_implies, or_true, true_or, implies_true, pk_us, pk_un, am_vs, am_vn, bx_uu, ne_eq, not_false_eq_true, not_true_eq_false, am_b0, am_b1, Nat.not_lt_zero, am_tl0, am_tl1, kr_5, kn_5, kl_5, kc_5_0, kc_5_1, kc_5_2, kc_5_3, kc_5_5, kc_5_7, kc_5_10, kc_5_13, kc_5_14, kf_5_9, kc_5_17, kc_5_18, kc_5_19, kc_5_20, kc_5_21, kf_5_15, kc_5_24, kc_5_25, kc_5_26, kc_5_27, kc_5_28, kc_5_29, kc_5_32, kc_5_35, kc_5_38, kc_5_41, tn_X0, tn_X1, tn_X2, tn_X3, tn_X4, tn_X5, tn_X6, tn_X7, tn_X8, tn_X9, tn_X10, tn_X11, tn_X12, tn_X13, tn_X14, tn_X15, tn_X16, tn_X17, tn_X18, tn_X19, tn_X20, tn_X21, tn_X22]
    rw [cl_ (by omega), hr, show r t = s from hc, nI_leI (by omega) (by omega)]
    refine ⟨fun q => by omega, fun _ => ⟨vi_ t4 (by omega), vi_ t4 (by omega), fun q => absurd rfl q, fun _ => ?_⟩⟩
    have e : upd (h.2 11) t x = tn_wr (h.2 11) [t] x := by
      rw [← tn_wr_cons]
      funext j
      simp [tn_wr]
    rw [e]
    exact hQ
  | cons y L ih =>
    intro t i h hc hy hn hi hQ
    obtain ⟨t4, hr⟩ := hy t List.mem_cons_self
    obtain ⟨y4, -⟩ := hy y (List.mem_cons_of_mem _ List.mem_cons_self)
    simp only [List.length_cons] at hi
    have hys : y ≠ s := fun q => hn (by rw [← q]; exact List.mem_cons_self)
    refine am_AW.run 18 ?_
    simp only [am_Zs, am_zn_1, am_g3, am_a3, am_kz_l, am_kz_r, am_mem, Bool.false_eq_true, am_Rs, am_R0, am_g2, am_al, am_kk_l, am_kk_r, am_step, am_op, am_one, am_two, am_br, am_inv, am_pp, am_ct, am_in, am_no, am_rc, am_s1, am_cut, am_s2, List.getElem?_cons_zero, List.getElem?_cons_succ, List.set_cons_zero, List.set_cons_succ, Value.category, List.cons_append, List.nil_append, am_f0, am_f1, am_f2, am_f3, am_cm1, am_c0, am_c1, am_c2, am_c3, am_c20, am_c40, am_c400, am_c401, am_c1600, true_and, and_true, true_implies, if_true, if_false, Nat.reduceAdd, Nat.reduceSub, Nat.reduceLT, Nat.reduceLeDiff, Nat.reduceEqDiff, reduceIte, Nat.le_refl, or_false, false_and, false_implies, or_true, true_or, implies_true, pk_us, pk_un, am_vs, am_vn, bx_uu, ne_eq, not_false_eq_true, not_true_eq_false, am_b0, am_b1, Nat.not_lt_zero, am_tl0, am_tl1, kr_5, kn_5, kl_5, kc_5_0, kc_5_1, kc_5_2, kc_5_3, kc_5_5, kc_5_7, kc_5_10, kc_5_13, kc_5_14, kf_5_9, kc_5_17, kc_5_18, kc_5_19, kc_5_20, kc_5_21, kf_5_15, kc_5_24, kc_5_25, kc_5_26, kc_5_27, kc_5_28, kc_5_29, kc_5_32, kc_5_35, kc_5_38, kc_5_41, tn_X0, tn_X1, tn_X2, tn_X3, tn_X4, tn_X5, tn_X6, tn_X7, tn_X8, tn_X9, tn_X10, tn_X11, tn_X12, tn_X13, tn_X14, tn_X15, tn_X16, tn_X17, tn_X18, tn_X19, tn_X20, tn_X21, tn_X22]
    rw [cl_ (by omega), hr, show r t = y from hc.1, nI_leI (by omega) (by omega), nI_eq (by omega) (by omega), nI_add]
    refine ⟨fun q => by omega, fun _ => ⟨vi_ t4 (by omega), vi_ t4 (by omega), fun _ => ?_, fun q => absurd q hys⟩⟩
    refine ih y (i + 1) _ hc.2 (fun z hz => ?_) (fun q => hn (List.mem_cons_of_mem _ q)) (by omega) ?_
    · simp only [am_vn (show (12 : Nat) ≠ 11 by decide)]
      exact hy z (List.mem_cons_of_mem _ hz)
    · simp only [am_vs, bx_uu]
      rw [tn_wr_cons]
      exact hQ
/-- Groups.leadRing -/
theorem sp_5 (r : Nat → Nat) {s : Nat} {x : Int32} {Q : am_Q} {h : am_S} {L : List Nat} (hc : pu_ch r s L s) (hy : ∀ y ∈ s :: L, y < 400 ∧ h.2 12 y = nI (r y)) (hn : s ∉ L) (hl : L.length < 400) (hQ : Q (h.1, va_up h.2 11 (tn_wr (h.2 11) (s :: L) x)) (.inl none)) :
    am_AW tn_G tn_X (5, 0, 0, [some (.ref 2), some (.int (nI s)), some (.int x), none, none], [], h) Q := by
  refine am_AW.run 4 ?_
  simp only [am_Zs, am_zn_1, am_g3, am_a3, am_kz_l, am_kz_r, am_mem, Bool.false_eq_true, am_Rs, am_R0, am_g2, am_al, am_kk_l, am_kk_r, am_step, am_op, am_one, am_two, am_br, am_inv, am_pp, am_ct, am_in, am_no, am_rc, am_s1, am_cut, am_s2, List.getElem?_cons_zero, List.getElem?_cons_succ, List.set_cons_zero, List.set_cons_succ, Value.category, List.cons_append, List.nil_append, am_f0, am_f1, am_f2, am_f3, am_cm1, am_c0, am_c1, am_c2, am_c3, am_c20, am_c40, am_c400, am_c401, am_c1600, true_and, and_true, true_implies, if_true, if_false, Nat.reduceAdd, Nat.reduceSub, Nat.reduceLT, Nat.reduceLeDiff, Nat.reduceEqDiff, reduceIte, Nat.le_refl, or_false, false_and, false_implies, or_true, true_or, implies_true, pk_us, pk_un, am_vs, am_vn, bx_uu, ne_eq, not_false_eq_true, not_true_eq_false, am_b0, am_b1, Nat.not_lt_zero, am_tl0, am_tl1, kr_5, kn_5, kl_5, kc_5_0, kc_5_1, kc_5_2, kc_5_3, kc_5_5, kc_5_7, kc_5_10, kc_5_13, kc_5_14, kf_5_9, kc_5_17, kc_5_18, kc_5_19, kc_5_20, kc_5_21, kf_5_15, kc_5_24, kc_5_25, kc_5_26, kc_5_27, kc_5_28, kc_5_29, kc_5_32, kc_5_35, kc_5_38, kc_5_41, tn_X0, tn_X1, tn_X2, tn_X3, tn_X4, tn_X5, tn_X6, tn_X7, tn_X8, tn_X9, tn_X10, tn_X11, tn_X12, tn_X13, tn_X14, tn_X15, tn_X16, tn_X17, tn_X18, tn_X19, tn_X20, tn_X21, tn_X22]
  exact sp_5l r (hy s List.mem_cons_self).1 L s 0 h hc hy hn (by omega) hQ
/-- Groups.swapLinks -/
theorem sp_6 {a b : Nat} {Q : am_Q} {h : am_S} (ha : a < 400) (hb : b < 400) (hQ : Q (h.1, va_up h.2 12 (upd (upd (h.2 12) a (h.2 12 b)) b (h.2 12 a))) (.inl none)) :
    am_AW tn_G tn_X (6, 0, 0, [some (.ref 2), some (.int (nI a)), some (.int (nI b)), none], [], h) Q := by
  refine am_AW.run 19 ?_
  simp only [am_Zs, am_zn_1, am_g3, am_a3, am_kz_l, am_kz_r, am_mem, Bool.false_eq_true, am_Rs, am_R0, am_g2, am_al, am_kk_l, am_kk_r, am_step, am_op, am_one, am_two, am_br, am_inv, am_pp, am_ct, am_in, am_no, am_rc, am_s1, am_cut, am_s2, List.getElem?_cons_zero, List.getElem?_cons_succ, List.set_cons_zero, List.set_cons_succ, Value.category, List.cons_append, List.nil_append, am_f0, am_f1, am_f2, am_f3, am_cm1, am_c0, am_c1, am_c2, am_c3, am_c20, am_c40, am_c400, am_c401, am_c1600, true_and, and_true, true_implies, if_true, if_false, Nat.reduceAdd, Nat.reduceSub, Nat.reduceLT, Nat.reduceLeDiff, Nat.reduceEqDiff, reduceIte, Nat.le_refl, or_false, false_and, false_implies, or_true, true_or, implies_true, pk_us, pk_un, am_vs, am_vn, bx_uu, ne_eq, not_false_eq_true, not_true_eq_false, am_b0, am_b1, Nat.not_lt_zero, am_tl0, am_tl1, kr_6, kn_6, kl_6, kc_6_0, kc_6_1, kf_6_15, kc_6_4, kc_6_5, kc_6_6, kc_6_7, kc_6_8, kc_6_11, kc_6_12, kc_6_13, kc_6_16, kc_6_17, kc_6_18, kc_6_19, kc_6_20, kc_6_23, kc_6_24, kc_6_25, kc_6_26, tn_X0, tn_X1, tn_X2, tn_X3, tn_X4, tn_X5, tn_X6, tn_X7, tn_X8, tn_X9, tn_X10, tn_X11, tn_X12, tn_X13, tn_X14, tn_X15, tn_X16, tn_X17, tn_X18, tn_X19, tn_X20, tn_X21, tn_X22]
  rw [cl_ (by omega), cl_ (by omega)]
  exact ⟨vi_ ha (by omega), vi_ hb (by omega), vi_ ha (by omega), vi_ hb (by omega), hQ⟩
/-- what Groups' writers leave alone -/
def tn_fG (h h' : am_S) : Prop := (∀ i, i ≠ 4 → h'.1 i = h.1 i) ∧ ∀ k, (k < 11 ∨ 14 < k) → h'.2 k = h.2 k
theorem tn_fG.rf {h : am_S} : tn_fG h h := ⟨fun _ _ => rfl, fun _ _ => rfl⟩
theorem tn_fG.tr {h h1 h2 : am_S} (a : tn_fG h h1) (b : tn_fG h1 h2) : tn_fG h h2 := ⟨fun i hi => (b.1 i hi).trans (a.1 i hi), fun k hk => (b.2 k hk).trans (a.2 k hk)⟩
theorem tn_C.mk' {n m : Nat} {ar : Nat → Nat} {sg : Nat → Option Nat} {pt : Nat → Nat → Nat} {hs hs' : List (Nat × Nat)} {h h' : am_S} (C : tn_C n m ar sg pt hs h) (fr : tn_fG h h') (hV : pu_V n hs') (h4 : h'.1 4 = nI hs'.length)
    (hg : ∀ t, t < n → h'.2 11 t = nI (pu_hg hs' t) ∧ h'.2 12 t = nI (pu_hr hs' t) ∧ h'.2 13 t = tn_o (pu_hs sg hs' t)) (ht : ∀ (i : Nat) (q : Nat × Nat), hs'.reverse[i]? = some q → h'.2 14 i = nI q.2) : tn_C n m ar sg pt hs' h' := by
  obtain ⟨c1, c2, c3, c4, c5, c6, c7, c8, c9⟩ := C
  refine ⟨⟨by rw [fr.1 2 (by decide)]; exact c1.1, c1.2⟩, ⟨by rw [fr.1 3 (by decide)]; exact c2.1, c2.2⟩, h4, fun s hs9 => ?_, fun t ht9 => ?_, c6, hV, hg, ht⟩
  · rw [fr.2 8 (by omega)]; exact c4 s hs9
  · rw [fr.2 9 (by omega), fr.2 10 (by omega)]; exact c5 t ht9
section JN
variable {n m : Nat} {ar : Nat → Nat} {sg : Nat → Option Nat} {pt : Nat → Nat → Nat} {hs : List (Nat × Nat)} {h : am_S} {Q : am_Q}
theorem tn_ring_ok (C : tn_C n m ar sg pt hs h) {a : Nat} (ha : a < n) (hg : pu_hg hs a = a) : pu_ch (pu_hr hs) a (pu_ht hs a) a ∧ (∀ y ∈ a :: pu_ht hs a, y < n) ∧ a ∉ pu_ht hs a ∧ (pu_ht hs a).length < n := by
  obtain ⟨c1, d1, m1⟩ := pu_ring C.V a hg
  have lt : ∀ y ∈ a :: pu_ht hs a, y < n := fun y hy => by
    apply Nat.lt_of_not_le
    intro q
    have e1 := (m1 y).mp hy
    have e2 := pu_hg_new C.V y q
    omega
  refine ⟨c1, lt, (List.nodup_cons.mp d1).1, ?_⟩
  have := pu_nd_len d1 lt
  simp only [List.length_cons] at this
  omega
/-- join, from the two leaders on -/
theorem sp_4c (C : tn_C n m ar sg pt hs h) {w l : Nat} (hV : pu_V n ((w, l) :: hs)) (x y : Value) (hQ : ∀ h', tn_C n m ar sg pt ((w, l) :: hs) h' → tn_fG h h' → Q h' (.inl none)) :
    am_AW tn_G tn_X (4, 49, 0, [some (.ref 2), some x, some y, some (.int (nI w)), some (.int (nI l))], [], h) Q := by
  obtain ⟨h1, h2, h3, h4, h5⟩ := id hV
  simp only at h1 h2 h3 h4
  have hn := C.le
  have hlen := pu_len hV (by omega)
  simp only [List.length_cons] at hlen
  obtain ⟨r1, r2, r3, r4⟩ := tn_ring_ok C h2 h4
  have hm := (pu_ring C.V l h4).2.2
  refine am_AW.run 36 ?_
  simp only [am_Zs, am_zn_1, am_g3, am_a3, am_kz_l, am_kz_r, am_mem, Bool.false_eq_true, am_Rs, am_R0, am_g2, am_al, am_kk_l, am_kk_r, am_step, am_op, am_one, am_two, am_br, am_inv, am_pp, am_ct, am_in, am_no, am_rc, am_s1, am_cut, am_s2, List.getElem?_cons_zero, List.getElem?_cons_succ, List.set_cons_zero, List.set_cons_succ, Value.category, List.cons_append, List.nil_append, am_f0, am_f1, am_f2, am_f3, am_cm1, am_c0, am_c1, am_c2, am_c3, am_c20, am_c40, am_c400, am_c401, am_c1600, true_and, and_true, true_implies, if_true, if_false, Nat.reduceAdd, Nat.reduceSub, Nat.reduceLT, Nat.reduceLeDiff, Nat.reduceEqDiff, reduceIte, Nat.le_refl, or_false, false_and, false_implies, or_true, true_or, implies_true, pk_us, pk_un, am_vs, am_vn, bx_uu, ne_eq, not_false_eq_true, not_true_eq_false, am_b0, am_b1, Nat.not_lt_zero, am_tl0, am_tl1, kr_4, kn_4, kl_4, kc_4_0, kc_4_1, kf_4_9, kc_4_4, kc_4_5, kc_4_6, kc_4_7, kc_4_10, kc_4_11, kc_4_12, kc_4_15, kc_4_16, kc_4_17, kc_4_20, kc_4_21, kc_4_22, kc_4_23, kc_4_26, kc_4_27, kc_4_28, ka_4_51, kc_4_31, kc_4_32, kc_4_33, kc_4_36, kc_4_37, kc_4_38, kc_4_39, kc_4_42, kc_4_43, kc_4_44, ka_4_56, kc_4_47, kc_4_49, kc_4_50, kc_4_52, kc_4_53, kl_5, ko_5, kn_5, ka_4_59, kc_4_56, kc_4_57, kc_4_58, kc_4_60, kl_6, ko_6, kn_6, ka_4_63, kc_4_63, kc_4_64, kf_4_18, kc_4_67, kc_4_68, kc_4_69, kc_4_70, kc_4_73, kc_4_74, kc_4_77, kc_4_78, kc_4_79, kc_4_82, kc_4_84, kc_4_85, kc_4_86, kc_4_87, kf_4_21, kc_4_90, kc_4_91, kf_4_24, kc_4_94, kc_4_96, kc_4_97, kc_4_98, kc_4_99, kc_4_102, kc_4_103, kc_4_104, kc_4_107, tn_X0, tn_X1, tn_X2, tn_X3, tn_X4, tn_X5, tn_X6, tn_X7, tn_X8, tn_X9, tn_X10, tn_X11, tn_X12, tn_X13, tn_X14, tn_X15, tn_X16, tn_X17, tn_X18, tn_X19, tn_X20, tn_X21, tn_X22]
  refine sp_5 (pu_hr hs) r1 (fun y hy => ⟨by have := r2 y hy; omega, C.rg (r2 y hy)⟩) r3 (by omega) ?_
  simp only [am_Zs, am_zn_1, am_g3, am_a3, am_kz_l, am_kz_r, am_mem, Bool.false_eq_true, am_Rs, am_R0, am_g2, am_al, am_kk_l, am_kk_r, am_step, am_op, am_one, am_two, am_br, am_inv, am_pp, am_ct, am_in, am_no, am_rc, am_s1, am_cut, am_s2, List.getElem?_cons_zero, List.getElem?_cons_succ, List.set_cons_zero, List.set_cons_succ, Value.category, List.cons_append, List.nil_append, am_f0, am_f1, am_f2, am_f3, am_cm1, am_c0, am_c1, am_c2, am_c3, am_c20, am_c40, am_c400, am_c401, am_c1600, true_and, and_true, true_implies, if_true, if_false, Nat.reduceAdd, Nat.reduceSub, Nat.reduceLT, Nat.reduceLeDiff, Nat.reduceEqDiff, reduceIte, Nat.le_refl, or_false, false_and, false_implies, or_true, true_or, implies_true, pk_us, pk_un, am_vs, am_vn, bx_uu, ne_eq, not_false_eq_true, not_true_eq_false, am_b0, am_b1, Nat.not_lt_zero, am_tl0, am_tl1, kr_4, kn_4, kl_4, kc_4_0, kc_4_1, kf_4_9, kc_4_4, kc_4_5, kc_4_6, kc_4_7, kc_4_10, kc_4_11, kc_4_12, kc_4_15, kc_4_16, kc_4_17, kc_4_20, kc_4_21, kc_4_22, kc_4_23, kc_4_26, kc_4_27, kc_4_28, ka_4_51, kc_4_31, kc_4_32, kc_4_33, kc_4_36, kc_4_37, kc_4_38, kc_4_39, kc_4_42, kc_4_43, kc_4_44, ka_4_56, kc_4_47, kc_4_49, kc_4_50, kc_4_52, kc_4_53, kl_5, ko_5, kn_5, ka_4_59, kc_4_56, kc_4_57, kc_4_58, kc_4_60, kl_6, ko_6, kn_6, ka_4_63, kc_4_63, kc_4_64, kf_4_18, kc_4_67, kc_4_68, kc_4_69, kc_4_70, kc_4_73, kc_4_74, kc_4_77, kc_4_78, kc_4_79, kc_4_82, kc_4_84, kc_4_85, kc_4_86, kc_4_87, kf_4_21, kc_4_90, kc_4_91, kf_4_24, kc_4_94, kc_4_96, kc_4_97, kc_4_98, kc_4_99, kc_4_102, kc_4_103, kc_4_104, kc_4_107, tn_X0, tn_X1, tn_X2, tn_X3, tn_X4, tn_X5, tn_X6, tn_X7, tn_X8, tn_X9, tn_X10, tn_X11, tn_X12, tn_X13, tn_X14, tn_X15, tn_X16, tn_X17, tn_X18, tn_X19, tn_X20, tn_X21, tn_X22]
  refine sp_6 (by omega) (by omega) ?_
  simp only [am_Zs, am_zn_1, am_g3, am_a3, am_kz_l, am_kz_r, am_mem, Bool.false_eq_true, am_Rs, am_R0, am_g2, am_al, am_kk_l, am_kk_r, am_step, am_op, am_one, am_two, am_br, am_inv, am_pp, am_ct, am_in, am_no, am_rc, am_s1, am_cut, am_s2, List.getElem?_cons_zero, List.getElem?_cons_succ, List.set_cons_zero, List.set_cons_succ, Value.category, List.cons_append, List.nil_append, am_f0, am_f1, am_f2, am_f3, am_cm1, am_c0, am_c1, am_c2, am_c3, am_c20, am_c40, am_c400, am_c401, am_c1600, true_and, and_true, true_implies, if_true, if_false, Nat.reduceAdd, Nat.reduceSub, Nat.reduceLT, Nat.reduceLeDiff, Nat.reduceEqDiff, reduceIte, Nat.le_refl, or_false, false_and, false_implies, or_true, true_or, implies_true, pk_us, pk_un, am_vs, am_vn, bx_uu, ne_eq, not_false_eq_true, not_true_eq_false, am_b0, am_b1, Nat.not_lt_zero, am_tl0, am_tl1, kr_4, kn_4, kl_4, kc_4_0, kc_4_1, kf_4_9, kc_4_4, kc_4_5, kc_4_6, kc_4_7, kc_4_10, kc_4_11, kc_4_12, kc_4_15, kc_4_16, kc_4_17, kc_4_20, kc_4_21, kc_4_22, kc_4_23, kc_4_26, kc_4_27, kc_4_28, ka_4_51, kc_4_31, kc_4_32, kc_4_33, kc_4_36, kc_4_37, kc_4_38, kc_4_39, kc_4_42, kc_4_43, kc_4_44, ka_4_56, kc_4_47, kc_4_49, kc_4_50, kc_4_52, kc_4_53, kl_5, ko_5, kn_5, ka_4_59, kc_4_56, kc_4_57, kc_4_58, kc_4_60, kl_6, ko_6, kn_6, ka_4_63, kc_4_63, kc_4_64, kf_4_18, kc_4_67, kc_4_68, kc_4_69, kc_4_70, kc_4_73, kc_4_74, kc_4_77, kc_4_78, kc_4_79, kc_4_82, kc_4_84, kc_4_85, kc_4_86, kc_4_87, kf_4_21, kc_4_90, kc_4_91, kf_4_24, kc_4_94, kc_4_96, kc_4_97, kc_4_98, kc_4_99, kc_4_102, kc_4_103, kc_4_104, kc_4_107, tn_X0, tn_X1, tn_X2, tn_X3, tn_X4, tn_X5, tn_X6, tn_X7, tn_X8, tn_X9, tn_X10, tn_X11, tn_X12, tn_X13, tn_X14, tn_X15, tn_X16, tn_X17, tn_X18, tn_X19, tn_X20, tn_X21, tn_X22]
  rw [cl_ (by omega), cl_ (by omega), C.sp (show w < n by omega), C.sp h2, C.2.2.1, cl_ (by omega), C.spn (show w < n by omega), nI_add]
  have hld : ∀ t, t < n → tn_wr (h.2 11) (l :: pu_ht hs l) (nI w) t = nI (pu_hg ((w, l) :: hs) t) := fun t ht => by
    simp only [tn_wr, hm t, pu_hg]
    by_cases e : pu_hg hs t = l
    · rw [if_pos e, if_pos e]
    · rw [if_neg e, if_neg e, C.ld ht]
  have hrg : ∀ t, t < n → upd (upd (h.2 12) w (h.2 12 l)) l (h.2 12 w) t = nI (pu_hr ((w, l) :: hs) t) := fun t ht => by
    rw [C.rg h2, C.rg (show w < n by omega)]
    simp only [upd, pu_hr]
    by_cases e1 : t = l
    · subst e1
      rw [if_pos rfl, if_neg (by omega), if_pos rfl]
    · rw [if_neg e1, if_neg e1]
      by_cases e2 : t = w
      · rw [if_pos e2, if_pos e2]
      · rw [if_neg e2, if_neg e2, C.rg ht]
  have htr : ∀ (i : Nat) (q : Nat × Nat), ((w, l) :: hs).reverse[i]? = some q → upd (h.2 14) hs.length (nI l) i = nI q.2 := fun i q hq => by
    rw [List.reverse_cons] at hq
    simp only [upd]
    by_cases e : i = hs.length
    · subst e
      rw [if_pos rfl]
      rw [List.getElem?_append_right (by simp)] at hq
      simp at hq
      rw [← hq]
    · rw [if_neg e]
      have hi : i < hs.reverse.length := by
        have := (List.getElem?_eq_some_iff.mp hq).1
        simp at this
        simp
        omega
      rw [List.getElem?_append_left hi] at hq
      exact C.2.2.2.2.2.2.2.2 i q hq
  refine ⟨vi_ (by omega) (by omega), fun hne => ?_, fun e => ⟨vi_ (by omega) (by omega), vi_ (by omega) (by omega), ?_⟩⟩
  · refine ⟨vi_ (by omega) (by omega), hQ _ (C.mk' ⟨fun i hi => ?_, fun k hk => ?_⟩ hV ?_ (fun t ht => ⟨?_, ?_, ?_⟩) (fun i q hq => ?_)) ⟨fun i hi => ?_, fun k hk => ?_⟩⟩
    · simp only [pk_un hi]
    · simp only [am_vn (show k ≠ 14 by omega), am_vn (show k ≠ 12 by omega), am_vn (show k ≠ 11 by omega)]
    · simp only [pk_us, List.length_cons]
    · simp only [am_vn (show (11 : Nat) ≠ 14 by decide), am_vn (show (11 : Nat) ≠ 12 by decide), am_vs]
      exact hld t ht
    · simp only [am_vn (show (12 : Nat) ≠ 14 by decide), am_vs]
      exact hrg t ht
    · simp only [am_vn (show (13 : Nat) ≠ 14 by decide), am_vn (show (13 : Nat) ≠ 12 by decide), am_vn (show (13 : Nat) ≠ 11 by decide)]
      rw [C.sp ht]
      simp only [pu_hs]
      by_cases e2 : t = w
      · rw [if_pos e2, e2]
        cases e3 : pu_hs sg hs w with
        | none => exact absurd e3 hne
        | some z => rfl
      · rw [if_neg e2]
    · simp only [am_vs]
      exact htr i q hq
    · simp only [pk_un hi]
    · simp only [am_vn (show k ≠ 14 by omega), am_vn (show k ≠ 12 by omega), am_vn (show k ≠ 11 by omega)]
  · refine ⟨vi_ (by omega) (by omega), hQ _ (C.mk' ⟨fun i hi => ?_, fun k hk => ?_⟩ hV ?_ (fun t ht => ⟨?_, ?_, ?_⟩) (fun i q hq => ?_)) ⟨fun i hi => ?_, fun k hk => ?_⟩⟩
    · simp only [pk_un hi]
    · simp only [am_vn (show k ≠ 14 by omega), am_vn (show k ≠ 13 by omega), am_vn (show k ≠ 12 by omega), am_vn (show k ≠ 11 by omega)]
    · simp only [pk_us, List.length_cons]
    · simp only [am_vn (show (11 : Nat) ≠ 14 by decide), am_vn (show (11 : Nat) ≠ 13 by decide), am_vn (show (11 : Nat) ≠ 12 by decide), am_vs]
      exact hld t ht
    · simp only [am_vn (show (12 : Nat) ≠ 14 by decide), am_vn (show (12 : Nat) ≠ 13 by decide), am_vs]
      exact hrg t ht
    · simp only [am_vn (show (13 : Nat) ≠ 14 by decide), am_vs, upd, pu_hs]
      by_cases e2 : t = w
      · rw [if_pos e2, if_pos e2, e]
      · rw [if_neg e2, if_neg e2, C.sp ht]
    · simp only [am_vs]
      exact htr i q hq
    · simp only [pk_un hi]
    · simp only [am_vn (show k ≠ 14 by omega), am_vn (show k ≠ 13 by omega), am_vn (show k ≠ 12 by omega), am_vn (show k ≠ 11 by omega)]
/-- Groups.join -/
theorem sp_4 (C : tn_C n m ar sg pt hs h) {a b : Nat} (ha : a < n) (hb : b < n) (hQ : ∀ h', tn_C n m ar sg pt (pu_jn hs a b) h' → tn_fG h h' → Q h' (.inl none)) :
    am_AW tn_G tn_X (4, 0, 0, [some (.ref 2), some (.int (nI a)), some (.int (nI b)), none, none], [], h) Q := by
  have hn := C.le
  have ga := C.g ha
  have gb := C.g hb
  have hV := pu_jn_V C.V ha hb
  refine am_AW.run 29 ?_
  simp only [am_Zs, am_zn_1, am_g3, am_a3, am_kz_l, am_kz_r, am_mem, Bool.false_eq_true, am_Rs, am_R0, am_g2, am_al, am_kk_l, am_kk_r, am_step, am_op, am_one, am_two, am_br, am_inv, am_pp, am_ct, am_in, am_no, am_rc, am_s1, am_cut, am_s2, List.getElem?_cons_zero, List.getElem?_cons_succ, List.set_cons_zero, List.set_cons_succ, Value.category, List.cons_append, List.nil_append, am_f0, am_f1, am_f2, am_f3, am_cm1, am_c0, am_c1, am_c2, am_c3, am_c20, am_c40, am_c400, am_c401, am_c1600, true_and, and_true, true_implies, if_true, if_false, Nat.reduceAdd, Nat.reduceSub, Nat.reduceLT, Nat.reduceLeDiff, Nat.reduceEqDiff, reduceIte, Nat.le_refl, or_false, false_and, false_implies, or_true, true_or, implies_true, pk_us, pk_un, am_vs, am_vn, bx_uu, ne_eq, not_false_eq_true, not_true_eq_false, am_b0, am_b1, Nat.not_lt_zero, am_tl0, am_tl1, kr_4, kn_4, kl_4, kc_4_0, kc_4_1, kf_4_9, kc_4_4, kc_4_5, kc_4_6, kc_4_7, kc_4_10, kc_4_11, kc_4_12, kc_4_15, kc_4_16, kc_4_17, kc_4_20, kc_4_21, kc_4_22, kc_4_23, kc_4_26, kc_4_27, kc_4_28, ka_4_51, kc_4_31, kc_4_32, kc_4_33, kc_4_36, kc_4_37, kc_4_38, kc_4_39, kc_4_42, kc_4_43, kc_4_44, ka_4_56, kc_4_47, kc_4_49, kc_4_50, kc_4_52, kc_4_53, kl_5, ko_5, kn_5, ka_4_59, kc_4_56, kc_4_57, kc_4_58, kc_4_60, kl_6, ko_6, kn_6, ka_4_63, kc_4_63, kc_4_64, kf_4_18, kc_4_67, kc_4_68, kc_4_69, kc_4_70, kc_4_73, kc_4_74, kc_4_77, kc_4_78, kc_4_79, kc_4_82, kc_4_84, kc_4_85, kc_4_86, kc_4_87, kf_4_21, kc_4_90, kc_4_91, kf_4_24, kc_4_94, kc_4_96, kc_4_97, kc_4_98, kc_4_99, kc_4_102, kc_4_103, kc_4_104, kc_4_107, tn_X0, tn_X1, tn_X2, tn_X3, tn_X4, tn_X5, tn_X6, tn_X7, tn_X8, tn_X9, tn_X10, tn_X11, tn_X12, tn_X13, tn_X14, tn_X15, tn_X16, tn_X17, tn_X18, tn_X19, tn_X20, tn_X21, tn_X22]
  rw [cl_ (by omega), cl_ (by omega), C.ld ha, C.ld hb, nI_eq (by omega) (by omega)]
  refine ⟨vi_ (by omega) (by omega), vi_ (by omega) (by omega), fun hne => ⟨vi_ (by omega) (by omega), vi_ (by omega) (by omega), vi_ (by omega) (by omega), vi_ (by omega) (by omega), ?_⟩, fun e => ?_⟩
  · unfold pu_jn at hV hQ
    rw [if_neg hne] at hV hQ
    by_cases l : pu_hg hs a < pu_hg hs b
    · rw [if_pos l] at hV hQ
      rw [if_neg (nI_nlt (by omega) (by omega)), if_pos (nI_lt l (by omega))]
      exact sp_4c C hV _ _ hQ
    · rw [if_neg l] at hV hQ
      rw [if_pos (nI_lt (by omega) (by omega)), if_neg (nI_nlt (by omega) (by omega))]
      exact sp_4c C hV _ _ hQ
  · unfold pu_jn at hQ
    rw [if_pos e] at hQ
    exact hQ h C tn_fG.rf
end JN
end
section
/-! Groups: settling, undoing. -/
section ST
variable {n m : Nat} {ar : Nat → Nat} {sg : Nat → Option Nat} {pt : Nat → Nat → Nat} {hs : List (Nat × Nat)} {h : am_S} {Q : am_Q}
/-- joinParts, its loop -/
theorem sp_8l (v : Option Value) {x c : Nat} (hx : x < n) (hc : c < n) (hs2 : sg x = sg c) (hQ : ∀ h', tn_C n m ar sg pt (pu_jp pt x c (pu_np sg ar x) hs) h' → tn_fG h h' → Q h' (.inl (some (.int (nI 1))))) :
    ∀ (d k : Nat) (h1 : am_S), pu_np sg ar x - k = d → k ≤ pu_np sg ar x → tn_C n m ar sg pt (pu_jp pt x c k hs) h1 → tn_fG h h1 → am_AW tn_G tn_X (8, 51, 0, [some (.ref 2), v, some (.int (nI x)), some (.int (nI c)), some (.int (nI k))], [], h1) Q := by
  intro d
  induction d with
  | zero =>
    intro k h1 hd hk C fr
    have h3 := C.p3 hx
    have hke : k = pu_np sg ar x := by omega
    refine am_AW.go [51] 60 ?_
    simp only [am_Zs, am_zn_1, am_g3, am_a3, am_kz_l, am_kz_r, am_mem, Bool.false_eq_true, am_Rs, am_R0, am_g2, am_al, am_kk_l, am_kk_r, am_step, am_op, am_one, am_two, am_br, am_inv, am_pp, am_ct, am_in, am_no, am_rc, am_s1, am_cut, am_s2, List.getElem?_cons_zero, List.getElem?_cons_succ, List.set_cons_zero, List.set_cons_succ, Value.category, List.cons_append, List.nil_append, am_f0, am_f1, am_f2, am_f3, am_cm1, am_c0, am_c1, am_c2, am_c3, am_c20, am_c40, am_c400, am_c401, am_c1600, true_and, and_true, true_implies, if_true, if_false, Nat.reduceAdd, Nat.reduceSub, Nat.reduceLT, Nat.reduceLeDiff, Nat.reduceEqDiff, reduceIte, Nat.le_refl, or_false, false_and, false_implies, or_true, true_or, implies_true, pk_us, pk_un, am_vs, am_vn, bx_uu, ne_eq, not_false_eq_true, not_true_eq_false, am_b0, am_b1, Nat.not_lt_zero, am_tl0, am_tl1, kr_8, kn_8, kl_8, kc_8_0, kc_8_1, kf_8_18, kc_8_4, kc_8_5, kc_8_6, kc_8_7, kc_8_8, kc_8_9, kl_9, ko_9, kn_9, ka_8_37, kc_8_12, kc_8_13, kc_8_14, kc_8_15, kc_8_18, kc_8_19, kc_8_20, kc_8_23, kc_8_24, kc_8_25, kc_8_26, kf_8_28, kc_8_29, kf_8_32, kc_8_32, kc_8_33, kc_8_34, kc_8_35, kc_8_38, kc_8_41, kc_8_42, kc_8_43, kc_8_46, kc_8_47, kc_8_48, kc_8_49, kc_8_51, kc_8_53, kc_8_54, kc_8_57, kc_8_58, kl_21, ko_21, kn_21, ka_8_41, kc_8_61, kc_8_64, kc_8_65, kc_8_66, kc_8_69, kc_8_70, kc_8_72, kl_22, ko_22, kn_22, ka_8_44, kc_8_75, kc_8_76, kc_8_79, kc_8_80, kc_8_82, kc_8_85, kl_4, ko_4, kn_4, ka_8_70, kc_8_88, kc_8_91, kc_8_94, kc_8_95, tn_X0, tn_X1, tn_X2, tn_X3, tn_X4, tn_X5, tn_X6, tn_X7, tn_X8, tn_X9, tn_X10, tn_X11, tn_X12, tn_X13, tn_X14, tn_X15, tn_X16, tn_X17, tn_X18, tn_X19, tn_X20, tn_X21, tn_X22]
    refine sp_21 C hx ?_
    simp only [am_Zs, am_zn_1, am_g3, am_a3, am_kz_l, am_kz_r, am_mem, Bool.false_eq_true, am_Rs, am_R0, am_g2, am_al, am_kk_l, am_kk_r, am_step, am_op, am_one, am_two, am_br, am_inv, am_pp, am_ct, am_in, am_no, am_rc, am_s1, am_cut, am_s2, List.getElem?_cons_zero, List.getElem?_cons_succ, List.set_cons_zero, List.set_cons_succ, Value.category, List.cons_append, List.nil_append, am_f0, am_f1, am_f2, am_f3, am_cm1, am_c0, am_c1, am_c2, am_c3, am_c20, am_c40, am_c400, am_c401, am_c1600, true_and, and_true, true_implies, if_true, if_false, Nat.reduceAdd, Nat.reduceSub, Nat.reduceLT, Nat.reduceLeDiff, Nat.reduceEqDiff, reduceIte, Nat.le_refl, or_false, false_and, false_implies, or_true, true_or, implies_true, pk_us, pk_un, am_vs, am_vn, bx_uu, ne_eq, not_false_eq_true, not_true_eq_false, am_b0, am_b1, Nat.not_lt_zero, am_tl0, am_tl1, kr_8, kn_8, kl_8, kc_8_0, kc_8_1, kf_8_18, kc_8_4, kc_8_5, kc_8_6, kc_8_7, kc_8_8, kc_8_9, kl_9, ko_9, kn_9, ka_8_37, kc_8_12, kc_8_13, kc_8_14, kc_8_15, kc_8_18, kc_8_19, kc_8_20, kc_8_23, kc_8_24, kc_8_25, kc_8_26, kf_8_28, kc_8_29, kf_8_32, kc_8_32, kc_8_33, kc_8_34, kc_8_35, kc_8_38, kc_8_41, kc_8_42, kc_8_43, kc_8_46, kc_8_47, kc_8_48, kc_8_49, kc_8_51, kc_8_53, kc_8_54, kc_8_57, kc_8_58, kl_21, ko_21, kn_21, ka_8_41, kc_8_61, kc_8_64, kc_8_65, kc_8_66, kc_8_69, kc_8_70, kc_8_72, kl_22, ko_22, kn_22, ka_8_44, kc_8_75, kc_8_76, kc_8_79, kc_8_80, kc_8_82, kc_8_85, kl_4, ko_4, kn_4, ka_8_70, kc_8_88, kc_8_91, kc_8_94, kc_8_95, tn_X0, tn_X1, tn_X2, tn_X3, tn_X4, tn_X5, tn_X6, tn_X7, tn_X8, tn_X9, tn_X10, tn_X11, tn_X12, tn_X13, tn_X14, tn_X15, tn_X16, tn_X17, tn_X18, tn_X19, tn_X20, tn_X21, tn_X22]
    rw [nI_leI (by omega) (by omega)]
    refine ⟨fun _ => ?_, fun q => by omega⟩
    rw [hke] at C
    exact hQ h1 C fr
  | succ d ih =>
    intro k h1 hd hk C fr
    have h3 := C.p3 hx
    have hk1 : k < pu_np sg ar x := by omega
    have hk2 : k < pu_np sg ar c := by rw [← pu_np_eq hs2]; exact hk1
    refine am_AW.go [51] 60 ?_
    simp only [am_Zs, am_zn_1, am_g3, am_a3, am_kz_l, am_kz_r, am_mem, Bool.false_eq_true, am_Rs, am_R0, am_g2, am_al, am_kk_l, am_kk_r, am_step, am_op, am_one, am_two, am_br, am_inv, am_pp, am_ct, am_in, am_no, am_rc, am_s1, am_cut, am_s2, List.getElem?_cons_zero, List.getElem?_cons_succ, List.set_cons_zero, List.set_cons_succ, Value.category, List.cons_append, List.nil_append, am_f0, am_f1, am_f2, am_f3, am_cm1, am_c0, am_c1, am_c2, am_c3, am_c20, am_c40, am_c400, am_c401, am_c1600, true_and, and_true, true_implies, if_true, if_false, Nat.reduceAdd, Nat.reduceSub, Nat.reduceLT, Nat.reduceLeDiff, Nat.reduceEqDiff, reduceIte, Nat.le_refl, or_false, false_and, false_implies, or_true, true_or, implies_true, pk_us, pk_un, am_vs, am_vn, bx_uu, ne_eq, not_false_eq_true, not_true_eq_false, am_b0, am_b1, Nat.not_lt_zero, am_tl0, am_tl1, kr_8, kn_8, kl_8, kc_8_0, kc_8_1, kf_8_18, kc_8_4, kc_8_5, kc_8_6, kc_8_7, kc_8_8, kc_8_9, kl_9, ko_9, kn_9, ka_8_37, kc_8_12, kc_8_13, kc_8_14, kc_8_15, kc_8_18, kc_8_19, kc_8_20, kc_8_23, kc_8_24, kc_8_25, kc_8_26, kf_8_28, kc_8_29, kf_8_32, kc_8_32, kc_8_33, kc_8_34, kc_8_35, kc_8_38, kc_8_41, kc_8_42, kc_8_43, kc_8_46, kc_8_47, kc_8_48, kc_8_49, kc_8_51, kc_8_53, kc_8_54, kc_8_57, kc_8_58, kl_21, ko_21, kn_21, ka_8_41, kc_8_61, kc_8_64, kc_8_65, kc_8_66, kc_8_69, kc_8_70, kc_8_72, kl_22, ko_22, kn_22, ka_8_44, kc_8_75, kc_8_76, kc_8_79, kc_8_80, kc_8_82, kc_8_85, kl_4, ko_4, kn_4, ka_8_70, kc_8_88, kc_8_91, kc_8_94, kc_8_95, tn_X0, tn_X1, tn_X2, tn_X3, tn_X4, tn_X5, tn_X6, tn_X7, tn_X8, tn_X9, tn_X10, tn_X11, tn_X12, tn_X13, tn_X14, tn_X15, tn_X16, tn_X17, tn_X18, tn_X19, tn_X20, tn_X21, tn_X22]
    refine sp_21 C hx ?_
    simp only [am_Zs, am_zn_1, am_g3, am_a3, am_kz_l, am_kz_r, am_mem, Bool.false_eq_true, am_Rs, am_R0, am_g2, am_al, am_kk_l, am_kk_r, am_step, am_op, am_one, am_two, am_br, am_inv, am_pp, am_ct, am_in, am_no, am_rc, am_s1, am_cut, am_s2, List.getElem?_cons_zero, List.getElem?_cons_succ, List.set_cons_zero, List.set_cons_succ, Value.category, List.cons_append, List.nil_append, am_f0, am_f1, am_f2, am_f3, am_cm1, am_c0, am_c1, am_c2, am_c3, am_c20, am_c40, am_c400, am_c401, am_c1600, true_and, and_true, true_implies, if_true, if_false, Nat.reduceAdd, Nat.reduceSub, Nat.reduceLT, Nat.reduceLeDiff, Nat.reduceEqDiff, reduceIte, Nat.le_refl, or_false, false_and, false_implies, or_true, true_or, implies_true, pk_us, pk_un, am_vs, am_vn, bx_uu, ne_eq, not_false_eq_true, not_true_eq_false, am_b0, am_b1, Nat.not_lt_zero, am_tl0, am_tl1, kr_8, kn_8, kl_8, kc_8_0, kc_8_1, kf_8_18, kc_8_4, kc_8_5, kc_8_6, kc_8_7, kc_8_8, kc_8_9, kl_9, ko_9, kn_9, ka_8_37, kc_8_12, kc_8_13, kc_8_14, kc_8_15, kc_8_18, kc_8_19, kc_8_20, kc_8_23, kc_8_24, kc_8_25, kc_8_26, kf_8_28, kc_8_29, kf_8_32, kc_8_32, kc_8_33, kc_8_34, kc_8_35, kc_8_38, kc_8_41, kc_8_42, kc_8_43, kc_8_46, kc_8_47, kc_8_48, kc_8_49, kc_8_51, kc_8_53, kc_8_54, kc_8_57, kc_8_58, kl_21, ko_21, kn_21, ka_8_41, kc_8_61, kc_8_64, kc_8_65, kc_8_66, kc_8_69, kc_8_70, kc_8_72, kl_22, ko_22, kn_22, ka_8_44, kc_8_75, kc_8_76, kc_8_79, kc_8_80, kc_8_82, kc_8_85, kl_4, ko_4, kn_4, ka_8_70, kc_8_88, kc_8_91, kc_8_94, kc_8_95, tn_X0, tn_X1, tn_X2, tn_X3, tn_X4, tn_X5, tn_X6, tn_X7, tn_X8, tn_X9, tn_X10, tn_X11, tn_X12, tn_X13, tn_X14, tn_X15, tn_X16, tn_X17, tn_X18, tn_X19, tn_X20, tn_X21, tn_X22]
    rw [nI_leI (by omega) (by omega)]
    refine ⟨fun q => by omega, fun _ => ?_⟩
    refine sp_22 C hx hk1 ?_
    simp only [am_Zs, am_zn_1, am_g3, am_a3, am_kz_l, am_kz_r, am_mem, Bool.false_eq_true, am_Rs, am_R0, am_g2, am_al, am_kk_l, am_kk_r, am_step, am_op, am_one, am_two, am_br, am_inv, am_pp, am_ct, am_in, am_no, am_rc, am_s1, am_cut, am_s2, List.getElem?_cons_zero, List.getElem?_cons_succ, List.set_cons_zero, List.set_cons_succ, Value.category, List.cons_append, List.nil_append, am_f0, am_f1, am_f2, am_f3, am_cm1, am_c0, am_c1, am_c2, am_c3, am_c20, am_c40, am_c400, am_c401, am_c1600, true_and, and_true, true_implies, if_true, if_false, Nat.reduceAdd, Nat.reduceSub, Nat.reduceLT, Nat.reduceLeDiff, Nat.reduceEqDiff, reduceIte, Nat.le_refl, or_false, false_and, false_implies, or_true, true_or, implies_true, pk_us, pk_un, am_vs, am_vn, bx_uu, ne_eq, not_false_eq_true, not_true_eq_false, am_b0, am_b1, Nat.not_lt_zero, am_tl0, am_tl1, kr_8, kn_8, kl_8, kc_8_0, kc_8_1, kf_8_18, kc_8_4, kc_8_5, kc_8_6, kc_8_7, kc_8_8, kc_8_9, kl_9, ko_9, kn_9, ka_8_37, kc_8_12, kc_8_13, kc_8_14, kc_8_15, kc_8_18, kc_8_19, kc_8_20, kc_8_23, kc_8_24, kc_8_25, kc_8_26, kf_8_28, kc_8_29, kf_8_32, kc_8_32, kc_8_33, kc_8_34, kc_8_35, kc_8_38, kc_8_41, kc_8_42, kc_8_43, kc_8_46, kc_8_47, kc_8_48, kc_8_49, kc_8_51, kc_8_53, kc_8_54, kc_8_57, kc_8_58, kl_21, ko_21, kn_21, ka_8_41, kc_8_61, kc_8_64, kc_8_65, kc_8_66, kc_8_69, kc_8_70, kc_8_72, kl_22, ko_22, kn_22, ka_8_44, kc_8_75, kc_8_76, kc_8_79, kc_8_80, kc_8_82, kc_8_85, kl_4, ko_4, kn_4, ka_8_70, kc_8_88, kc_8_91, kc_8_94, kc_8_95, tn_X0, tn_X1, tn_X2, tn_X3, tn_X4, tn_X5, tn_X6, tn_X7, tn_X8, tn_X9, tn_X10, tn_X11, tn_X12, tn_X13, tn_X14, tn_X15, tn_X16, tn_X17, tn_X18, tn_X19, tn_X20, tn_X21, tn_X22]
    refine sp_22 C hc hk2 ?_
    simp only [am_Zs, am_zn_1, am_g3, am_a3, am_kz_l, am_kz_r, am_mem, Bool.false_eq_true, am_Rs, am_R0, am_g2, am_al, am_kk_l, am_kk_r, am_step, am_op, am_one, am_two, am_br, am_inv, am_pp, am_ct, am_in, am_no, am_rc, am_s1, am_cut, am_s2, List.getElem?_cons_zero, List.getElem?_cons_succ, List.set_cons_zero, List.set_cons_succ, Value.category, List.cons_append, List.nil_append, am_f0, am_f1, am_f2, am_f3, am_cm1, am_c0, am_c1, am_c2, am_c3, am_c20, am_c40, am_c400, am_c401, am_c1600, true_and, and_true, true_implies, if_true, if_false, Nat.reduceAdd, Nat.reduceSub, Nat.reduceLT, Nat.reduceLeDiff, Nat.reduceEqDiff, reduceIte, Nat.le_refl, or_false, false_and, false_implies, or_true, true_or, implies_true, pk_us, pk_un, am_vs, am_vn, bx_uu, ne_eq, not_false_eq_true, not_true_eq_false, am_b0, am_b1, Nat.not_lt_zero, am_tl0, am_tl1, kr_8, kn_8, kl_8, kc_8_0, kc_8_1, kf_8_18, kc_8_4, kc_8_5, kc_8_6, kc_8_7, kc_8_8, kc_8_9, kl_9, ko_9, kn_9, ka_8_37, kc_8_12, kc_8_13, kc_8_14, kc_8_15, kc_8_18, kc_8_19, kc_8_20, kc_8_23, kc_8_24, kc_8_25, kc_8_26, kf_8_28, kc_8_29, kf_8_32, kc_8_32, kc_8_33, kc_8_34, kc_8_35, kc_8_38, kc_8_41, kc_8_42, kc_8_43, kc_8_46, kc_8_47, kc_8_48, kc_8_49, kc_8_51, kc_8_53, kc_8_54, kc_8_57, kc_8_58, kl_21, ko_21, kn_21, ka_8_41, kc_8_61, kc_8_64, kc_8_65, kc_8_66, kc_8_69, kc_8_70, kc_8_72, kl_22, ko_22, kn_22, ka_8_44, kc_8_75, kc_8_76, kc_8_79, kc_8_80, kc_8_82, kc_8_85, kl_4, ko_4, kn_4, ka_8_70, kc_8_88, kc_8_91, kc_8_94, kc_8_95, tn_X0, tn_X1, tn_X2, tn_X3, tn_X4, tn_X5, tn_X6, tn_X7, tn_X8, tn_X9, tn_X10, tn_X11, tn_X12, tn_X13, tn_X14, tn_X15, tn_X16, tn_X17, tn_X18, tn_X19, tn_X20, tn_X21, tn_X22]
    refine sp_4 C (C.pl hx hk1) (C.pl hc hk2) (fun h2 C2 fr2 => ?_)
    simp only [am_Zs, am_zn_1, am_g3, am_a3, am_kz_l, am_kz_r, am_mem, Bool.false_eq_true, am_Rs, am_R0, am_g2, am_al, am_kk_l, am_kk_r, am_step, am_op, am_one, am_two, am_br, am_inv, am_pp, am_ct, am_in, am_no, am_rc, am_s1, am_cut, am_s2, List.getElem?_cons_zero, List.getElem?_cons_succ, List.set_cons_zero, List.set_cons_succ, Value.category, List.cons_append, List.nil_append, am_f0, am_f1, am_f2, am_f3, am_cm1, am_c0, am_c1, am_c2, am_c3, am_c20, am_c40, am_c400, am_c401, am_c1600, true_and, and_true, true_implies, if_true, if_false, Nat.reduceAdd, Nat.reduceSub, Nat.reduceLT, Nat.reduceLeDiff, Nat.reduceEqDiff, reduceIte, Nat.le_refl, or_false, false_and, false_implies, or_true, true_or, implies_true, pk_us, pk_un, am_vs, am_vn, bx_uu, ne_eq, not_false_eq_true, not_true_eq_false, am_b0, am_b1, Nat.not_lt_zero, am_tl0, am_tl1, kr_8, kn_8, kl_8, kc_8_0, kc_8_1, kf_8_18, kc_8_4, kc_8_5, kc_8_6, kc_8_7, kc_8_8, kc_8_9, kl_9, ko_9, kn_9, ka_8_37, kc_8_12, kc_8_13, kc_8_14, kc_8_15, kc_8_18, kc_8_19, kc_8_20, kc_8_23, kc_8_24, kc_8_25, kc_8_26, kf_8_28, kc_8_29, kf_8_32, kc_8_32, kc_8_33, kc_8_34, kc_8_35, kc_8_38, kc_8_41, kc_8_42, kc_8_43, kc_8_46, kc_8_47, kc_8_48, kc_8_49, kc_8_51, kc_8_53, kc_8_54, kc_8_57, kc_8_58, kl_21, ko_21, kn_21, ka_8_41, kc_8_61, kc_8_64, kc_8_65, kc_8_66, kc_8_69, kc_8_70, kc_8_72, kl_22, ko_22, kn_22, ka_8_44, kc_8_75, kc_8_76, kc_8_79, kc_8_80, kc_8_82, kc_8_85, kl_4, ko_4, kn_4, ka_8_70, kc_8_88, kc_8_91, kc_8_94, kc_8_95, tn_X0, tn_X1, tn_X2, tn_X3, tn_X4, tn_X5, tn_X6, tn_X7, tn_X8, tn_X9, tn_X10, tn_X11, tn_X12, tn_X13, tn_X14, tn_X15, tn_X16, tn_X17, tn_X18, tn_X19, tn_X20, tn_X21, tn_X22]
    rw [nI_add]
    exact ih (k + 1) h2 (by omega) (by omega) C2 (fr.tr fr2)
/-- Groups.joinParts -/
theorem sp_8 (C : tn_C n m ar sg pt hs h) {l : Nat} (hl : l < n) (h1 : pu_hs sg hs l = none ∨ pu_hs sg hs l = pu_hs sg hs (pu_hg hs l) → Q h (.inl (some (.int (nI 1)))))
    (h2 : ∀ x c, pu_hs sg hs l = some x → pu_hs sg hs (pu_hg hs l) = some c → sg x ≠ sg c → Q h (.inl (some (.int (nI 0)))))
    (h3 : ∀ x c, pu_hs sg hs l = some x → pu_hs sg hs (pu_hg hs l) = some c → sg x = sg c → ∀ h', tn_C n m ar sg pt (pu_jp pt x c (pu_np sg ar x) hs) h' → tn_fG h h' → Q h' (.inl (some (.int (nI 1))))) :
    am_AW tn_G tn_X (8, 0, 0, [some (.ref 2), some (.int (nI l)), none, none, none], [], h) Q := by
  have hn := C.le
  have hg := C.g hl
  refine am_AW.go [51] 60 ?_
  simp only [am_Zs, am_zn_1, am_g3, am_a3, am_kz_l, am_kz_r, am_mem, Bool.false_eq_true, am_Rs, am_R0, am_g2, am_al, am_kk_l, am_kk_r, am_step, am_op, am_one, am_two, am_br, am_inv, am_pp, am_ct, am_in, am_no, am_rc, am_s1, am_cut, am_s2, List.getElem?_cons_zero, List.getElem?_cons_succ, List.set_cons_zero, List.set_cons_succ, Value.category, List.cons_append, List.nil_append, am_f0, am_f1, am_f2, am_f3, am_cm1, am_c0, am_c1, am_c2, am_c3, am_c20, am_c40, am_c400, am_c401, am_c1600, true_and, and_true, true_implies, if_true, if_false, Nat.reduceAdd, Nat.reduceSub, Nat.reduceLT, Nat.reduceLeDiff, Nat.reduceEqDiff, reduceIte, Nat.le_refl, or_false, false_and, false_implies, or_true, true_or, implies_true, pk_us, pk_un, am_vs, am_vn, bx_uu, ne_eq, not_false_eq_true, not_true_eq_false, am_b0, am_b1, Nat.not_lt_zero, am_tl0, am_tl1, kr_8, kn_8, kl_8, kc_8_0, kc_8_1, kf_8_18, kc_8_4, kc_8_5, kc_8_6, kc_8_7, kc_8_8, kc_8_9, kl_9, ko_9, kn_9, ka_8_37, kc_8_12, kc_8_13, kc_8_14, kc_8_15, kc_8_18, kc_8_19, kc_8_20, kc_8_23, kc_8_24, kc_8_25, kc_8_26, kf_8_28, kc_8_29, kf_8_32, kc_8_32, kc_8_33, kc_8_34, kc_8_35, kc_8_38, kc_8_41, kc_8_42, kc_8_43, kc_8_46, kc_8_47, kc_8_48, kc_8_49, kc_8_51, kc_8_53, kc_8_54, kc_8_57, kc_8_58, kl_21, ko_21, kn_21, ka_8_41, kc_8_61, kc_8_64, kc_8_65, kc_8_66, kc_8_69, kc_8_70, kc_8_72, kl_22, ko_22, kn_22, ka_8_44, kc_8_75, kc_8_76, kc_8_79, kc_8_80, kc_8_82, kc_8_85, kl_4, ko_4, kn_4, ka_8_70, kc_8_88, kc_8_91, kc_8_94, kc_8_95, tn_X0, tn_X1, tn_X2, tn_X3, tn_X4, tn_X5, tn_X6, tn_X7, tn_X8, tn_X9, tn_X10, tn_X11, tn_X12, tn_X13, tn_X14, tn_X15, tn_X16, tn_X17, tn_X18, tn_X19, tn_X20, tn_X21, tn_X22]
  refine ⟨vi_ (by omega) (by omega), ?_⟩
  refine sp_9 C hl ?_
  simp only [am_Zs, am_zn_1, am_g3, am_a3, am_kz_l, am_kz_r, am_mem, Bool.false_eq_true, am_Rs, am_R0, am_g2, am_al, am_kk_l, am_kk_r, am_step, am_op, am_one, am_two, am_br, am_inv, am_pp, am_ct, am_in, am_no, am_rc, am_s1, am_cut, am_s2, List.getElem?_cons_zero, List.getElem?_cons_succ, List.set_cons_zero, List.set_cons_succ, Value.category, List.cons_append, List.nil_append, am_f0, am_f1, am_f2, am_f3, am_cm1, am_c0, am_c1, am_c2, am_c3, am_c20, am_c40, am_c400, am_c401, am_c1600, true_and, and_true, true_implies, if_true, if_false, Nat.reduceAdd, Nat.reduceSub, Nat.reduceLT, Nat.reduceLeDiff, Nat.reduceEqDiff, reduceIte, Nat.le_refl, or_false, false_and, false_implies, or_true, true_or, implies_true, pk_us, pk_un, am_vs, am_vn, bx_uu, ne_eq, not_false_eq_true, not_true_eq_false, am_b0, am_b1, Nat.not_lt_zero, am_tl0, am_tl1, kr_8, kn_8, kl_8, kc_8_0, kc_8_1, kf_8_18, kc_8_4, kc_8_5, kc_8_6, kc_8_7, kc_8_8, kc_8_9, kl_9, ko_9, kn_9, ka_8_37, kc_8_12, kc_8_13, kc_8_14, kc_8_15, kc_8_18, kc_8_19, kc_8_20, kc_8_23, kc_8_24, kc_8_25, kc_8_26, kf_8_28, kc_8_29, kf_8_32, kc_8_32, kc_8_33, kc_8_34, kc_8_35, kc_8_38, kc_8_41, kc_8_42, kc_8_43, kc_8_46, kc_8_47, kc_8_48, kc_8_49, kc_8_51, kc_8_53, kc_8_54, kc_8_57, kc_8_58, kl_21, ko_21, kn_21, ka_8_41, kc_8_61, kc_8_64, kc_8_65, kc_8_66, kc_8_69, kc_8_70, kc_8_72, kl_22, ko_22, kn_22, ka_8_44, kc_8_75, kc_8_76, kc_8_79, kc_8_80, kc_8_82, kc_8_85, kl_4, ko_4, kn_4, ka_8_70, kc_8_88, kc_8_91, kc_8_94, kc_8_95, tn_X0, tn_X1, tn_X2, tn_X3, tn_X4, tn_X5, tn_X6, tn_X7, tn_X8, tn_X9, tn_X10, tn_X11, tn_X12, tn_X13, tn_X14, tn_X15, tn_X16, tn_X17, tn_X18, tn_X19, tn_X20, tn_X21, tn_X22]
  rw [cl_ (by omega), C.sp hl, C.spn hl]
  refine ⟨fun e => h1 (Or.inl e), fun hne => ?_⟩
  cases hx : pu_hs sg hs l with
  | none => exact absurd hx hne
  | some x =>
    obtain ⟨c, hc, -, -⟩ := pu_common (sg := sg) C.V hx
    have hxn := C.sx hl hx
    have hcn := C.sx hg hc
    simp only [hc, tn_o]
    rw [nI_eq (by omega) (by omega), cl_ (by omega), cl_ (by omega), C.sn hxn, C.sn hcn]
    refine ⟨fun hxc => ⟨vi_ (by omega) (by omega), vi_ (by omega) (by omega), fun e => ?_, fun e => ?_⟩, fun e => h1 (Or.inr (by rw [hx, hc, e]))⟩
    · have es : sg x = sg c := by
        cases e1 : sg x with
        | none =>
          rw [e1] at e
          have := (C.son hcn).mp e.symm
          rw [this]
        | some a =>
          cases e2 : sg c with
          | none =>
            rw [e2] at e
            have := (C.son hxn).mp e
            rw [e1] at this
            cases this
          | some b =>
            rw [e1, e2] at e
            have b1 := C.sm hxn e1
            have b2 := C.sm hcn e2
            have b3 := C.m4
            rw [(nI_eq (by omega) (by omega)).mp e]
      exact sp_8l _ hxn hcn es (h3 x c hx hc es) _ 0 h rfl (Nat.zero_le _) C tn_fG.rf
    · exact h2 x c hx hc (fun es => e (by rw [es]))
/-- settle, its loop -/
theorem sp_7l (w : Int32) {hs0 : List (Nat × Nat)} {a b : Nat}
    (h1 : ∀ hs' h', tn_C n m ar sg pt hs' h' → tn_fG h h' → pu_SI n sg ar pt hs0 a b hs'.length hs' → Q h' (.inl (some (.int (nI 1)))))
    (h0 : ∀ hs' h', tn_C n m ar sg pt hs' h' → tn_fG h h' → (∃ ns, hs' = ns ++ hs0) → (∀ g', ¬ pu_Clo n sg ar pt (pu_hg hs0) a b g') → Q h' (.inl (some (.int (nI 0))))) :
    ∀ (d i : Nat) (hs : List (Nat × Nat)) (h2 : am_S), 400 - i = d → tn_C n m ar sg pt hs h2 → tn_fG h h2 → pu_SI n sg ar pt hs0 a b i hs → am_AW tn_G tn_X (7, 2, 0, [some (.ref 2), some (.int w), some (.int (nI i))], [], h2) Q := by
  intro d
  induction d with
  | zero =>
    intro i hs h2 hd C fr S
    have hn := C.le
    have hi := S.2.2.1
    have hl := pu_len0 C.V
    have : i = hs.length := by omega
    subst this
    refine am_AW.go [2] 60 ?_
    simp only [am_Zs, am_zn_1, am_g3, am_a3, am_kz_l, am_kz_r, am_mem, Bool.false_eq_true, am_Rs, am_R0, am_g2, am_al, am_kk_l, am_kk_r, am_step, am_op, am_one, am_two, am_br, am_inv, am_pp, am_ct, am_in, am_no, am_rc, am_s1, am_cut, am_s2, List.getElem?_cons_zero, List.getElem?_cons_succ, List.set_cons_zero, List.set_cons_succ, Value.category, List.cons_append, List.nil_append, am_f0, am_f1, am_f2, am_f3, am_cm1, am_c0, am_c1, am_c2, am_c3, am_c20, am_c40, am_c400, am_c401, am_c1600, true_and, and_true, true_implies, if_true, if_false, Nat.reduceAdd, Nat.reduceSub, Nat.reduceLT, Nat.reduceLeDiff, Nat.reduceEqDiff, reduceIte, Nat.le_refl, or_false, false_and, false_implies, or_true, true_or, implies_true, pk_us, pk_un, am_vs, am_vn, bx_uu, ne_eq, not_false_eq_true, not_true_eq_false, am_b0, am_b1, Nat.not_lt_zero, am_tl0, am_tl1, kr_7, kn_7, kl_7, kc_7_0, kc_7_1, kc_7_2, kc_7_3, kc_7_6, kc_7_9, kc_7_10, kc_7_11, kf_7_24, kc_7_14, kc_7_17, kc_7_18, kc_7_19, kf_7_21, kc_7_22, kc_7_23, kc_7_24, kl_8, ko_8, kn_8, ka_7_66, kc_7_27, kc_7_30, kc_7_31, kc_7_32, kc_7_35, kc_7_38, kc_7_39, tn_X0, tn_X1, tn_X2, tn_X3, tn_X4, tn_X5, tn_X6, tn_X7, tn_X8, tn_X9, tn_X10, tn_X11, tn_X12, tn_X13, tn_X14, tn_X15, tn_X16, tn_X17, tn_X18, tn_X19, tn_X20, tn_X21, tn_X22]
    rw [nI_leI (by omega) (by omega)]
    exact ⟨fun _ => h1 hs h2 C fr S, fun q => by omega⟩
  | succ d ih =>
    intro i hs h2 hd C fr S
    have hn := C.le
    have hi := S.2.2.1
    have hl := pu_len0 C.V
    refine am_AW.go [2] 60 ?_
    simp only [am_Zs, am_zn_1, am_g3, am_a3, am_kz_l, am_kz_r, am_mem, Bool.false_eq_true, am_Rs, am_R0, am_g2, am_al, am_kk_l, am_kk_r, am_step, am_op, am_one, am_two, am_br, am_inv, am_pp, am_ct, am_in, am_no, am_rc, am_s1, am_cut, am_s2, List.getElem?_cons_zero, List.getElem?_cons_succ, List.set_cons_zero, List.set_cons_succ, Value.category, List.cons_append, List.nil_append, am_f0, am_f1, am_f2, am_f3, am_cm1, am_c0, am_c1, am_c2, am_c3, am_c20, am_c40, am_c400, am_c401, am_c1600, true_and, and_true, true_implies, if_true, if_false, Nat.reduceAdd, Nat.reduceSub, Nat.reduceLT, Nat.reduceLeDiff, Nat.reduceEqDiff, reduceIte, Nat.le_refl, or_false, false_and, false_implies, or_true, true_or, implies_true, pk_us, pk_un, am_vs, am_vn, bx_uu, ne_eq, not_false_eq_true, not_true_eq_false, am_b0, am_b1, Nat.not_lt_zero, am_tl0, am_tl1, kr_7, kn_7, kl_7, kc_7_0, kc_7_1, kc_7_2, kc_7_3, kc_7_6, kc_7_9, kc_7_10, kc_7_11, kf_7_24, kc_7_14, kc_7_17, kc_7_18, kc_7_19, kf_7_21, kc_7_22, kc_7_23, kc_7_24, kl_8, ko_8, kn_8, ka_7_66, kc_7_27, kc_7_30, kc_7_31, kc_7_32, kc_7_35, kc_7_38, kc_7_39, tn_X0, tn_X1, tn_X2, tn_X3, tn_X4, tn_X5, tn_X6, tn_X7, tn_X8, tn_X9, tn_X10, tn_X11, tn_X12, tn_X13, tn_X14, tn_X15, tn_X16, tn_X17, tn_X18, tn_X19, tn_X20, tn_X21, tn_X22]
    rw [nI_leI (by omega) (by omega), C.2.2.1, nI_leI (by omega) (by omega), cl_ (by omega)]
    refine ⟨fun q => by omega, fun _ => ⟨fun q => ?_, fun q => ⟨vi_ (by omega) (by omega), ?_⟩⟩⟩
    · have : i = hs.length := by omega
      subst this
      exact h1 hs h2 C fr S
    · have hil : i < hs.reverse.length := by rw [List.length_reverse]; omega
      have hq : hs.reverse[i]? = some hs.reverse[i] := List.getElem?_eq_getElem hil
      rw [C.2.2.2.2.2.2.2.2 i _ hq]
      have hmem : hs.reverse[i] ∈ hs := List.mem_reverse.mp (List.mem_of_getElem? hq)
      have hln : (hs.reverse[i]).2 < n := by
        have key : ∀ {hs : List (Nat × Nat)}, pu_V n hs → ∀ q ∈ hs, q.2 < n := by
          intro hs
          induction hs with
          | nil => intro _ q hq; cases hq
          | cons p hs ih =>
            intro h q hq
            rcases List.mem_cons.mp hq with e | hq
            · subst e; exact h.2.1
            · exact ih h.2.2.2.2 q hq
        exact key C.V _ hmem
      refine sp_8 C hln (fun e => ?_) (fun x c hx hc e => ?_) (fun x c hx hc e h3 C3 fr3 => ?_)
      · simp only [am_Zs, am_zn_1, am_g3, am_a3, am_kz_l, am_kz_r, am_mem, Bool.false_eq_true, am_Rs, am_R0, am_g2, am_al, am_kk_l, am_kk_r, am_step, am_op, am_one, am_two, am_br, am_inv, am_pp, am_ct, am_in, am_no, am_rc, am_s1, am_cut, am_s2, List.getElem?_cons_zero, List.getElem?_cons_succ, List.set_cons_zero, List.set_cons_succ, Value.category, List.cons_append, List.nil_append, am_f0, am_f1, am_f2, am_f3, am_cm1, am_c0, am_c1, am_c2, am_c3, am_c20, am_c40, am_c400, am_c401, am_c1600, true_and, and_true, true_implies, if_true, if_false, Nat.reduceAdd, Nat.reduceSub, Nat.reduceLT, Nat.reduceLeDiff, Nat.reduceEqDiff, reduceIte, Nat.le_refl, or_false, false_and, false_implies, or_true, true_or, implies_true, pk_us, pk_un, am_vs, am_vn, bx_uu, ne_eq, not_false_eq_true, not_true_eq_false, am_b0, am_b1, Nat.not_lt_zero, am_tl0, am_tl1, kr_7, kn_7, kl_7, kc_7_0, kc_7_1, kc_7_2, kc_7_3, kc_7_6, kc_7_9, kc_7_10, kc_7_11, kf_7_24, kc_7_14, kc_7_17, kc_7_18, kc_7_19, kf_7_21, kc_7_22, kc_7_23, kc_7_24, kl_8, ko_8, kn_8, ka_7_66, kc_7_27, kc_7_30, kc_7_31, kc_7_32, kc_7_35, kc_7_38, kc_7_39, tn_X0, tn_X1, tn_X2, tn_X3, tn_X4, tn_X5, tn_X6, tn_X7, tn_X8, tn_X9, tn_X10, tn_X11, tn_X12, tn_X13, tn_X14, tn_X15, tn_X16, tn_X17, tn_X18, tn_X19, tn_X20, tn_X21, tn_X22]
        refine ⟨fun _ => ?_, fun q => absurd q (by decide)⟩
        rw [nI_add]
        exact ih (i + 1) hs h2 (by omega) C fr (pu_SI_skip S hq e)
      · simp only [am_Zs, am_zn_1, am_g3, am_a3, am_kz_l, am_kz_r, am_mem, Bool.false_eq_true, am_Rs, am_R0, am_g2, am_al, am_kk_l, am_kk_r, am_step, am_op, am_one, am_two, am_br, am_inv, am_pp, am_ct, am_in, am_no, am_rc, am_s1, am_cut, am_s2, List.getElem?_cons_zero, List.getElem?_cons_succ, List.set_cons_zero, List.set_cons_succ, Value.category, List.cons_append, List.nil_append, am_f0, am_f1, am_f2, am_f3, am_cm1, am_c0, am_c1, am_c2, am_c3, am_c20, am_c40, am_c400, am_c401, am_c1600, true_and, and_true, true_implies, if_true, if_false, Nat.reduceAdd, Nat.reduceSub, Nat.reduceLT, Nat.reduceLeDiff, Nat.reduceEqDiff, reduceIte, Nat.le_refl, or_false, false_and, false_implies, or_true, true_or, implies_true, pk_us, pk_un, am_vs, am_vn, bx_uu, ne_eq, not_false_eq_true, not_true_eq_false, am_b0, am_b1, Nat.not_lt_zero, am_tl0, am_tl1, kr_7, kn_7, kl_7, kc_7_0, kc_7_1, kc_7_2, kc_7_3, kc_7_6, kc_7_9, kc_7_10, kc_7_11, kf_7_24, kc_7_14, kc_7_17, kc_7_18, kc_7_19, kf_7_21, kc_7_22, kc_7_23, kc_7_24, kl_8, ko_8, kn_8, ka_7_66, kc_7_27, kc_7_30, kc_7_31, kc_7_32, kc_7_35, kc_7_38, kc_7_39, tn_X0, tn_X1, tn_X2, tn_X3, tn_X4, tn_X5, tn_X6, tn_X7, tn_X8, tn_X9, tn_X10, tn_X11, tn_X12, tn_X13, tn_X14, tn_X15, tn_X16, tn_X17, tn_X18, tn_X19, tn_X20, tn_X21, tn_X22]
        exact ⟨fun q => absurd nI_0 q, fun _ => h0 hs h2 C fr S.2.1 (fun g' hg' => pu_SI_clash S hln hx hc e g' hg')⟩
      · simp only [am_Zs, am_zn_1, am_g3, am_a3, am_kz_l, am_kz_r, am_mem, Bool.false_eq_true, am_Rs, am_R0, am_g2, am_al, am_kk_l, am_kk_r, am_step, am_op, am_one, am_two, am_br, am_inv, am_pp, am_ct, am_in, am_no, am_rc, am_s1, am_cut, am_s2, List.getElem?_cons_zero, List.getElem?_cons_succ, List.set_cons_zero, List.set_cons_succ, Value.category, List.cons_append, List.nil_append, am_f0, am_f1, am_f2, am_f3, am_cm1, am_c0, am_c1, am_c2, am_c3, am_c20, am_c40, am_c400, am_c401, am_c1600, true_and, and_true, true_implies, if_true, if_false, Nat.reduceAdd, Nat.reduceSub, Nat.reduceLT, Nat.reduceLeDiff, Nat.reduceEqDiff, reduceIte, Nat.le_refl, or_false, false_and, false_implies, or_true, true_or, implies_true, pk_us, pk_un, am_vs, am_vn, bx_uu, ne_eq, not_false_eq_true, not_true_eq_false, am_b0, am_b1, Nat.not_lt_zero, am_tl0, am_tl1, kr_7, kn_7, kl_7, kc_7_0, kc_7_1, kc_7_2, kc_7_3, kc_7_6, kc_7_9, kc_7_10, kc_7_11, kf_7_24, kc_7_14, kc_7_17, kc_7_18, kc_7_19, kf_7_21, kc_7_22, kc_7_23, kc_7_24, kl_8, ko_8, kn_8, ka_7_66, kc_7_27, kc_7_30, kc_7_31, kc_7_32, kc_7_35, kc_7_38, kc_7_39, tn_X0, tn_X1, tn_X2, tn_X3, tn_X4, tn_X5, tn_X6, tn_X7, tn_X8, tn_X9, tn_X10, tn_X11, tn_X12, tn_X13, tn_X14, tn_X15, tn_X16, tn_X17, tn_X18, tn_X19, tn_X20, tn_X21, tn_X22]
        refine ⟨fun _ => ?_, fun q => absurd q (by decide)⟩
        rw [nI_add]
        exact ih (i + 1) _ h3 (by omega) C3 (fr.tr fr3) (pu_SI_step C.T S hq hx hc e)
/-- Groups.settle, behind a join -/
theorem sp_7 {hs0 : List (Nat × Nat)} {a b : Nat} (C : tn_C n m ar sg pt hs h) (S : pu_SI n sg ar pt hs0 a b hs0.length hs)
    (h1 : ∀ hs' h', tn_C n m ar sg pt hs' h' → tn_fG h h' → pu_SI n sg ar pt hs0 a b hs'.length hs' → Q h' (.inl (some (.int (nI 1)))))
    (h0 : ∀ hs' h', tn_C n m ar sg pt hs' h' → tn_fG h h' → (∃ ns, hs' = ns ++ hs0) → (∀ g', ¬ pu_Clo n sg ar pt (pu_hg hs0) a b g') → Q h' (.inl (some (.int (nI 0))))) :
    am_AW tn_G tn_X (7, 0, 0, [some (.ref 2), some (.int (nI hs0.length)), none], [], h) Q := by
  refine am_AW.go [2] 60 ?_
  simp only [am_Zs, am_zn_1, am_g3, am_a3, am_kz_l, am_kz_r, am_mem, Bool.false_eq_true, am_Rs, am_R0, am_g2, am_al, am_kk_l, am_kk_r, am_step, am_op, am_one, am_two, am_br, am_inv, am_pp, am_ct, am_in, am_no, am_rc, am_s1, am_cut, am_s2, List.getElem?_cons_zero, List.getElem?_cons_succ, List.set_cons_zero, List.set_cons_succ, Value.category, List.cons_append, List.nil_append, am_f0, am_f1, am_f2, am_f3, am_cm1, am_c0, am_c1, am_c2, am_c3, am_c20, am_c40, am_c400, am_c401, am_c1600, true_and, and_true, true_implies, if_true, if_false, Nat.reduceAdd, Nat.reduceSub, Nat.reduceLT, Nat.reduceLeDiff, Nat.reduceEqDiff, reduceIte, Nat.le_refl, or_false, false_and, false_implies, or_true, true_or, implies_true, pk_us, pk_un, am_vs, am_vn, bx_uu, ne_eq, not_false_eq_true, not_true_eq_false, am_b0, am_b1, Nat.not_lt_zero, am_tl0, am_tl1, kr_7, kn_7, kl_7, kc_7_0, kc_7_1, kc_7_2, kc_7_3, kc_7_6, kc_7_9, kc_7_10, kc_7_11, kf_7_24, kc_7_14, kc_7_17, kc_7_18, kc_7_19, kf_7_21, kc_7_22, kc_7_23, kc_7_24, kl_8, ko_8, kn_8, ka_7_66, kc_7_27, kc_7_30, kc_7_31, kc_7_32, kc_7_35, kc_7_38, kc_7_39, tn_X0, tn_X1, tn_X2, tn_X3, tn_X4, tn_X5, tn_X6, tn_X7, tn_X8, tn_X9, tn_X10, tn_X11, tn_X12, tn_X13, tn_X14, tn_X15, tn_X16, tn_X17, tn_X18, tn_X19, tn_X20, tn_X21, tn_X22]
  exact sp_7l _ h1 h0 _ hs0.length hs h rfl C tn_fG.rf S
/-- the state but for the number of merges -/
def tn_D (n m : Nat) (ar : Nat → Nat) (sg : Nat → Option Nat) (pt : Nat → Nat → Nat) (hs : List (Nat × Nat)) (h : am_S) : Prop := tn_C n m ar sg pt hs (upd h.1 4 (nI hs.length), h.2)
theorem tn_C.D (C : tn_C n m ar sg pt hs h) : tn_D n m ar sg pt hs h := by
  have e : upd h.1 4 (nI hs.length) = h.1 := by
    funext i
    simp only [upd]
    by_cases hi : i = 4
    · subst hi; rw [if_pos rfl, C.2.2.1]
    · rw [if_neg hi]
  unfold tn_D
  rw [e]
  exact C
/-- Groups.undo -/
theorem sp_14 {w l : Nat} (C : tn_D n m ar sg pt ((w, l) :: hs) h) (hQ : ∀ h', tn_D n m ar sg pt hs h' → h'.1 = h.1 → (∀ k, (k < 11 ∨ 13 < k) → h'.2 k = h.2 k) → Q h' (.inl none)) : am_AW tn_G tn_X (14, 0, 0, [some (.ref 2), some (.int (nI l)), none], [], h) Q := by
  have hV := C.V
  obtain ⟨h1, h2, h3, h4, h5⟩ := id hV
  simp only at h1 h2 h3 h4
  have hn := C.le
  have hwn : w < n := by omega
  have hgl : pu_hg ((w, l) :: hs) l = w := by simp only [pu_hg, h4, if_true]
  have cld := fun {t : Nat} (ht : t < n) => C.ld ht
  have crg := fun {t : Nat} (ht : t < n) => C.rg ht
  have csp := fun {t : Nat} (ht : t < n) => C.sp ht
  simp only at cld crg csp
  have hrl : pu_hr ((w, l) :: hs) l = pu_hr hs w := by simp only [pu_hr, if_true]; rw [if_neg (by omega)]
  have hrw : pu_hr ((w, l) :: hs) w = pu_hr hs l := by simp only [pu_hr, if_true]
  have hring : ∀ t, t < n → upd (upd (h.2 12) w (h.2 12 l)) l (h.2 12 w) t = nI (pu_hr hs t) := fun t ht => by
    rw [crg h2, crg hwn, hrl, hrw]
    simp only [upd]
    by_cases e1 : t = l
    · rw [if_pos e1, e1]
    · rw [if_neg e1]
      by_cases e2 : t = w
      · rw [if_pos e2, e2]
      · rw [if_neg e2, crg ht]
        simp only [pu_hr, if_neg e1, if_neg e2]
  obtain ⟨r1, r5, r6⟩ := pu_ring h5 l h4
  have r2 : ∀ y ∈ l :: pu_ht hs l, y < n := fun y hy => by
    apply Nat.lt_of_not_le
    intro q
    have e1 := (r6 y).mp hy
    have e2 := pu_hg_new h5 y q
    omega
  have r4 := pu_nd_len r5 r2
  simp only [List.length_cons] at r4
  refine am_AW.go [] 60 ?_
  simp only [am_Zs, am_zn_1, am_g3, am_a3, am_kz_l, am_kz_r, am_mem, Bool.false_eq_true, am_Rs, am_R0, am_g2, am_al, am_kk_l, am_kk_r, am_step, am_op, am_one, am_two, am_br, am_inv, am_pp, am_ct, am_in, am_no, am_rc, am_s1, am_cut, am_s2, List.getElem?_cons_zero, List.getElem?_cons_succ, List.set_cons_zero, List.set_cons_succ, Value.category, List.cons_append, List.nil_append, am_f0, am_f1, am_f2, am_f3, am_cm1, am_c0, am_c1, am_c2, am_c3, am_c20, am_c40, am_c400, am_c401, am_c1600, true_and, and_true, true_implies, if_true, if_false, Nat.reduceAdd, Nat.reduceSub, Nat.reduceLT, Nat.reduceLeDiff, Nat.reduceEqDiff, reduceIte, Nat.le_refl, or_false, false_and, false_implies, or_true, true_or, implies_true, pk_us, pk_un, am_vs, am_vn, bx_uu, ne_eq, not_false_eq_true, not_true_eq_false, am_b0, am_b1, Nat.not_lt_zero, am_tl0, am_tl1, kr_14, kn_14, kl_14, kc_14_0, kc_14_1, kf_14_9, kc_14_4, kc_14_5, kc_14_6, kc_14_7, kc_14_8, kc_14_9, kc_14_10, kl_6, ko_6, kn_6, ka_14_63, kc_14_13, kc_14_14, kc_14_15, kc_14_16, kl_5, ko_5, kn_5, ka_14_59, kc_14_19, kc_14_20, kf_14_18, kc_14_23, kc_14_24, kc_14_25, kc_14_26, kc_14_29, kc_14_30, kc_14_31, kc_14_34, kc_14_35, kc_14_38, kc_14_39, kc_14_40, kc_14_41, tn_X0, tn_X1, tn_X2, tn_X3, tn_X4, tn_X5, tn_X6, tn_X7, tn_X8, tn_X9, tn_X10, tn_X11, tn_X12, tn_X13, tn_X14, tn_X15, tn_X16, tn_X17, tn_X18, tn_X19, tn_X20, tn_X21, tn_X22]
  rw [cl_ (by omega), cld h2, hgl]
  refine ⟨vi_ (by omega) (by omega), ?_⟩
  refine sp_6 (by omega) (by omega) ?_
  simp only [am_Zs, am_zn_1, am_g3, am_a3, am_kz_l, am_kz_r, am_mem, Bool.false_eq_true, am_Rs, am_R0, am_g2, am_al, am_kk_l, am_kk_r, am_step, am_op, am_one, am_two, am_br, am_inv, am_pp, am_ct, am_in, am_no, am_rc, am_s1, am_cut, am_s2, List.getElem?_cons_zero, List.getElem?_cons_succ, List.set_cons_zero, List.set_cons_succ, Value.category, List.cons_append, List.nil_append, am_f0, am_f1, am_f2, am_f3, am_cm1, am_c0, am_c1, am_c2, am_c3, am_c20, am_c40, am_c400, am_c401, am_c1600, true_and, and_true, true_implies, if_true, if_false, Nat.reduceAdd, Nat.reduceSub, Nat.reduceLT, Nat.reduceLeDiff, Nat.reduceEqDiff, reduceIte, Nat.le_refl, or_false, false_and, false_implies, or_true, true_or, implies_true, pk_us, pk_un, am_vs, am_vn, bx_uu, ne_eq, not_false_eq_true, not_true_eq_false, am_b0, am_b1, Nat.not_lt_zero, am_tl0, am_tl1, kr_14, kn_14, kl_14, kc_14_0, kc_14_1, kf_14_9, kc_14_4, kc_14_5, kc_14_6, kc_14_7, kc_14_8, kc_14_9, kc_14_10, kl_6, ko_6, kn_6, ka_14_63, kc_14_13, kc_14_14, kc_14_15, kc_14_16, kl_5, ko_5, kn_5, ka_14_59, kc_14_19, kc_14_20, kf_14_18, kc_14_23, kc_14_24, kc_14_25, kc_14_26, kc_14_29, kc_14_30, kc_14_31, kc_14_34, kc_14_35, kc_14_38, kc_14_39, kc_14_40, kc_14_41, tn_X0, tn_X1, tn_X2, tn_X3, tn_X4, tn_X5, tn_X6, tn_X7, tn_X8, tn_X9, tn_X10, tn_X11, tn_X12, tn_X13, tn_X14, tn_X15, tn_X16, tn_X17, tn_X18, tn_X19, tn_X20, tn_X21, tn_X22]
  refine sp_5 (pu_hr hs) r1 (fun y hy => ⟨by have := r2 y hy; omega, by simp only [am_vs]; exact hring y (r2 y hy)⟩) (List.nodup_cons.mp r5).1 (by omega) ?_
  simp only [am_Zs, am_zn_1, am_g3, am_a3, am_kz_l, am_kz_r, am_mem, Bool.false_eq_true, am_Rs, am_R0, am_g2, am_al, am_kk_l, am_kk_r, am_step, am_op, am_one, am_two, am_br, am_inv, am_pp, am_ct, am_in, am_no, am_rc, am_s1, am_cut, am_s2, List.getElem?_cons_zero, List.getElem?_cons_succ, List.set_cons_zero, List.set_cons_succ, Value.category, List.cons_append, List.nil_append, am_f0, am_f1, am_f2, am_f3, am_cm1, am_c0, am_c1, am_c2, am_c3, am_c20, am_c40, am_c400, am_c401, am_c1600, true_and, and_true, true_implies, if_true, if_false, Nat.reduceAdd, Nat.reduceSub, Nat.reduceLT, Nat.reduceLeDiff, Nat.reduceEqDiff, reduceIte, Nat.le_refl, or_false, false_and, false_implies, or_true, true_or, implies_true, pk_us, pk_un, am_vs, am_vn, bx_uu, ne_eq, not_false_eq_true, not_true_eq_false, am_b0, am_b1, Nat.not_lt_zero, am_tl0, am_tl1, kr_14, kn_14, kl_14, kc_14_0, kc_14_1, kf_14_9, kc_14_4, kc_14_5, kc_14_6, kc_14_7, kc_14_8, kc_14_9, kc_14_10, kl_6, ko_6, kn_6, ka_14_63, kc_14_13, kc_14_14, kc_14_15, kc_14_16, kl_5, ko_5, kn_5, ka_14_59, kc_14_19, kc_14_20, kf_14_18, kc_14_23, kc_14_24, kc_14_25, kc_14_26, kc_14_29, kc_14_30, kc_14_31, kc_14_34, kc_14_35, kc_14_38, kc_14_39, kc_14_40, kc_14_41, tn_X0, tn_X1, tn_X2, tn_X3, tn_X4, tn_X5, tn_X6, tn_X7, tn_X8, tn_X9, tn_X10, tn_X11, tn_X12, tn_X13, tn_X14, tn_X15, tn_X16, tn_X17, tn_X18, tn_X19, tn_X20, tn_X21, tn_X22]
  rw [cl_ (by omega), cl_ (by omega), csp hwn, csp h2]
  have hspl : pu_hs sg ((w, l) :: hs) l = pu_hs sg hs l := by simp only [pu_hs]; rw [if_neg (by omega)]
  have hld : ∀ t, t < n → tn_wr (h.2 11) (l :: pu_ht hs l) (nI l) t = nI (pu_hg hs t) := fun t ht => by
    simp only [tn_wr, r6 t]
    by_cases e : pu_hg hs t = l
    · rw [if_pos e, e]
    · rw [if_neg e, cld ht]
      simp only [pu_hg, if_neg e]
  have htr : ∀ (i : Nat) (q : Nat × Nat), hs.reverse[i]? = some q → h.2 14 i = nI q.2 := fun i q hq => C.2.2.2.2.2.2.2.2 i q (by
    rw [List.reverse_cons, List.getElem?_append_left (List.getElem?_eq_some_iff.mp hq).1]
    exact hq)
  refine ⟨vi_ (by omega) (by omega), vi_ (by omega) (by omega), fun hne => ?_, fun e => ⟨vi_ (by omega) (by omega), ?_⟩⟩
  · refine hQ _ (C.mk' ⟨fun i hi => ?_, fun k hk => ?_⟩ h5 ?_ (fun t ht => ⟨?_, ?_, ?_⟩) (fun i q hq => ?_)) rfl (fun k hk => ?_)
    · simp only [pk_un hi]
    · simp only [am_vn (show k ≠ 12 by omega), am_vn (show k ≠ 11 by omega)]
    · simp only [pk_us]
    · simp only [am_vs]; exact hld t ht
    · simp only [am_vn (show (12 : Nat) ≠ 11 by decide), am_vs]; exact hring t ht
    · simp only [am_vn (show (13 : Nat) ≠ 11 by decide), am_vn (show (13 : Nat) ≠ 12 by decide)]
      rw [csp ht]
      by_cases e2 : t = w
      · subst e2
        cases e3 : pu_hs sg hs t with
        | none =>
          exfalso
          apply hne
          simp only [pu_hs, if_true, e3]
          rw [if_neg (by omega)]
        | some z => simp only [pu_hs, if_true, e3]
      · simp only [pu_hs, if_neg e2]
    · simp only [am_vn (show (14 : Nat) ≠ 11 by decide), am_vn (show (14 : Nat) ≠ 12 by decide)]
      exact htr i q hq
    · simp only [am_vn (show k ≠ 12 by omega), am_vn (show k ≠ 11 by omega)]
  · have hnone : pu_hs sg hs w = none := by
      cases e3 : pu_hs sg hs w with
      | none => rfl
      | some z =>
        exfalso
        have ew : pu_hs sg ((w, l) :: hs) w = some z := by simp only [pu_hs, if_true, e3]
        rw [ew, hspl] at e
        have z1 := (pu_shape_of sg h5 w z e3).1
        have zn := pu_shape_lt h5 hwn e3
        cases e4 : pu_hs sg hs l with
        | none =>
          rw [e4] at e
          have := (tn_o_none (x := some z) (fun k hk => by cases hk; omega)).mp e
          cases this
        | some y =>
          rw [e4] at e
          have yn := pu_shape_lt h5 h2 e4
          have y1 := (pu_shape_of sg h5 l y e4).1
          have := (nI_eq (by omega) (by omega)).mp e
          subst this
          omega
    refine hQ _ (C.mk' ⟨fun i hi => ?_, fun k hk => ?_⟩ h5 ?_ (fun t ht => ⟨?_, ?_, ?_⟩) (fun i q hq => ?_)) rfl (fun k hk => ?_)
    · simp only [pk_un hi]
    · simp only [am_vn (show k ≠ 13 by omega), am_vn (show k ≠ 12 by omega), am_vn (show k ≠ 11 by omega)]
    · simp only [pk_us]
    · simp only [am_vn (show (11 : Nat) ≠ 13 by decide), am_vs]; exact hld t ht
    · simp only [am_vn (show (12 : Nat) ≠ 13 by decide), am_vn (show (12 : Nat) ≠ 11 by decide), am_vs]; exact hring t ht
    · simp only [am_vs, upd]
      by_cases e2 : t = w
      · rw [if_pos e2, e2, hnone]; rfl
      · rw [if_neg e2, csp ht]
        simp only [pu_hs, if_neg e2]
    · simp only [am_vn (show (14 : Nat) ≠ 13 by decide), am_vn (show (14 : Nat) ≠ 11 by decide), am_vn (show (14 : Nat) ≠ 12 by decide)]
      exact htr i q hq
    · simp only [am_vn (show k ≠ 13 by omega), am_vn (show k ≠ 12 by omega), am_vn (show k ≠ 11 by omega)]
def tn_pd (j : Nat) : Int32 := match j with
  | 0 => -1
  | k + 1 => nI k
/-- undoTo, its loop -/
theorem sp_13l {hs0 : List (Nat × Nat)} (hQ : ∀ h', tn_C n m ar sg pt hs0 h' → tn_fG h h' → Q h' (.inl none)) : ∀ (ns : List (Nat × Nat)) (h1 : am_S), tn_D n m ar sg pt (ns ++ hs0) h1 → tn_fG h h1 →
    am_AW tn_G tn_X (13, 7, 0, [some (.ref 2), some (.int (nI hs0.length)), some (.int (tn_pd (ns ++ hs0).length))], [], h1) Q := by
  intro ns
  induction ns with
  | nil =>
    intro h1 C fr
    have hn := C.le
    have hl := pu_len0 C.V
    simp only [List.nil_append] at hl C ⊢
    refine am_AW.go [7] 60 ?_
    simp only [am_Zs, am_zn_1, am_g3, am_a3, am_kz_l, am_kz_r, am_mem, Bool.false_eq_true, am_Rs, am_R0, am_g2, am_al, am_kk_l, am_kk_r, am_step, am_op, am_one, am_two, am_br, am_inv, am_pp, am_ct, am_in, am_no, am_rc, am_s1, am_cut, am_s2, List.getElem?_cons_zero, List.getElem?_cons_succ, List.set_cons_zero, List.set_cons_succ, Value.category, List.cons_append, List.nil_append, am_f0, am_f1, am_f2, am_f3, am_cm1, am_c0, am_c1, am_c2, am_c3, am_c20, am_c40, am_c400, am_c401, am_c1600, true_and, and_true, true_implies, if_true, if_false, Nat.reduceAdd, Nat.reduceSub, Nat.reduceLT, Nat.reduceLeDiff, Nat.reduceEqDiff, reduceIte, Nat.le_refl, or_false, false_and, false_implies, or_true, true_or, implies_true, pk_us, pk_un, am_vs, am_vn, bx_uu, ne_eq, not_false_eq_true, not_true_eq_false, am_b0, am_b1, Nat.not_lt_zero, am_tl0, am_tl1, kr_13, kn_13, kl_13, kc_13_0, kc_13_1, kf_13_24, kc_13_4, kc_13_5, kc_13_6, kc_13_7, kc_13_8, kc_13_9, kc_13_12, kc_13_13, kc_13_14, kf_13_21, kc_13_17, kc_13_18, kc_13_19, kl_14, ko_14, kn_14, ka_13_73, kc_13_22, kc_13_25, kc_13_28, kc_13_29, kc_13_30, kc_13_33, tn_X0, tn_X1, tn_X2, tn_X3, tn_X4, tn_X5, tn_X6, tn_X7, tn_X8, tn_X9, tn_X10, tn_X11, tn_X12, tn_X13, tn_X14, tn_X15, tn_X16, tn_X17, tn_X18, tn_X19, tn_X20, tn_X21, tn_X22]
    refine ⟨fun _ => hQ _ C ⟨fun i hi => ?_, fr.2⟩, fun q => ?_⟩
    · simp only [pk_un hi]; exact fr.1 i hi
    · exfalso
      apply q
      cases hs0 with
      | nil => decide
      | cons p hs0 =>
        simp only [List.length_cons] at hl
        exact nI_lt (by simp) (by simp only [List.length_cons]; omega)
  | cons p ns ih =>
    intro h1 C fr
    obtain ⟨w, l⟩ := p
    have hn := C.le
    have hl := pu_len0 C.V
    simp only [List.cons_append, List.length_cons, List.length_append] at hl
    have hpd : tn_pd ((w, l) :: (ns ++ hs0)).length = nI (ns ++ hs0).length := rfl
    have htr := C.2.2.2.2.2.2.2.2 (ns ++ hs0).length (w, l) (by
      rw [List.cons_append, List.reverse_cons, List.getElem?_append_right (by rw [List.length_reverse]; exact Nat.le_refl _), List.length_reverse, Nat.sub_self]
      rfl)
    simp only at htr
    refine am_AW.go [7] 60 ?_
    simp only [am_Zs, am_zn_1, am_g3, am_a3, am_kz_l, am_kz_r, am_mem, Bool.false_eq_true, am_Rs, am_R0, am_g2, am_al, am_kk_l, am_kk_r, am_step, am_op, am_one, am_two, am_br, am_inv, am_pp, am_ct, am_in, am_no, am_rc, am_s1, am_cut, am_s2, List.getElem?_cons_zero, List.getElem?_cons_succ, List.set_cons_zero, List.set_cons_succ, Value.category, List.cons_append, List.nil_append, am_f0, am_f1, am_f2, am_f3, am_cm1, am_c0, am_c1, am_c2, am_c3, am_c20, am_c40, am_c400, am_c401, am_c1600, true_and, and_true, true_implies, if_true, if_false, Nat.reduceAdd, Nat.reduceSub, Nat.reduceLT, Nat.reduceLeDiff, Nat.reduceEqDiff, reduceIte, Nat.le_refl, or_false, false_and, false_implies, or_true, true_or, implies_true, pk_us, pk_un, am_vs, am_vn, bx_uu, ne_eq, not_false_eq_true, not_true_eq_false, am_b0, am_b1, Nat.not_lt_zero, am_tl0, am_tl1, kr_13, kn_13, kl_13, kc_13_0, kc_13_1, kf_13_24, kc_13_4, kc_13_5, kc_13_6, kc_13_7, kc_13_8, kc_13_9, kc_13_12, kc_13_13, kc_13_14, kf_13_21, kc_13_17, kc_13_18, kc_13_19, kl_14, ko_14, kn_14, ka_13_73, kc_13_22, kc_13_25, kc_13_28, kc_13_29, kc_13_30, kc_13_33, tn_X0, tn_X1, tn_X2, tn_X3, tn_X4, tn_X5, tn_X6, tn_X7, tn_X8, tn_X9, tn_X10, tn_X11, tn_X12, tn_X13, tn_X14, tn_X15, tn_X16, tn_X17, tn_X18, tn_X19, tn_X20, tn_X21, tn_X22]
    rw [hpd, cl_ (by rw [List.length_append]; omega), htr]
    refine ⟨fun q => absurd q (nI_nlt (by rw [List.length_append]; omega) (by rw [List.length_append]; omega)), fun _ => ⟨vi_ (by rw [List.length_append]; omega) (by omega), ?_⟩⟩
    refine sp_14 C (fun h2 C2 e1 e2 => ?_)
    simp only [am_Zs, am_zn_1, am_g3, am_a3, am_kz_l, am_kz_r, am_mem, Bool.false_eq_true, am_Rs, am_R0, am_g2, am_al, am_kk_l, am_kk_r, am_step, am_op, am_one, am_two, am_br, am_inv, am_pp, am_ct, am_in, am_no, am_rc, am_s1, am_cut, am_s2, List.getElem?_cons_zero, List.getElem?_cons_succ, List.set_cons_zero, List.set_cons_succ, Value.category, List.cons_append, List.nil_append, am_f0, am_f1, am_f2, am_f3, am_cm1, am_c0, am_c1, am_c2, am_c3, am_c20, am_c40, am_c400, am_c401, am_c1600, true_and, and_true, true_implies, if_true, if_false, Nat.reduceAdd, Nat.reduceSub, Nat.reduceLT, Nat.reduceLeDiff, Nat.reduceEqDiff, reduceIte, Nat.le_refl, or_false, false_and, false_implies, or_true, true_or, implies_true, pk_us, pk_un, am_vs, am_vn, bx_uu, ne_eq, not_false_eq_true, not_true_eq_false, am_b0, am_b1, Nat.not_lt_zero, am_tl0, am_tl1, kr_13, kn_13, kl_13, kc_13_0, kc_13_1, kf_13_24, kc_13_4, kc_13_5, kc_13_6, kc_13_7, kc_13_8, kc_13_9, kc_13_12, kc_13_13, kc_13_14, kf_13_21, kc_13_17, kc_13_18, kc_13_19, kl_14, ko_14, kn_14, ka_13_73, kc_13_22, kc_13_25, kc_13_28, kc_13_29, kc_13_30, kc_13_33, tn_X0, tn_X1, tn_X2, tn_X3, tn_X4, tn_X5, tn_X6, tn_X7, tn_X8, tn_X9, tn_X10, tn_X11, tn_X12, tn_X13, tn_X14, tn_X15, tn_X16, tn_X17, tn_X18, tn_X19, tn_X20, tn_X21, tn_X22]
    have hpd2 : nI (ns ++ hs0).length + -1 = tn_pd (ns ++ hs0).length := by
      cases hz : (ns ++ hs0).length with
      | zero => decide
      | succ k => rw [pk_m1]; rfl
    rw [hpd2]
    exact ih h2 C2 (fr.tr ⟨fun i _ => by rw [e1], fun k hk => e2 k (by omega)⟩)
/-- Groups.undoTo -/
theorem sp_13 {ns hs0 : List (Nat × Nat)} (C : tn_C n m ar sg pt (ns ++ hs0) h) (hQ : ∀ h', tn_C n m ar sg pt hs0 h' → tn_fG h h' → Q h' (.inl none)) : am_AW tn_G tn_X (13, 0, 0, [some (.ref 2), some (.int (nI hs0.length)), none], [], h) Q := by
  refine am_AW.go [7] 60 ?_
  simp only [am_Zs, am_zn_1, am_g3, am_a3, am_kz_l, am_kz_r, am_mem, Bool.false_eq_true, am_Rs, am_R0, am_g2, am_al, am_kk_l, am_kk_r, am_step, am_op, am_one, am_two, am_br, am_inv, am_pp, am_ct, am_in, am_no, am_rc, am_s1, am_cut, am_s2, List.getElem?_cons_zero, List.getElem?_cons_succ, List.set_cons_zero, List.set_cons_succ, Value.category, List.cons_append, List.nil_append, am_f0, am_f1, am_f2, am_f3, am_cm1, am_c0, am_c1, am_c2, am_c3, am_c20, am_c40, am_c400, am_c401, am_c1600, true_and, and_true, true_implies, if_true, if_false, Nat.reduceAdd, Nat.reduceSub, Nat.reduceLT, Nat.reduceLeDiff, Nat.reduceEqDiff, reduceIte, Nat.le_refl, or_false, false_and, false_implies, or_true, true_or, implies_true, pk_us, pk_un, am_vs, am_vn, bx_uu, ne_eq, not_false_eq_true, not_true_eq_false, am_b0, am_b1, Nat.not_lt_zero, am_tl0, am_tl1, kr_13, kn_13, kl_13, kc_13_0, kc_13_1, kf_13_24, kc_13_4, kc_13_5, kc_13_6, kc_13_7, kc_13_8, kc_13_9, kc_13_12, kc_13_13, kc_13_14, kf_13_21, kc_13_17, kc_13_18, kc_13_19, kl_14, ko_14, kn_14, ka_13_73, kc_13_22, kc_13_25, kc_13_28, kc_13_29, kc_13_30, kc_13_33, tn_X0, tn_X1, tn_X2, tn_X3, tn_X4, tn_X5, tn_X6, tn_X7, tn_X8, tn_X9, tn_X10, tn_X11, tn_X12, tn_X13, tn_X14, tn_X15, tn_X16, tn_X17, tn_X18, tn_X19, tn_X20, tn_X21, tn_X22]
  have hpd : h.1 4 - nI 1 = tn_pd (ns ++ hs0).length := by
    rw [C.2.2.1]
    cases hz : (ns ++ hs0).length with
    | zero => decide
    | succ k => rw [show nI 1 = 1 by decide, nI_pred]; rfl
  rw [hpd]
  exact sp_13l hQ ns h C.D tn_fG.rf
end ST
end
section
/-! Groups and Told: twins, counting, what is told anew. -/
section TW
variable {n m : Nat} {ar : Nat → Nat} {sg : Nat → Option Nat} {pt : Nat → Nat → Nat} {hs : List (Nat × Nat)} {h : am_S} {Q : am_Q}
theorem tn_C.se (C : tn_C n m ar sg pt hs h) {x c : Nat} (hx : x < n) (hc : c < n) : tn_o (sg x) = tn_o (sg c) ↔ sg x = sg c := by
  constructor
  · intro e
    cases e1 : sg x with
    | none =>
      rw [e1] at e
      rw [(C.son hc).mp e.symm]
    | some a =>
      cases e2 : sg c with
      | none =>
        rw [e2] at e
        have := (C.son hx).mp e
        rw [e1] at this
        cases this
      | some b =>
        rw [e1, e2] at e
        have b1 := C.sm hx e1
        have b2 := C.sm hc e2
        have b3 := C.m4
        rw [(nI_eq (by omega) (by omega)).mp e]
  · intro e; rw [e]
/-- areTwins, its loop -/
theorem sp_3l (C : tn_C n m ar sg pt hs h) {t u : Nat} (ht : t < n) (hu : u < n) (hs2 : sg t = sg u) (h1 : pu_E sg ar pt (pu_hg hs) t u → Q h (.inl (some (.int (nI 1))))) (h0 : ¬ pu_E sg ar pt (pu_hg hs) t u → Q h (.inl (some (.int (nI 0))))) :
    ∀ (d k : Nat), pu_np sg ar t - k = d → k ≤ pu_np sg ar t → (∀ j, j < k → pu_hg hs (pt t j) = pu_hg hs (pt u j)) → am_AW tn_G tn_X (3, 38, 0, [some (.ref 2), some (.int (nI t)), some (.int (nI u)), some (.int (nI k))], [], h) Q := by
  have hn := C.le
  have h3 := C.p3 ht
  intro d
  induction d with
  | zero =>
    intro k hd hk hj
    have hke : k = pu_np sg ar t := by omega
    refine am_AW.go [38] 60 ?_
    simp only [am_Zs, am_zn_1, am_g3, am_a3, am_kz_l, am_kz_r, am_mem, Bool.false_eq_true, am_Rs, am_R0, am_g2, am_al, am_kk_l, am_kk_r, am_step, am_op, am_one, am_two, am_br, am_inv, am_pp, am_ct, am_in, am_no, am_rc, am_s1, am_cut, am_s2, List.getElem?_cons_zero, List.getElem?_cons_succ, List.set_cons_zero, List.set_cons_succ, Value.category, List.cons_append, List.nil_append, am_f0, am_f1, am_f2, am_f3, am_cm1, am_c0, am_c1, am_c2, am_c3, am_c20, am_c40, am_c400, am_c401, am_c1600, true_and, and_true, true_implies, if_true, if_false, Nat.reduceAdd, Nat.reduceSub, Nat.reduceLT, Nat.reduceLeDiff, Nat.reduceEqDiff, reduceIte, Nat.le_refl, or_false, false_and, false_implies, or_true, true_or, implies_true, pk_us, pk_un, am_vs, am_vn, bx_uu, ne_eq, not_false_eq_true, not_true_eq_false, am_b0, am_b1, Nat.not_lt_zero, am_tl0, am_tl1, kr_3, kn_3, kl_3, kc_3_0, kc_3_1, kf_3_28, kc_3_4, kf_3_32, kc_3_7, kc_3_8, kc_3_9, kc_3_10, kc_3_13, kc_3_14, kc_3_17, kc_3_20, kc_3_21, kc_3_22, kc_3_23, kc_3_26, kc_3_29, kc_3_30, kc_3_31, kc_3_34, kc_3_35, kc_3_36, kc_3_37, kc_3_38, kc_3_39, kc_3_40, kc_3_43, kc_3_44, kl_21, ko_21, kn_21, ka_3_41, kc_3_47, kc_3_50, kc_3_51, kf_3_9, kc_3_54, kc_3_55, kc_3_58, kc_3_59, kc_3_60, kl_22, ko_22, kn_22, ka_3_44, kc_3_63, kc_3_64, kc_3_65, kc_3_68, kc_3_69, kc_3_72, kc_3_73, kc_3_74, kc_3_77, kc_3_78, kc_3_81, kc_3_82, kc_3_83, kc_3_86, kc_3_89, kc_3_90, tn_X0, tn_X1, tn_X2, tn_X3, tn_X4, tn_X5, tn_X6, tn_X7, tn_X8, tn_X9, tn_X10, tn_X11, tn_X12, tn_X13, tn_X14, tn_X15, tn_X16, tn_X17, tn_X18, tn_X19, tn_X20, tn_X21, tn_X22]
    refine sp_21 C ht ?_
    simp only [am_Zs, am_zn_1, am_g3, am_a3, am_kz_l, am_kz_r, am_mem, Bool.false_eq_true, am_Rs, am_R0, am_g2, am_al, am_kk_l, am_kk_r, am_step, am_op, am_one, am_two, am_br, am_inv, am_pp, am_ct, am_in, am_no, am_rc, am_s1, am_cut, am_s2, List.getElem?_cons_zero, List.getElem?_cons_succ, List.set_cons_zero, List.set_cons_succ, Value.category, List.cons_append, List.nil_append, am_f0, am_f1, am_f2, am_f3, am_cm1, am_c0, am_c1, am_c2, am_c3, am_c20, am_c40, am_c400, am_c401, am_c1600, true_and, and_true, true_implies, if_true, if_false, Nat.reduceAdd, Nat.reduceSub, Nat.reduceLT, Nat.reduceLeDiff, Nat.reduceEqDiff, reduceIte, Nat.le_refl, or_false, false_and, false_implies, or_true, true_or, implies_true, pk_us, pk_un, am_vs, am_vn, bx_uu, ne_eq, not_false_eq_true, not_true_eq_false, am_b0, am_b1, Nat.not_lt_zero, am_tl0, am_tl1, kr_3, kn_3, kl_3, kc_3_0, kc_3_1, kf_3_28, kc_3_4, kf_3_32, kc_3_7, kc_3_8, kc_3_9, kc_3_10, kc_3_13, kc_3_14, kc_3_17, kc_3_20, kc_3_21, kc_3_22, kc_3_23, kc_3_26, kc_3_29, kc_3_30, kc_3_31, kc_3_34, kc_3_35, kc_3_36, kc_3_37, kc_3_38, kc_3_39, kc_3_40, kc_3_43, kc_3_44, kl_21, ko_21, kn_21, ka_3_41, kc_3_47, kc_3_50, kc_3_51, kf_3_9, kc_3_54, kc_3_55, kc_3_58, kc_3_59, kc_3_60, kl_22, ko_22, kn_22, ka_3_44, kc_3_63, kc_3_64, kc_3_65, kc_3_68, kc_3_69, kc_3_72, kc_3_73, kc_3_74, kc_3_77, kc_3_78, kc_3_81, kc_3_82, kc_3_83, kc_3_86, kc_3_89, kc_3_90, tn_X0, tn_X1, tn_X2, tn_X3, tn_X4, tn_X5, tn_X6, tn_X7, tn_X8, tn_X9, tn_X10, tn_X11, tn_X12, tn_X13, tn_X14, tn_X15, tn_X16, tn_X17, tn_X18, tn_X19, tn_X20, tn_X21, tn_X22]
    rw [nI_leI (by omega) (by omega)]
    exact ⟨fun _ => h1 ⟨hs2, fun j q => hj j (by omega)⟩, fun q => by omega⟩
  | succ d ih =>
    intro k hd hk hj
    have hk1 : k < pu_np sg ar t := by omega
    have hk2 : k < pu_np sg ar u := by rw [← pu_np_eq hs2]; exact hk1
    have p1 := C.pl ht hk1
    have p2 := C.pl hu hk2
    have g1 := C.g p1
    have g2 := C.g p2
    refine am_AW.go [38] 60 ?_
    simp only [am_Zs, am_zn_1, am_g3, am_a3, am_kz_l, am_kz_r, am_mem, Bool.false_eq_true, am_Rs, am_R0, am_g2, am_al, am_kk_l, am_kk_r, am_step, am_op, am_one, am_two, am_br, am_inv, am_pp, am_ct, am_in, am_no, am_rc, am_s1, am_cut, am_s2, List.getElem?_cons_zero, List.getElem?_cons_succ, List.set_cons_zero, List.set_cons_succ, Value.category, List.cons_append, List.nil_append, am_f0, am_f1, am_f2, am_f3, am_cm1, am_c0, am_c1, am_c2, am_c3, am_c20, am_c40, am_c400, am_c401, am_c1600, true_and, and_true, true_implies, if_true, if_false, Nat.reduceAdd, Nat.reduceSub, Nat.reduceLT, Nat.reduceLeDiff, Nat.reduceEqDiff, reduceIte, Nat.le_refl, or_false, false_and, false_implies, or_true, true_or, implies_true, pk_us, pk_un, am_vs, am_vn, bx_uu, ne_eq, not_false_eq_true, not_true_eq_false, am_b0, am_b1, Nat.not_lt_zero, am_tl0, am_tl1, kr_3, kn_3, kl_3, kc_3_0, kc_3_1, kf_3_28, kc_3_4, kf_3_32, kc_3_7, kc_3_8, kc_3_9, kc_3_10, kc_3_13, kc_3_14, kc_3_17, kc_3_20, kc_3_21, kc_3_22, kc_3_23, kc_3_26, kc_3_29, kc_3_30, kc_3_31, kc_3_34, kc_3_35, kc_3_36, kc_3_37, kc_3_38, kc_3_39, kc_3_40, kc_3_43, kc_3_44, kl_21, ko_21, kn_21, ka_3_41, kc_3_47, kc_3_50, kc_3_51, kf_3_9, kc_3_54, kc_3_55, kc_3_58, kc_3_59, kc_3_60, kl_22, ko_22, kn_22, ka_3_44, kc_3_63, kc_3_64, kc_3_65, kc_3_68, kc_3_69, kc_3_72, kc_3_73, kc_3_74, kc_3_77, kc_3_78, kc_3_81, kc_3_82, kc_3_83, kc_3_86, kc_3_89, kc_3_90, tn_X0, tn_X1, tn_X2, tn_X3, tn_X4, tn_X5, tn_X6, tn_X7, tn_X8, tn_X9, tn_X10, tn_X11, tn_X12, tn_X13, tn_X14, tn_X15, tn_X16, tn_X17, tn_X18, tn_X19, tn_X20, tn_X21, tn_X22]
    refine sp_21 C ht ?_
    simp only [am_Zs, am_zn_1, am_g3, am_a3, am_kz_l, am_kz_r, am_mem, Bool.false_eq_true, am_Rs, am_R0, am_g2, am_al, am_kk_l, am_kk_r, am_step, am_op, am_one, am_two, am_br, am_inv, am_pp, am_ct, am_in, am_no, am_rc, am_s1, am_cut, am_s2, List.getElem?_cons_zero, List.getElem?_cons_succ, List.set_cons_zero, List.set_cons_succ, Value.category, List.cons_append, List.nil_append, am_f0, am_f1, am_f2, am_f3, am_cm1, am_c0, am_c1, am_c2, am_c3, am_c20, am_c40, am_c400, am_c401, am_c1600, true_and, and_true, true_implies, if_true, if_false, Nat.reduceAdd, Nat.reduceSub, Nat.reduceLT, Nat.reduceLeDiff, Nat.reduceEqDiff, reduceIte, Nat.le_refl, or_false, false_and, false_implies, or_true, true_or, implies_true, pk_us, pk_un, am_vs, am_vn, bx_uu, ne_eq, not_false_eq_true, not_true_eq_false, am_b0, am_b1, Nat.not_lt_zero, am_tl0, am_tl1, kr_3, kn_3, kl_3, kc_3_0, kc_3_1, kf_3_28, kc_3_4, kf_3_32, kc_3_7, kc_3_8, kc_3_9, kc_3_10, kc_3_13, kc_3_14, kc_3_17, kc_3_20, kc_3_21, kc_3_22, kc_3_23, kc_3_26, kc_3_29, kc_3_30, kc_3_31, kc_3_34, kc_3_35, kc_3_36, kc_3_37, kc_3_38, kc_3_39, kc_3_40, kc_3_43, kc_3_44, kl_21, ko_21, kn_21, ka_3_41, kc_3_47, kc_3_50, kc_3_51, kf_3_9, kc_3_54, kc_3_55, kc_3_58, kc_3_59, kc_3_60, kl_22, ko_22, kn_22, ka_3_44, kc_3_63, kc_3_64, kc_3_65, kc_3_68, kc_3_69, kc_3_72, kc_3_73, kc_3_74, kc_3_77, kc_3_78, kc_3_81, kc_3_82, kc_3_83, kc_3_86, kc_3_89, kc_3_90, tn_X0, tn_X1, tn_X2, tn_X3, tn_X4, tn_X5, tn_X6, tn_X7, tn_X8, tn_X9, tn_X10, tn_X11, tn_X12, tn_X13, tn_X14, tn_X15, tn_X16, tn_X17, tn_X18, tn_X19, tn_X20, tn_X21, tn_X22]
    rw [nI_leI (by omega) (by omega)]
    refine ⟨fun q => by omega, fun _ => ?_⟩
    refine sp_22 C ht hk1 ?_
    simp only [am_Zs, am_zn_1, am_g3, am_a3, am_kz_l, am_kz_r, am_mem, Bool.false_eq_true, am_Rs, am_R0, am_g2, am_al, am_kk_l, am_kk_r, am_step, am_op, am_one, am_two, am_br, am_inv, am_pp, am_ct, am_in, am_no, am_rc, am_s1, am_cut, am_s2, List.getElem?_cons_zero, List.getElem?_cons_succ, List.set_cons_zero, List.set_cons_succ, Value.category, List.cons_append, List.nil_append, am_f0, am_f1, am_f2, am_f3, am_cm1, am_c0, am_c1, am_c2, am_c3, am_c20, am_c40, am_c400, am_c401, am_c1600, true_and, and_true, true_implies, if_true, if_false, Nat.reduceAdd, Nat.reduceSub, Nat.reduceLT, Nat.reduceLeDiff, Nat.reduceEqDiff, reduceIte, Nat.le_refl, or_false, false_and, false_implies, or_true, true_or, implies_true, pk_us, pk_un, am_vs, am_vn, bx_uu, ne_eq, not_false_eq_true, not_true_eq_false, am_b0, am_b1, Nat.not_lt_zero, am_tl0, am_tl1, kr_3, kn_3, kl_3, kc_3_0, kc_3_1, kf_3_28, kc_3_4, kf_3_32, kc_3_7, kc_3_8, kc_3_9, kc_3_10, kc_3_13, kc_3_14, kc_3_17, kc_3_20, kc_3_21, kc_3_22, kc_3_23, kc_3_26, kc_3_29, kc_3_30, kc_3_31, kc_3_34, kc_3_35, kc_3_36, kc_3_37, kc_3_38, kc_3_39, kc_3_40, kc_3_43, kc_3_44, kl_21, ko_21, kn_21, ka_3_41, kc_3_47, kc_3_50, kc_3_51, kf_3_9, kc_3_54, kc_3_55, kc_3_58, kc_3_59, kc_3_60, kl_22, ko_22, kn_22, ka_3_44, kc_3_63, kc_3_64, kc_3_65, kc_3_68, kc_3_69, kc_3_72, kc_3_73, kc_3_74, kc_3_77, kc_3_78, kc_3_81, kc_3_82, kc_3_83, kc_3_86, kc_3_89, kc_3_90, tn_X0, tn_X1, tn_X2, tn_X3, tn_X4, tn_X5, tn_X6, tn_X7, tn_X8, tn_X9, tn_X10, tn_X11, tn_X12, tn_X13, tn_X14, tn_X15, tn_X16, tn_X17, tn_X18, tn_X19, tn_X20, tn_X21, tn_X22]
    refine ⟨vi_ (by omega) (by omega), ?_⟩
    refine sp_22 C hu hk2 ?_
    simp only [am_Zs, am_zn_1, am_g3, am_a3, am_kz_l, am_kz_r, am_mem, Bool.false_eq_true, am_Rs, am_R0, am_g2, am_al, am_kk_l, am_kk_r, am_step, am_op, am_one, am_two, am_br, am_inv, am_pp, am_ct, am_in, am_no, am_rc, am_s1, am_cut, am_s2, List.getElem?_cons_zero, List.getElem?_cons_succ, List.set_cons_zero, List.set_cons_succ, Value.category, List.cons_append, List.nil_append, am_f0, am_f1, am_f2, am_f3, am_cm1, am_c0, am_c1, am_c2, am_c3, am_c20, am_c40, am_c400, am_c401, am_c1600, true_and, and_true, true_implies, if_true, if_false, Nat.reduceAdd, Nat.reduceSub, Nat.reduceLT, Nat.reduceLeDiff, Nat.reduceEqDiff, reduceIte, Nat.le_refl, or_false, false_and, false_implies, or_true, true_or, implies_true, pk_us, pk_un, am_vs, am_vn, bx_uu, ne_eq, not_false_eq_true, not_true_eq_false, am_b0, am_b1, Nat.not_lt_zero, am_tl0, am_tl1, kr_3, kn_3, kl_3, kc_3_0, kc_3_1, kf_3_28, kc_3_4, kf_3_32, kc_3_7, kc_3_8, kc_3_9, kc_3_10, kc_3_13, kc_3_14, kc_3_17, kc_3_20, kc_3_21, kc_3_22, kc_3_23, kc_3_26, kc_3_29, kc_3_30, kc_3_31, kc_3_34, kc_3_35, kc_3_36, kc_3_37, kc_3_38, kc_3_39, kc_3_40, kc_3_43, kc_3_44, kl_21, ko_21, kn_21, ka_3_41, kc_3_47, kc_3_50, kc_3_51, kf_3_9, kc_3_54, kc_3_55, kc_3_58, kc_3_59, kc_3_60, kl_22, ko_22, kn_22, ka_3_44, kc_3_63, kc_3_64, kc_3_65, kc_3_68, kc_3_69, kc_3_72, kc_3_73, kc_3_74, kc_3_77, kc_3_78, kc_3_81, kc_3_82, kc_3_83, kc_3_86, kc_3_89, kc_3_90, tn_X0, tn_X1, tn_X2, tn_X3, tn_X4, tn_X5, tn_X6, tn_X7, tn_X8, tn_X9, tn_X10, tn_X11, tn_X12, tn_X13, tn_X14, tn_X15, tn_X16, tn_X17, tn_X18, tn_X19, tn_X20, tn_X21, tn_X22]
    rw [cl_ (by omega), cl_ (by omega), C.ld p1, C.ld p2, nI_eq (by omega) (by omega), nI_add]
    refine ⟨vi_ (by omega) (by omega), fun e => ?_, fun e => h0 fun q => e (q.2 k hk1)⟩
    exact ih (k + 1) (by omega) (by omega) (fun j q => by
      by_cases ejk : j = k
      · subst ejk; exact e
      · exact hj j (by omega))
/-- Groups.areTwins -/
theorem sp_3 (C : tn_C n m ar sg pt hs h) {t u : Nat} (ht : t < n) (hu : u < n) (h1 : sg t ≠ none → pu_E sg ar pt (pu_hg hs) t u → Q h (.inl (some (.int (nI 1))))) (h0 : (sg t ≠ none → ¬ pu_E sg ar pt (pu_hg hs) t u) → Q h (.inl (some (.int (nI 0))))) :
    am_AW tn_G tn_X (3, 0, 0, [some (.ref 2), some (.int (nI t)), some (.int (nI u)), none], [], h) Q := by
  have hn := C.le
  refine am_AW.go [38] 60 ?_
  simp only [am_Zs, am_zn_1, am_g3, am_a3, am_kz_l, am_kz_r, am_mem, Bool.false_eq_true, am_Rs, am_R0, am_g2, am_al, am_kk_l, am_kk_r, am_step, am_op, am_one, am_two, am_br, am_inv, am_pp, am_ct, am_in, am_no, am_rc, am_s1, am_cut, am_s2, List.getElem?_cons_zero, List.getElem?_cons_succ, List.set_cons_zero, List.set_cons_succ, Value.category, List.cons_append, List.nil_append, am_f0, am_f1, am_f2, am_f3, am_cm1, am_c0, am_c1, am_c2, am_c3, am_c20, am_c40, am_c400, am_c401, am_c1600, true_and, and_true, true_implies, if_true, if_false, Nat.reduceAdd, Nat.reduceSub, Nat.reduceLT, Nat.reduceLeDiff, Nat.reduceEqDiff, reduceIte, Nat.le_refl, or_false, false_and, false_implies, or_true, true_or, implies_true, pk_us, pk_un, am_vs, am_vn, bx_uu, ne_eq, not_false_eq_true, not_true_eq_false, am_b0, am_b1, Nat.not_lt_zero, am_tl0, am_tl1, kr_3, kn_3, kl_3, kc_3_0, kc_3_1, kf_3_28, kc_3_4, kf_3_32, kc_3_7, kc_3_8, kc_3_9, kc_3_10, kc_3_13, kc_3_14, kc_3_17, kc_3_20, kc_3_21, kc_3_22, kc_3_23, kc_3_26, kc_3_29, kc_3_30, kc_3_31, kc_3_34, kc_3_35, kc_3_36, kc_3_37, kc_3_38, kc_3_39, kc_3_40, kc_3_43, kc_3_44, kl_21, ko_21, kn_21, ka_3_41, kc_3_47, kc_3_50, kc_3_51, kf_3_9, kc_3_54, kc_3_55, kc_3_58, kc_3_59, kc_3_60, kl_22, ko_22, kn_22, ka_3_44, kc_3_63, kc_3_64, kc_3_65, kc_3_68, kc_3_69, kc_3_72, kc_3_73, kc_3_74, kc_3_77, kc_3_78, kc_3_81, kc_3_82, kc_3_83, kc_3_86, kc_3_89, kc_3_90, tn_X0, tn_X1, tn_X2, tn_X3, tn_X4, tn_X5, tn_X6, tn_X7, tn_X8, tn_X9, tn_X10, tn_X11, tn_X12, tn_X13, tn_X14, tn_X15, tn_X16, tn_X17, tn_X18, tn_X19, tn_X20, tn_X21, tn_X22]
  rw [cl_ (by omega), cl_ (by omega), C.sn ht, C.sn hu, C.son ht, C.se ht hu]
  refine ⟨vi_ (by omega) (by omega), fun e => h0 fun q => absurd e q, fun hne => ⟨vi_ (by omega) (by omega), vi_ (by omega) (by omega), fun e => ?_, fun e => h0 fun _ q => e q.1⟩⟩
  exact sp_3l C ht hu e (h1 hne) (fun q => h0 fun _ => q) _ 0 rfl (Nat.zero_le _) (fun j q => by omega)
/-- joinToTwin, its loop -/
theorem sp_2l (C : tn_C n m ar sg pt hs h) {t : Nat} (ht : t < n) (h1 : ∀ u, u < t → sg u ≠ none → pu_E sg ar pt (pu_hg hs) u t → ∀ h', tn_C n m ar sg pt (pu_jn hs u t) h' → tn_fG h h' → Q h' (.inl none)) (h0 : (∀ u, u < t → sg u ≠ none → ¬ pu_E sg ar pt (pu_hg hs) u t) → Q h (.inl none)) :
    ∀ (d u : Nat), t - u = d → u ≤ t → (∀ j, j < u → sg j ≠ none → ¬ pu_E sg ar pt (pu_hg hs) j t) → am_AW tn_G tn_X (2, 2, 0, [some (.ref 2), some (.int (nI t)), some (.int (nI u))], [], h) Q := by
  have hn := C.le
  intro d
  induction d with
  | zero =>
    intro u hd hu hj
    refine am_AW.go [2] 60 ?_
    simp only [am_Zs, am_zn_1, am_g3, am_a3, am_kz_l, am_kz_r, am_mem, Bool.false_eq_true, am_Rs, am_R0, am_g2, am_al, am_kk_l, am_kk_r, am_step, am_op, am_one, am_two, am_br, am_inv, am_pp, am_ct, am_in, am_no, am_rc, am_s1, am_cut, am_s2, List.getElem?_cons_zero, List.getElem?_cons_succ, List.set_cons_zero, List.set_cons_succ, Value.category, List.cons_append, List.nil_append, am_f0, am_f1, am_f2, am_f3, am_cm1, am_c0, am_c1, am_c2, am_c3, am_c20, am_c40, am_c400, am_c401, am_c1600, true_and, and_true, true_implies, if_true, if_false, Nat.reduceAdd, Nat.reduceSub, Nat.reduceLT, Nat.reduceLeDiff, Nat.reduceEqDiff, reduceIte, Nat.le_refl, or_false, false_and, false_implies, or_true, true_or, implies_true, pk_us, pk_un, am_vs, am_vn, bx_uu, ne_eq, not_false_eq_true, not_true_eq_false, am_b0, am_b1, Nat.not_lt_zero, am_tl0, am_tl1, kr_2, kn_2, kl_2, kc_2_0, kc_2_1, kc_2_2, kc_2_3, kc_2_4, kc_2_7, kc_2_8, kc_2_9, kc_2_10, kl_3, ko_3, kn_3, ka_2_77, kc_2_13, kc_2_16, kc_2_17, kc_2_18, kc_2_19, kl_4, ko_4, kn_4, ka_2_70, kc_2_22, kc_2_25, kc_2_28, kc_2_31, tn_X0, tn_X1, tn_X2, tn_X3, tn_X4, tn_X5, tn_X6, tn_X7, tn_X8, tn_X9, tn_X10, tn_X11, tn_X12, tn_X13, tn_X14, tn_X15, tn_X16, tn_X17, tn_X18, tn_X19, tn_X20, tn_X21, tn_X22]
    rw [nI_leI (by omega) (by omega)]
    exact ⟨fun _ => h0 fun j q => hj j (by omega), fun q => by omega⟩
  | succ d ih =>
    intro u hd hu hj
    refine am_AW.go [2] 60 ?_
    simp only [am_Zs, am_zn_1, am_g3, am_a3, am_kz_l, am_kz_r, am_mem, Bool.false_eq_true, am_Rs, am_R0, am_g2, am_al, am_kk_l, am_kk_r, am_step, am_op, am_one, am_two, am_br, am_inv, am_pp, am_ct, am_in, am_no, am_rc, am_s1, am_cut, am_s2, List.getElem?_cons_zero, List.getElem?_cons_succ, List.set_cons_zero, List.set_cons_succ, Value.category, List.cons_append, List.nil_append, am_f0, am_f1, am_f2, am_f3, am_cm1, am_c0, am_c1, am_c2, am_c3, am_c20, am_c40, am_c400, am_c401, am_c1600, true_and, and_true, true_implies, if_true, if_false, Nat.reduceAdd, Nat.reduceSub, Nat.reduceLT, Nat.reduceLeDiff, Nat.reduceEqDiff, reduceIte, Nat.le_refl, or_false, false_and, false_implies, or_true, true_or, implies_true, pk_us, pk_un, am_vs, am_vn, bx_uu, ne_eq, not_false_eq_true, not_true_eq_false, am_b0, am_b1, Nat.not_lt_zero, am_tl0, am_tl1, kr_2, kn_2, kl_2, kc_2_0, kc_2_1, kc_2_2, kc_2_3, kc_2_4, kc_2_7, kc_2_8, kc_2_9, kc_2_10, kl_3, ko_3, kn_3, ka_2_77, kc_2_13, kc_2_16, kc_2_17, kc_2_18, kc_2_19, kl_4, ko_4, kn_4, ka_2_70, kc_2_22, kc_2_25, kc_2_28, kc_2_31, tn_X0, tn_X1, tn_X2, tn_X3, tn_X4, tn_X5, tn_X6, tn_X7, tn_X8, tn_X9, tn_X10, tn_X11, tn_X12, tn_X13, tn_X14, tn_X15, tn_X16, tn_X17, tn_X18, tn_X19, tn_X20, tn_X21, tn_X22]
    rw [nI_leI (by omega) (by omega)]
    refine ⟨fun q => by omega, fun _ => ?_⟩
    refine sp_3 C (show u < n by omega) ht (fun e1 e2 => ?_) (fun e => ?_)
    · simp only [am_Zs, am_zn_1, am_g3, am_a3, am_kz_l, am_kz_r, am_mem, Bool.false_eq_true, am_Rs, am_R0, am_g2, am_al, am_kk_l, am_kk_r, am_step, am_op, am_one, am_two, am_br, am_inv, am_pp, am_ct, am_in, am_no, am_rc, am_s1, am_cut, am_s2, List.getElem?_cons_zero, List.getElem?_cons_succ, List.set_cons_zero, List.set_cons_succ, Value.category, List.cons_append, List.nil_append, am_f0, am_f1, am_f2, am_f3, am_cm1, am_c0, am_c1, am_c2, am_c3, am_c20, am_c40, am_c400, am_c401, am_c1600, true_and, and_true, true_implies, if_true, if_false, Nat.reduceAdd, Nat.reduceSub, Nat.reduceLT, Nat.reduceLeDiff, Nat.reduceEqDiff, reduceIte, Nat.le_refl, or_false, false_and, false_implies, or_true, true_or, implies_true, pk_us, pk_un, am_vs, am_vn, bx_uu, ne_eq, not_false_eq_true, not_true_eq_false, am_b0, am_b1, Nat.not_lt_zero, am_tl0, am_tl1, kr_2, kn_2, kl_2, kc_2_0, kc_2_1, kc_2_2, kc_2_3, kc_2_4, kc_2_7, kc_2_8, kc_2_9, kc_2_10, kl_3, ko_3, kn_3, ka_2_77, kc_2_13, kc_2_16, kc_2_17, kc_2_18, kc_2_19, kl_4, ko_4, kn_4, ka_2_70, kc_2_22, kc_2_25, kc_2_28, kc_2_31, tn_X0, tn_X1, tn_X2, tn_X3, tn_X4, tn_X5, tn_X6, tn_X7, tn_X8, tn_X9, tn_X10, tn_X11, tn_X12, tn_X13, tn_X14, tn_X15, tn_X16, tn_X17, tn_X18, tn_X19, tn_X20, tn_X21, tn_X22]
      refine ⟨fun q => absurd q (by decide), fun _ => ?_⟩
      refine sp_4 C (show u < n by omega) ht (fun h' C' fr => ?_)
      simp only [am_Zs, am_zn_1, am_g3, am_a3, am_kz_l, am_kz_r, am_mem, Bool.false_eq_true, am_Rs, am_R0, am_g2, am_al, am_kk_l, am_kk_r, am_step, am_op, am_one, am_two, am_br, am_inv, am_pp, am_ct, am_in, am_no, am_rc, am_s1, am_cut, am_s2, List.getElem?_cons_zero, List.getElem?_cons_succ, List.set_cons_zero, List.set_cons_succ, Value.category, List.cons_append, List.nil_append, am_f0, am_f1, am_f2, am_f3, am_cm1, am_c0, am_c1, am_c2, am_c3, am_c20, am_c40, am_c400, am_c401, am_c1600, true_and, and_true, true_implies, if_true, if_false, Nat.reduceAdd, Nat.reduceSub, Nat.reduceLT, Nat.reduceLeDiff, Nat.reduceEqDiff, reduceIte, Nat.le_refl, or_false, false_and, false_implies, or_true, true_or, implies_true, pk_us, pk_un, am_vs, am_vn, bx_uu, ne_eq, not_false_eq_true, not_true_eq_false, am_b0, am_b1, Nat.not_lt_zero, am_tl0, am_tl1, kr_2, kn_2, kl_2, kc_2_0, kc_2_1, kc_2_2, kc_2_3, kc_2_4, kc_2_7, kc_2_8, kc_2_9, kc_2_10, kl_3, ko_3, kn_3, ka_2_77, kc_2_13, kc_2_16, kc_2_17, kc_2_18, kc_2_19, kl_4, ko_4, kn_4, ka_2_70, kc_2_22, kc_2_25, kc_2_28, kc_2_31, tn_X0, tn_X1, tn_X2, tn_X3, tn_X4, tn_X5, tn_X6, tn_X7, tn_X8, tn_X9, tn_X10, tn_X11, tn_X12, tn_X13, tn_X14, tn_X15, tn_X16, tn_X17, tn_X18, tn_X19, tn_X20, tn_X21, tn_X22]
      exact h1 u (by omega) e1 e2 h' C' fr
    · simp only [am_Zs, am_zn_1, am_g3, am_a3, am_kz_l, am_kz_r, am_mem, Bool.false_eq_true, am_Rs, am_R0, am_g2, am_al, am_kk_l, am_kk_r, am_step, am_op, am_one, am_two, am_br, am_inv, am_pp, am_ct, am_in, am_no, am_rc, am_s1, am_cut, am_s2, List.getElem?_cons_zero, List.getElem?_cons_succ, List.set_cons_zero, List.set_cons_succ, Value.category, List.cons_append, List.nil_append, am_f0, am_f1, am_f2, am_f3, am_cm1, am_c0, am_c1, am_c2, am_c3, am_c20, am_c40, am_c400, am_c401, am_c1600, true_and, and_true, true_implies, if_true, if_false, Nat.reduceAdd, Nat.reduceSub, Nat.reduceLT, Nat.reduceLeDiff, Nat.reduceEqDiff, reduceIte, Nat.le_refl, or_false, false_and, false_implies, or_true, true_or, implies_true, pk_us, pk_un, am_vs, am_vn, bx_uu, ne_eq, not_false_eq_true, not_true_eq_false, am_b0, am_b1, Nat.not_lt_zero, am_tl0, am_tl1, kr_2, kn_2, kl_2, kc_2_0, kc_2_1, kc_2_2, kc_2_3, kc_2_4, kc_2_7, kc_2_8, kc_2_9, kc_2_10, kl_3, ko_3, kn_3, ka_2_77, kc_2_13, kc_2_16, kc_2_17, kc_2_18, kc_2_19, kl_4, ko_4, kn_4, ka_2_70, kc_2_22, kc_2_25, kc_2_28, kc_2_31, tn_X0, tn_X1, tn_X2, tn_X3, tn_X4, tn_X5, tn_X6, tn_X7, tn_X8, tn_X9, tn_X10, tn_X11, tn_X12, tn_X13, tn_X14, tn_X15, tn_X16, tn_X17, tn_X18, tn_X19, tn_X20, tn_X21, tn_X22]
      refine ⟨fun _ => ?_, fun q => absurd nI_0 q⟩
      rw [nI_add]
      exact ih (u + 1) (by omega) (by omega) (fun j q => by
        by_cases eju : j = u
        · subst eju; exact e
        · exact hj j (by omega))
/-- Groups.joinToTwin -/
theorem sp_2 (C : tn_C n m ar sg pt hs h) {t : Nat} (ht : t < n) (h1 : ∀ u, u < t → sg u ≠ none → pu_E sg ar pt (pu_hg hs) u t → ∀ h', tn_C n m ar sg pt (pu_jn hs u t) h' → tn_fG h h' → Q h' (.inl none)) (h0 : (∀ u, u < t → sg u ≠ none → ¬ pu_E sg ar pt (pu_hg hs) u t) → Q h (.inl none)) :
    am_AW tn_G tn_X (2, 0, 0, [some (.ref 2), some (.int (nI t)), none], [], h) Q := by
  refine am_AW.go [2] 60 ?_
  simp only [am_Zs, am_zn_1, am_g3, am_a3, am_kz_l, am_kz_r, am_mem, Bool.false_eq_true, am_Rs, am_R0, am_g2, am_al, am_kk_l, am_kk_r, am_step, am_op, am_one, am_two, am_br, am_inv, am_pp, am_ct, am_in, am_no, am_rc, am_s1, am_cut, am_s2, List.getElem?_cons_zero, List.getElem?_cons_succ, List.set_cons_zero, List.set_cons_succ, Value.category, List.cons_append, List.nil_append, am_f0, am_f1, am_f2, am_f3, am_cm1, am_c0, am_c1, am_c2, am_c3, am_c20, am_c40, am_c400, am_c401, am_c1600, true_and, and_true, true_implies, if_true, if_false, Nat.reduceAdd, Nat.reduceSub, Nat.reduceLT, Nat.reduceLeDiff, Nat.reduceEqDiff, reduceIte, Nat.le_refl, or_false, false_and, false_implies, or_true, true_or, implies_true, pk_us, pk_un, am_vs, am_vn, bx_uu, ne_eq, not_false_eq_true, not_true_eq_false, am_b0, am_b1, Nat.not_lt_zero, am_tl0, am_tl1, kr_2, kn_2, kl_2, kc_2_0, kc_2_1, kc_2_2, kc_2_3, kc_2_4, kc_2_7, kc_2_8, kc_2_9, kc_2_10, kl_3, ko_3, kn_3, ka_2_77, kc_2_13, kc_2_16, kc_2_17, kc_2_18, kc_2_19, kl_4, ko_4, kn_4, ka_2_70, kc_2_22, kc_2_25, kc_2_28, kc_2_31, tn_X0, tn_X1, tn_X2, tn_X3, tn_X4, tn_X5, tn_X6, tn_X7, tn_X8, tn_X9, tn_X10, tn_X11, tn_X12, tn_X13, tn_X14, tn_X15, tn_X16, tn_X17, tn_X18, tn_X19, tn_X20, tn_X21, tn_X22]
  exact sp_2l C ht h1 h0 _ 0 rfl (Nat.zero_le _) (fun j q => by omega)
set_option maxRecDepth 20000 in
/-- knownGroups, its loop -/
theorem sp_0l (C : tn_C n m ar sg pt hs h) (hQ : Q h (.inl (some (.int (nI (pu_cn (fun t => decide (pu_hg hs t = t ∧ pu_hs sg hs t ≠ none)) n)))))) :
    ∀ (d t : Nat), n - t = d → t ≤ n → am_AW tn_G tn_X (0, 4, 0, [some (.ref 2), some (.int (nI (pu_cn (fun t => decide (pu_hg hs t = t ∧ pu_hs sg hs t ≠ none)) t))), some (.int (nI t))], [], h) Q := by
  have hn := C.le
  intro d
  induction d with
  | zero =>
    intro t hd ht
    have : t = n := by omega
    subst this
    refine am_AW.go [4] 60 ?_
    simp only [am_Zs, am_zn_1, am_g3, am_a3, am_kz_l, am_kz_r, am_mem, Bool.false_eq_true, am_Rs, am_R0, am_g2, am_al, am_kk_l, am_kk_r, am_step, am_op, am_one, am_two, am_br, am_inv, am_pp, am_ct, am_in, am_no, am_rc, am_s1, am_cut, am_s2, List.getElem?_cons_zero, List.getElem?_cons_succ, List.set_cons_zero, List.set_cons_succ, Value.category, List.cons_append, List.nil_append, am_f0, am_f1, am_f2, am_f3, am_cm1, am_c0, am_c1, am_c2, am_c3, am_c20, am_c40, am_c400, am_c401, am_c1600, true_and, and_true, true_implies, if_true, if_false, Nat.reduceAdd, Nat.reduceSub, Nat.reduceLT, Nat.reduceLeDiff, Nat.reduceEqDiff, reduceIte, Nat.le_refl, or_false, false_and, false_implies, or_true, true_or, implies_true, pk_us, pk_un, am_vs, am_vn, bx_uu, ne_eq, not_false_eq_true, not_true_eq_false, am_b0, am_b1, Nat.not_lt_zero, am_tl0, am_tl1, kr_0, kn_0, kl_0, kc_0_0, kc_0_1, kc_0_2, kc_0_3, kc_0_4, kc_0_5, kc_0_6, kf_0_28, kc_0_9, kf_0_48, kc_0_12, kc_0_15, kc_0_16, kf_0_9, kc_0_19, kc_0_20, kc_0_21, kc_0_22, kc_0_25, kc_0_26, kf_0_18, kc_0_29, kc_0_30, kc_0_31, kc_0_32, kc_0_35, kc_0_38, kc_0_41, kc_0_44, kc_0_45, tn_X0, tn_X1, tn_X2, tn_X3, tn_X4, tn_X5, tn_X6, tn_X7, tn_X8, tn_X9, tn_X10, tn_X11, tn_X12, tn_X13, tn_X14, tn_X15, tn_X16, tn_X17, tn_X18, tn_X19, tn_X20, tn_X21, tn_X22]
    rw [C.nn, nI_leI (by omega) (by omega)]
    exact ⟨fun _ => hQ, fun q => by omega⟩
  | succ d ih =>
    intro t hd ht
    have htn : t < n := by omega
    have hg := C.g htn
    refine am_AW.go [4] 60 ?_
    simp only [am_Zs, am_zn_1, am_g3, am_a3, am_kz_l, am_kz_r, am_mem, Bool.false_eq_true, am_Rs, am_R0, am_g2, am_al, am_kk_l, am_kk_r, am_step, am_op, am_one, am_two, am_br, am_inv, am_pp, am_ct, am_in, am_no, am_rc, am_s1, am_cut, am_s2, List.getElem?_cons_zero, List.getElem?_cons_succ, List.set_cons_zero, List.set_cons_succ, Value.category, List.cons_append, List.nil_append, am_f0, am_f1, am_f2, am_f3, am_cm1, am_c0, am_c1, am_c2, am_c3, am_c20, am_c40, am_c400, am_c401, am_c1600, true_and, and_true, true_implies, if_true, if_false, Nat.reduceAdd, Nat.reduceSub, Nat.reduceLT, Nat.reduceLeDiff, Nat.reduceEqDiff, reduceIte, Nat.le_refl, or_false, false_and, false_implies, or_true, true_or, implies_true, pk_us, pk_un, am_vs, am_vn, bx_uu, ne_eq, not_false_eq_true, not_true_eq_false, am_b0, am_b1, Nat.not_lt_zero, am_tl0, am_tl1, kr_0, kn_0, kl_0, kc_0_0, kc_0_1, kc_0_2, kc_0_3, kc_0_4, kc_0_5, kc_0_6, kf_0_28, kc_0_9, kf_0_48, kc_0_12, kc_0_15, kc_0_16, kf_0_9, kc_0_19, kc_0_20, kc_0_21, kc_0_22, kc_0_25, kc_0_26, kf_0_18, kc_0_29, kc_0_30, kc_0_31, kc_0_32, kc_0_35, kc_0_38, kc_0_41, kc_0_44, kc_0_45, tn_X0, tn_X1, tn_X2, tn_X3, tn_X4, tn_X5, tn_X6, tn_X7, tn_X8, tn_X9, tn_X10, tn_X11, tn_X12, tn_X13, tn_X14, tn_X15, tn_X16, tn_X17, tn_X18, tn_X19, tn_X20, tn_X21, tn_X22]
    rw [C.nn, nI_leI (by omega) (by omega), cl_ (by omega), C.ld htn, C.sp htn, nI_eq (by omega) (by omega), C.spn htn, nI_add, nI_add]
    have i1 := ih (t + 1) (by omega) (by omega)
    refine ⟨fun q => by omega, fun _ => ⟨vi_ (by omega) (by omega), fun e => ?_, fun e => ⟨vi_ (by omega) (by omega), fun e2 => ?_, fun e2 => ?_⟩⟩⟩
    · simp only [pu_cn, e, false_and, decide_false, Bool.false_eq_true, if_false, Nat.add_zero] at i1
      exact i1
    · simp only [pu_cn, e2, ne_eq, not_true_eq_false, and_false, decide_false, Bool.false_eq_true, if_false, Nat.add_zero] at i1
      exact i1
    · simp only [pu_cn, e, e2, ne_eq, not_false_eq_true, and_self, decide_true, if_true] at i1
      exact i1
set_option maxRecDepth 20000 in
/-- Groups.knownGroups -/
theorem sp_0 (C : tn_C n m ar sg pt hs h) (hQ : Q h (.inl (some (.int (nI (pu_cn (fun t => decide (pu_hg hs t = t ∧ pu_hs sg hs t ≠ none)) n)))))) :
    am_AW tn_G tn_X (0, 0, 0, [some (.ref 2), none, none], [], h) Q := by
  refine am_AW.go [4] 60 ?_
  simp only [am_Zs, am_zn_1, am_g3, am_a3, am_kz_l, am_kz_r, am_mem, Bool.false_eq_true, am_Rs, am_R0, am_g2, am_al, am_kk_l, am_kk_r, am_step, am_op, am_one, am_two, am_br, am_inv, am_pp, am_ct, am_in, am_no, am_rc, am_s1, am_cut, am_s2, List.getElem?_cons_zero, List.getElem?_cons_succ, List.set_cons_zero, List.set_cons_succ, Value.category, List.cons_append, List.nil_append, am_f0, am_f1, am_f2, am_f3, am_cm1, am_c0, am_c1, am_c2, am_c3, am_c20, am_c40, am_c400, am_c401, am_c1600, true_and, and_true, true_implies, if_true, if_false, Nat.reduceAdd, Nat.reduceSub, Nat.reduceLT, Nat.reduceLeDiff, Nat.reduceEqDiff, reduceIte, Nat.le_refl, or_false, false_and, false_implies, or_true, true_or, implies_true, pk_us, pk_un, am_vs, am_vn, bx_uu, ne_eq, not_false_eq_true, not_true_eq_false, am_b0, am_b1, Nat.not_lt_zero, am_tl0, am_tl1, kr_0, kn_0, kl_0, kc_0_0, kc_0_1, kc_0_2, kc_0_3, kc_0_4, kc_0_5, kc_0_6, kf_0_28, kc_0_9, kf_0_48, kc_0_12, kc_0_15, kc_0_16, kf_0_9, kc_0_19, kc_0_20, kc_0_21, kc_0_22, kc_0_25, kc_0_26, kf_0_18, kc_0_29, kc_0_30, kc_0_31, kc_0_32, kc_0_35, kc_0_38, kc_0_41, kc_0_44, kc_0_45, tn_X0, tn_X1, tn_X2, tn_X3, tn_X4, tn_X5, tn_X6, tn_X7, tn_X8, tn_X9, tn_X10, tn_X11, tn_X12, tn_X13, tn_X14, tn_X15, tn_X16, tn_X17, tn_X18, tn_X19, tn_X20, tn_X21, tn_X22]
  exact sp_0l C hQ _ 0 rfl (Nat.zero_le _)
/-- Told.addSign -/
theorem sp_16 {a : Int32} (hm : h.1 2 = nI m) (h4 : m < 40) (hQ : Q (upd h.1 2 (nI (m + 1)), va_up h.2 8 (upd (h.2 8) m a)) (.inl (some (.int (nI m))))) : am_AW tn_G tn_X (16, 0, 0, [some (.ref 1), some (.int a)], [], h) Q := by
  refine am_AW.go [] 60 ?_
  simp only [am_Zs, am_zn_1, am_g3, am_a3, am_kz_l, am_kz_r, am_mem, Bool.false_eq_true, am_Rs, am_R0, am_g2, am_al, am_kk_l, am_kk_r, am_step, am_op, am_one, am_two, am_br, am_inv, am_pp, am_ct, am_in, am_no, am_rc, am_s1, am_cut, am_s2, List.getElem?_cons_zero, List.getElem?_cons_succ, List.set_cons_zero, List.set_cons_succ, Value.category, List.cons_append, List.nil_append, am_f0, am_f1, am_f2, am_f3, am_cm1, am_c0, am_c1, am_c2, am_c3, am_c20, am_c40, am_c400, am_c401, am_c1600, true_and, and_true, true_implies, if_true, if_false, Nat.reduceAdd, Nat.reduceSub, Nat.reduceLT, Nat.reduceLeDiff, Nat.reduceEqDiff, reduceIte, Nat.le_refl, or_false, false_and, false_implies, or_true, true_or, implies_true, pk_us, pk_un, am_vs, am_vn, bx_uu, ne_eq, not_false_eq_true, not_true_eq_false, am_b0, am_b1, Nat.not_lt_zero, am_tl0, am_tl1, kr_16, kn_16, kl_16, kc_16_0, kc_16_1, kf_16_9, kc_16_4, kc_16_5, kf_16_21, kc_16_8, kc_16_9, kc_16_10, kc_16_11, kc_16_12, kc_16_15, kc_16_16, kc_16_17, kc_16_20, kc_16_21, kc_16_24, kc_16_25, kc_16_26, tn_X0, tn_X1, tn_X2, tn_X3, tn_X4, tn_X5, tn_X6, tn_X7, tn_X8, tn_X9, tn_X10, tn_X11, tn_X12, tn_X13, tn_X14, tn_X15, tn_X16, tn_X17, tn_X18, tn_X19, tn_X20, tn_X21, tn_X22]
  rw [hm, cl_ (by omega), nI_add, show nI 1 = 1 by decide, nI_pred]
  exact ⟨vi_ h4 (by omega), hQ⟩
/-- Told.addUnknown -/
theorem sp_17 (hn : h.1 3 = nI n) (h4 : n < 400) (hQ : Q (upd h.1 3 (nI (n + 1)), va_up h.2 9 (upd (h.2 9) n (-1))) (.inl (some (.int (nI n))))) : am_AW tn_G tn_X (17, 0, 0, [some (.ref 1)], [], h) Q := by
  refine am_AW.go [] 60 ?_
  simp only [am_Zs, am_zn_1, am_g3, am_a3, am_kz_l, am_kz_r, am_mem, Bool.false_eq_true, am_Rs, am_R0, am_g2, am_al, am_kk_l, am_kk_r, am_step, am_op, am_one, am_two, am_br, am_inv, am_pp, am_ct, am_in, am_no, am_rc, am_s1, am_cut, am_s2, List.getElem?_cons_zero, List.getElem?_cons_succ, List.set_cons_zero, List.set_cons_succ, Value.category, List.cons_append, List.nil_append, am_f0, am_f1, am_f2, am_f3, am_cm1, am_c0, am_c1, am_c2, am_c3, am_c20, am_c40, am_c400, am_c401, am_c1600, true_and, and_true, true_implies, if_true, if_false, Nat.reduceAdd, Nat.reduceSub, Nat.reduceLT, Nat.reduceLeDiff, Nat.reduceEqDiff, reduceIte, Nat.le_refl, or_false, false_and, false_implies, or_true, true_or, implies_true, pk_us, pk_un, am_vs, am_vn, bx_uu, ne_eq, not_false_eq_true, not_true_eq_false, am_b0, am_b1, Nat.not_lt_zero, am_tl0, am_tl1, kr_17, kn_17, kl_17, kc_17_0, kc_17_1, kf_17_15, kc_17_4, kc_17_5, kf_17_25, kc_17_8, kc_17_9, kc_17_10, kc_17_11, kc_17_12, kc_17_15, kc_17_16, kc_17_17, kc_17_20, kc_17_21, kc_17_24, kc_17_25, kc_17_26, tn_X0, tn_X1, tn_X2, tn_X3, tn_X4, tn_X5, tn_X6, tn_X7, tn_X8, tn_X9, tn_X10, tn_X11, tn_X12, tn_X13, tn_X14, tn_X15, tn_X16, tn_X17, tn_X18, tn_X19, tn_X20, tn_X21, tn_X22]
  rw [hn, cl_ (by omega), nI_add, show nI 1 = 1 by decide, nI_pred]
  exact ⟨vi_ h4 (by omega), hQ⟩
set_option maxRecDepth 4000 in
/-- Told.addTerm -/
theorem sp_20 {s a b c : Int32} (hn : h.1 3 = nI n) (h4 : n < 400) (hQ : Q (upd h.1 3 (nI (n + 1)), va_up (va_up h.2 9 (upd (h.2 9) n s)) 10 (upd (upd (upd (h.2 10) (n * 3) a) (n * 3 + 1) b) (n * 3 + 2) c)) (.inl (some (.int (nI n))))) : am_AW tn_G tn_X (20, 0, 0, [some (.ref 1), some (.int s), some (.int a), some (.int b), some (.int c)], [], h) Q := by
  refine am_AW.go [] 60 ?_
  simp only [am_Zs, am_zn_1, am_g3, am_a3, am_kz_l, am_kz_r, am_mem, Bool.false_eq_true, am_Rs, am_R0, am_g2, am_al, am_kk_l, am_kk_r, am_step, am_op, am_one, am_two, am_br, am_inv, am_pp, am_ct, am_in, am_no, am_rc, am_s1, am_cut, am_s2, List.getElem?_cons_zero, List.getElem?_cons_succ, List.set_cons_zero, List.set_cons_succ, Value.category, List.cons_append, List.nil_append, am_f0, am_f1, am_f2, am_f3, am_cm1, am_c0, am_c1, am_c2, am_c3, am_c20, am_c40, am_c400, am_c401, am_c1600, true_and, and_true, true_implies, if_true, if_false, Nat.reduceAdd, Nat.reduceSub, Nat.reduceLT, Nat.reduceLeDiff, Nat.reduceEqDiff, reduceIte, Nat.le_refl, or_false, false_and, false_implies, or_true, true_or, implies_true, pk_us, pk_un, am_vs, am_vn, bx_uu, ne_eq, not_false_eq_true, not_true_eq_false, am_b0, am_b1, Nat.not_lt_zero, am_tl0, am_tl1, kr_20, kn_20, kl_20, kc_20_0, kc_20_1, kf_20_15, kc_20_4, kc_20_5, kf_20_25, kc_20_8, kc_20_9, kc_20_10, kc_20_11, kf_20_18, kc_20_14, kc_20_15, kc_20_18, kc_20_19, kc_20_20, kc_20_21, kc_20_22, kc_20_23, kc_20_26, kc_20_27, kc_20_30, kc_20_31, kc_20_32, kc_20_33, kc_20_34, kc_20_35, kc_20_36, kc_20_37, kc_20_40, kc_20_41, kc_20_44, kc_20_45, kc_20_46, kc_20_47, kc_20_48, kc_20_50, kc_20_51, kc_20_52, kc_20_53, kc_20_56, kc_20_57, kc_20_58, kc_20_61, kc_20_62, kc_20_65, kc_20_66, kc_20_67, tn_X0, tn_X1, tn_X2, tn_X3, tn_X4, tn_X5, tn_X6, tn_X7, tn_X8, tn_X9, tn_X10, tn_X11, tn_X12, tn_X13, tn_X14, tn_X15, tn_X16, tn_X17, tn_X18, tn_X19, tn_X20, tn_X21, tn_X22]
  rw [hn, pk_mul, nI_add, nI_add, nI_add, cl_ (by omega), nI_clamp (by omega), nI_clamp (by omega), nI_clamp (by omega), show nI 1 = 1 by decide, nI_pred]
  exact ⟨vi_ h4 (by omega), vi_ (by omega) (by omega), vi_ (by omega) (by omega), vi_ (by omega) (by omega), hQ⟩
/-- Groups.found -/
theorem sp_1 {t : Nat} {x : Option Nat} (ht : t < 400) (hx : h.2 9 t = tn_o x) (hxs : ∀ k, x = some k → k < 2 ^ 31) (hQ : Q (h.1, va_up (va_up (va_up h.2 11 (upd (h.2 11) t (nI t))) 12 (upd (h.2 12) t (nI t))) 13 (upd (h.2 13) t (tn_o (if x = none then none else some t)))) (.inl none)) : am_AW tn_G tn_X (1, 0, 0, [some (.ref 2), some (.int (nI t))], [], h) Q := by
  refine am_AW.go [] 60 ?_
  simp only [am_Zs, am_zn_1, am_g3, am_a3, am_kz_l, am_kz_r, am_mem, Bool.false_eq_true, am_Rs, am_R0, am_g2, am_al, am_kk_l, am_kk_r, am_step, am_op, am_one, am_two, am_br, am_inv, am_pp, am_ct, am_in, am_no, am_rc, am_s1, am_cut, am_s2, List.getElem?_cons_zero, List.getElem?_cons_succ, List.set_cons_zero, List.set_cons_succ, Value.category, List.cons_append, List.nil_append, am_f0, am_f1, am_f2, am_f3, am_cm1, am_c0, am_c1, am_c2, am_c3, am_c20, am_c40, am_c400, am_c401, am_c1600, true_and, and_true, true_implies, if_true, if_false, Nat.reduceAdd, Nat.reduceSub, Nat.reduceLT, Nat.reduceLeDiff, Nat.reduceEqDiff, reduceIte, Nat.le_refl, or_false, false_and, false_implies, or_true, true_or, implies_true, pk_us, pk_un, am_vs, am_vn, bx_uu, ne_eq, not_false_eq_true, not_true_eq_false, am_b0, am_b1, Nat.not_lt_zero, am_tl0, am_tl1, kr_1, kn_1, kl_1, kc_1_0, kc_1_1, kf_1_9, kc_1_4, kc_1_5, kc_1_6, kc_1_7, kc_1_8, kf_1_15, kc_1_11, kc_1_12, kc_1_13, kc_1_14, kc_1_15, kf_1_18, kc_1_18, kc_1_19, kc_1_20, kf_1_28, kc_1_23, kf_1_32, kc_1_26, kc_1_27, kc_1_28, kc_1_29, kc_1_32, kc_1_33, kc_1_36, kc_1_37, kc_1_38, tn_X0, tn_X1, tn_X2, tn_X3, tn_X4, tn_X5, tn_X6, tn_X7, tn_X8, tn_X9, tn_X10, tn_X11, tn_X12, tn_X13, tn_X14, tn_X15, tn_X16, tn_X17, tn_X18, tn_X19, tn_X20, tn_X21, tn_X22]
  rw [cl_ (by omega), hx, tn_o_none hxs]
  refine ⟨vi_ ht (by omega), vi_ ht (by omega), vi_ ht (by omega), fun e => ⟨vi_ ht (by omega), ?_⟩, fun e => ⟨vi_ ht (by omega), ?_⟩⟩
  · rw [if_neg e] at hQ; exact hQ
  · rw [if_pos e] at hQ; exact hQ
end TW
end
section
/-! Walk: the walk itself. -/
def tn_fi (f : Nat → Int32) (v : Int32) (N : Nat) : Nat → Int32 := fun j => if j < N then v else f j
theorem tn_fi_s (f : Nat → Int32) (v : Int32) (N : Nat) : upd (tn_fi f v N) N v = tn_fi f v (N + 1) := by
  funext j
  simp only [upd, tn_fi]
  by_cases h1 : j = N
  · subst h1; simp
  · by_cases h2 : j < N
    · rw [if_neg h1, if_pos h2, if_pos (by omega)]
    · rw [if_neg h1, if_neg h2, if_neg (by omega)]
set_option maxRecDepth 20000 in
/-- Arrays.fill, its loop -/
theorem sp_78l {k N : Nat} {v : Int32} {Q : am_Q} {h : am_S} (hk : tn_X[k]? = some (.inr (0, N))) (hN : N ≤ 8000) (hQ : Q (h.1, va_up h.2 k (tn_fi (h.2 k) v N)) (.inl none)) :
    ∀ (d i : Nat), N - i = d → i ≤ N → am_AW tn_G tn_X (78, 5, 0, [some (.ref k), some (.int v), some (.int (nI i)), some (.int (nI N))], [], (h.1, va_up h.2 k (tn_fi (h.2 k) v i))) Q := by
  intro d
  induction d with
  | zero =>
    intro i hd hi
    have : i = N := by omega
    subst this
    refine am_AW.go [5] 60 ?_
    simp only [am_Zs, am_zn_1, am_g3, am_a3, am_kz_l, am_kz_r, am_mem, Bool.false_eq_true, am_Rs, am_R0, am_g2, am_al, am_kk_l, am_kk_r, am_step, am_op, am_one, am_two, am_br, am_inv, am_pp, am_ct, am_in, am_no, am_rc, am_s1, am_cut, am_s2, List.getElem?_cons_zero, List.getElem?_cons_succ, List.set_cons_zero, List.set_cons_succ, Value.category, List.cons_append, List.nil_append, am_f0, am_f1, am_f2, am_f3, am_cm1, am_c0, am_c1, am_c2, am_c3, am_c20, am_c40, am_c400, am_c401, am_c1600, true_and, and_true, true_implies, if_true, if_false, Nat.reduceAdd, Nat.reduceSub, Nat.reduceLT, Nat.reduceLeDiff, Nat.reduceEqDiff, reduceIte, Nat.le_refl, or_false, false_and, false_implies, or_true, true_or, implies_true, pk_us, pk_un, am_vs, am_vn, bx_uu, ne_eq, not_false_eq_true, not_true_eq_false, am_b0, am_b1, Nat.not_lt_zero, am_tl0, am_tl1, kr_78, kn_78, kl_78, kc_78_0, kc_78_1, kc_78_2, kc_78_3, kc_78_4, kc_78_5, kc_78_6, kc_78_7, kc_78_10, kc_78_11, kc_78_12, kc_78_13, kc_78_14, kc_78_17, kc_78_20, tn_X0, tn_X1, tn_X2, tn_X3, tn_X4, tn_X5, tn_X6, tn_X7, tn_X8, tn_X9, tn_X10, tn_X11, tn_X12, tn_X13, tn_X14, tn_X15, tn_X16, tn_X17, tn_X18, tn_X19, tn_X20, tn_X21, tn_X22, hk]
    rw [nI_leI (by omega) (by omega)]
    exact ⟨fun _ => hQ, fun q => by omega⟩
  | succ d ih =>
    intro i hd hi
    refine am_AW.go [5] 60 ?_
    simp only [am_Zs, am_zn_1, am_g3, am_a3, am_kz_l, am_kz_r, am_mem, Bool.false_eq_true, am_Rs, am_R0, am_g2, am_al, am_kk_l, am_kk_r, am_step, am_op, am_one, am_two, am_br, am_inv, am_pp, am_ct, am_in, am_no, am_rc, am_s1, am_cut, am_s2, List.getElem?_cons_zero, List.getElem?_cons_succ, List.set_cons_zero, List.set_cons_succ, Value.category, List.cons_append, List.nil_append, am_f0, am_f1, am_f2, am_f3, am_cm1, am_c0, am_c1, am_c2, am_c3, am_c20, am_c40, am_c400, am_c401, am_c1600, true_and, and_true, true_implies, if_true, if_false, Nat.reduceAdd, Nat.reduceSub, Nat.reduceLT, Nat.reduceLeDiff, Nat.reduceEqDiff, reduceIte, Nat.le_refl, or_false, false_and, false_implies, or_true, true_or, implies_true, pk_us, pk_un, am_vs, am_vn, bx_uu, ne_eq, not_false_eq_true, not_true_eq_false, am_b0, am_b1, Nat.not_lt_zero, am_tl0, am_tl1, kr_78, kn_78, kl_78, kc_78_0, kc_78_1, kc_78_2, kc_78_3, kc_78_4, kc_78_5, kc_78_6, kc_78_7, kc_78_10, kc_78_11, kc_78_12, kc_78_13, kc_78_14, kc_78_17, kc_78_20, tn_X0, tn_X1, tn_X2, tn_X3, tn_X4, tn_X5, tn_X6, tn_X7, tn_X8, tn_X9, tn_X10, tn_X11, tn_X12, tn_X13, tn_X14, tn_X15, tn_X16, tn_X17, tn_X18, tn_X19, tn_X20, tn_X21, tn_X22, hk]
    rw [nI_leI (by omega) (by omega), nI_clamp (by omega), nI_add, tn_fi_s]
    exact ⟨fun q => by omega, fun _ => ⟨vi_ (by omega) hN, ih (i + 1) (by omega) (by omega)⟩⟩
set_option maxRecDepth 20000 in
/-- Arrays.fill -/
theorem sp_78 {k N : Nat} {v : Int32} {Q : am_Q} {h : am_S} (hk : tn_X[k]? = some (.inr (0, N))) (hN : N ≤ 8000) (hQ : Q (h.1, va_up h.2 k (tn_fi (h.2 k) v N)) (.inl none)) : am_AW tn_G tn_X (78, 0, 0, [some (.ref k), some (.int v), none, none], [], h) Q := by
  refine am_AW.go [5] 60 ?_
  simp only [am_Zs, am_zn_1, am_g3, am_a3, am_kz_l, am_kz_r, am_mem, Bool.false_eq_true, am_Rs, am_R0, am_g2, am_al, am_kk_l, am_kk_r, am_step, am_op, am_one, am_two, am_br, am_inv, am_pp, am_ct, am_in, am_no, am_rc, am_s1, am_cut, am_s2, List.getElem?_cons_zero, List.getElem?_cons_succ, List.set_cons_zero, List.set_cons_succ, Value.category, List.cons_append, List.nil_append, am_f0, am_f1, am_f2, am_f3, am_cm1, am_c0, am_c1, am_c2, am_c3, am_c20, am_c40, am_c400, am_c401, am_c1600, true_and, and_true, true_implies, if_true, if_false, Nat.reduceAdd, Nat.reduceSub, Nat.reduceLT, Nat.reduceLeDiff, Nat.reduceEqDiff, reduceIte, Nat.le_refl, or_false, false_and, false_implies, or_true, true_or, implies_true, pk_us, pk_un, am_vs, am_vn, bx_uu, ne_eq, not_false_eq_true, not_true_eq_false, am_b0, am_b1, Nat.not_lt_zero, am_tl0, am_tl1, kr_78, kn_78, kl_78, kc_78_0, kc_78_1, kc_78_2, kc_78_3, kc_78_4, kc_78_5, kc_78_6, kc_78_7, kc_78_10, kc_78_11, kc_78_12, kc_78_13, kc_78_14, kc_78_17, kc_78_20, tn_X0, tn_X1, tn_X2, tn_X3, tn_X4, tn_X5, tn_X6, tn_X7, tn_X8, tn_X9, tn_X10, tn_X11, tn_X12, tn_X13, tn_X14, tn_X15, tn_X16, tn_X17, tn_X18, tn_X19, tn_X20, tn_X21, tn_X22, hk]
  have e : h = (h.1, va_up h.2 k (tn_fi (h.2 k) v 0)) := by
    have e1 : va_up h.2 k (tn_fi (h.2 k) v 0) = h.2 := by
      funext j
      by_cases hj : j = k
      · subst hj; rw [am_vs]; funext q; simp [tn_fi]
      · rw [am_vn hj]
    rw [e1]
  have := sp_78l hk hN hQ N 0 (by omega) (by omega)
  rw [← e] at this
  exact this
def tn_K (P O : List Nat) (tr : Nat → Nat) (h : am_S) : Prop :=
  h.1 5 = nI P.length ∧ h.1 6 = nI O.length ∧ (∀ t, t < 400 → h.2 15 t = if t ∈ O then nI 2 else if t ∈ P then nI 1 else nI 0) ∧ (∀ x ∈ P, h.2 16 x = nI (tr x)) ∧ (∀ i x, P.reverse[i]? = some x → h.2 17 i = nI x) ∧ ∀ i x, O.reverse[i]? = some x → h.2 18 i = nI x
/-- what the walk leaves alone -/
def tn_fK (h h' : am_S) : Prop := (∀ i, i ≠ 5 → i ≠ 6 → h'.1 i = h.1 i) ∧ ∀ k, (k < 15 ∨ 18 < k) → h'.2 k = h.2 k
theorem tn_fK.rf {h : am_S} : tn_fK h h := ⟨fun _ _ _ => rfl, fun _ _ => rfl⟩
theorem tn_fK.tr {h h1 h2 : am_S} (a : tn_fK h h1) (b : tn_fK h1 h2) : tn_fK h h2 := ⟨fun i hi hj => (b.1 i hi hj).trans (a.1 i hi hj), fun k hk => (b.2 k hk).trans (a.2 k hk)⟩
theorem tn_C.fr {n m : Nat} {ar : Nat → Nat} {sg : Nat → Option Nat} {pt : Nat → Nat → Nat} {hs : List (Nat × Nat)} {h h' : am_S} (C : tn_C n m ar sg pt hs h) (f1 : ∀ i, 2 ≤ i → i ≤ 4 → h'.1 i = h.1 i) (f2 : ∀ k, 8 ≤ k → k ≤ 14 → h'.2 k = h.2 k) : tn_C n m ar sg pt hs h' := by
  obtain ⟨c1, c2, c3, c4, c5, c6, c7, c8, c9⟩ := C
  refine ⟨⟨by rw [f1 2 (by omega) (by omega)]; exact c1.1, c1.2⟩, ⟨by rw [f1 3 (by omega) (by omega)]; exact c2.1, c2.2⟩, by rw [f1 4 (by omega) (by omega)]; exact c3, fun s hs9 => ?_, fun t ht9 => ?_, c6, c7, fun t ht => ?_, fun i q hq => ?_⟩
  · rw [f2 8 (by omega) (by omega)]; exact c4 s hs9
  · rw [f2 9 (by omega) (by omega), f2 10 (by omega) (by omega)]; exact c5 t ht9
  · rw [f2 11 (by omega) (by omega), f2 12 (by omega) (by omega), f2 13 (by omega) (by omega)]; exact c8 t ht
  · rw [f2 14 (by omega) (by omega)]; exact c9 i q hq
theorem tn_C.K {n m : Nat} {ar : Nat → Nat} {sg : Nat → Option Nat} {pt : Nat → Nat → Nat} {hs : List (Nat × Nat)} {h h' : am_S} (C : tn_C n m ar sg pt hs h) (f : tn_fK h h') : tn_C n m ar sg pt hs h' :=
  C.fr (fun i _ _ => f.1 i (by omega) (by omega)) (fun k _ _ => f.2 k (by omega))
/-- Walk.begin -/
theorem sp_27 {Q : am_Q} {h : am_S} (hQ : ∀ h', tn_K [] [] (fun _ => 0) h' → tn_fK h h' → Q h' (.inl none)) : am_AW tn_G tn_X (27, 0, 0, [some (.ref 3)], [], h) Q := by
  refine am_AW.go [] 60 ?_
  simp only [am_Zs, am_zn_1, am_g3, am_a3, am_kz_l, am_kz_r, am_mem, Bool.false_eq_true, am_Rs, am_R0, am_g2, am_al, am_kk_l, am_kk_r, am_step, am_op, am_one, am_two, am_br, am_inv, am_pp, am_ct, am_in, am_no, am_rc, am_s1, am_cut, am_s2, List.getElem?_cons_zero, List.getElem?_cons_succ, List.set_cons_zero, List.set_cons_succ, Value.category, List.cons_append, List.nil_append, am_f0, am_f1, am_f2, am_f3, am_cm1, am_c0, am_c1, am_c2, am_c3, am_c20, am_c40, am_c400, am_c401, am_c1600, true_and, and_true, true_implies, if_true, if_false, Nat.reduceAdd, Nat.reduceSub, Nat.reduceLT, Nat.reduceLeDiff, Nat.reduceEqDiff, reduceIte, Nat.le_refl, or_false, false_and, false_implies, or_true, true_or, implies_true, pk_us, pk_un, am_vs, am_vn, bx_uu, ne_eq, not_false_eq_true, not_true_eq_false, am_b0, am_b1, Nat.not_lt_zero, am_tl0, am_tl1, kr_27, kn_27, kl_27, kc_27_0, kc_27_1, kf_27_9, kc_27_4, kc_27_5, kl_78, ko_78, kn_78, ka_27_82, kc_27_8, kc_27_9, kc_27_10, kf_27_27, kc_27_13, kc_27_14, kc_27_15, kf_27_31, kc_27_18, tn_X0, tn_X1, tn_X2, tn_X3, tn_X4, tn_X5, tn_X6, tn_X7, tn_X8, tn_X9, tn_X10, tn_X11, tn_X12, tn_X13, tn_X14, tn_X15, tn_X16, tn_X17, tn_X18, tn_X19, tn_X20, tn_X21, tn_X22]
  refine sp_78 tn_X15 (by omega) ?_
  simp only [am_Zs, am_zn_1, am_g3, am_a3, am_kz_l, am_kz_r, am_mem, Bool.false_eq_true, am_Rs, am_R0, am_g2, am_al, am_kk_l, am_kk_r, am_step, am_op, am_one, am_two, am_br, am_inv, am_pp, am_ct, am_in, am_no, am_rc, am_s1, am_cut, am_s2, List.getElem?_cons_zero, List.getElem?_cons_succ, List.set_cons_zero, List.set_cons_succ, Value.category, List.cons_append, List.nil_append, am_f0, am_f1, am_f2, am_f3, am_cm1, am_c0, am_c1, am_c2, am_c3, am_c20, am_c40, am_c400, am_c401, am_c1600, true_and, and_true, true_implies, if_true, if_false, Nat.reduceAdd, Nat.reduceSub, Nat.reduceLT, Nat.reduceLeDiff, Nat.reduceEqDiff, reduceIte, Nat.le_refl, or_false, false_and, false_implies, or_true, true_or, implies_true, pk_us, pk_un, am_vs, am_vn, bx_uu, ne_eq, not_false_eq_true, not_true_eq_false, am_b0, am_b1, Nat.not_lt_zero, am_tl0, am_tl1, kr_27, kn_27, kl_27, kc_27_0, kc_27_1, kf_27_9, kc_27_4, kc_27_5, kl_78, ko_78, kn_78, ka_27_82, kc_27_8, kc_27_9, kc_27_10, kf_27_27, kc_27_13, kc_27_14, kc_27_15, kf_27_31, kc_27_18, tn_X0, tn_X1, tn_X2, tn_X3, tn_X4, tn_X5, tn_X6, tn_X7, tn_X8, tn_X9, tn_X10, tn_X11, tn_X12, tn_X13, tn_X14, tn_X15, tn_X16, tn_X17, tn_X18, tn_X19, tn_X20, tn_X21, tn_X22]
  refine hQ _ ⟨?_, ?_, fun t ht => ?_, fun x hx => (by cases hx), fun i x hx => (by simp at hx), fun i x hx => (by simp at hx)⟩ ⟨fun i hi hj => ?_, fun k hk => ?_⟩
  · simp only [pk_un (show (5 : Nat) ≠ 6 by decide), pk_us]; rfl
  · simp only [pk_us]; rfl
  · simp only [am_vs, tn_fi, if_pos ht, List.not_mem_nil, if_false]
  · simp only [pk_un hi, pk_un hj]
  · simp only [am_vn (show k ≠ 15 by omega)]
theorem tn_rev_get {c i : Nat} {P : List Nat} {x : Nat} (h : (c :: P).reverse[i]? = some x) : (i = P.length ∧ x = c) ∨ (i < P.length ∧ P.reverse[i]? = some x) := by
  rw [List.reverse_cons] at h
  by_cases e : i < P.reverse.length
  · right
    rw [List.getElem?_append_left e] at h
    rw [List.length_reverse] at e
    exact ⟨e, h⟩
  · left
    have h1 := (List.getElem?_eq_some_iff.mp h).1
    rw [List.length_append, List.length_reverse] at h1
    rw [List.length_reverse] at e
    have : i = P.length := by
      simp only [List.length_cons, List.length_nil] at h1
      omega
    subst this
    rw [List.getElem?_append_right (by rw [List.length_reverse]; exact Nat.le_refl _), List.length_reverse, Nat.sub_self] at h
    exact ⟨rfl, by simpa using h.symm⟩
/-- Walk.enter -/
theorem sp_29 {Q : am_Q} {h : am_S} {P O : List Nat} {tr : Nat → Nat} (K : tn_K P O tr h) {c : Nat} (hc : c < 400) (hl : c ∉ P → c ∉ O → P.length < 400)
    (hnew : c ∉ P → c ∉ O → ∀ h', tn_K (c :: P) O (fun y => if y = c then 0 else tr y) h' → tn_fK h h' → Q h' (.inl (some (.int (nI 1)))))
    (hdone : c ∈ O → Q h (.inl (some (.int (nI 1))))) (hopen : c ∉ O → c ∈ P → Q h (.inl (some (.int (nI 0))))) : am_AW tn_G tn_X (29, 0, 0, [some (.ref 3), some (.int (nI c))], [], h) Q := by
  obtain ⟨k1, k2, k3, k4, k5, k6⟩ := K
  refine am_AW.go [] 60 ?_
  simp only [am_Zs, am_zn_1, am_g3, am_a3, am_kz_l, am_kz_r, am_mem, Bool.false_eq_true, am_Rs, am_R0, am_g2, am_al, am_kk_l, am_kk_r, am_step, am_op, am_one, am_two, am_br, am_inv, am_pp, am_ct, am_in, am_no, am_rc, am_s1, am_cut, am_s2, List.getElem?_cons_zero, List.getElem?_cons_succ, List.set_cons_zero, List.set_cons_succ, Value.category, List.cons_append, List.nil_append, am_f0, am_f1, am_f2, am_f3, am_cm1, am_c0, am_c1, am_c2, am_c3, am_c20, am_c40, am_c400, am_c401, am_c1600, true_and, and_true, true_implies, if_true, if_false, Nat.reduceAdd, Nat.reduceSub, Nat.reduceLT, Nat.reduceLeDiff, Nat.reduceEqDiff, reduceIte, Nat.le_refl, or_false, false_and, false_implies, or_true, true_or, implies_true, pk_us, pk_un, am_vs, am_vn, bx_uu, ne_eq, not_false_eq_true, not_true_eq_false, am_b0, am_b1, Nat.not_lt_zero, am_tl0, am_tl1, kr_29, kn_29, kl_29, kc_29_0, kc_29_1, kf_29_9, kc_29_4, kc_29_5, kc_29_6, kc_29_9, kc_29_10, kc_29_13, kc_29_14, kc_29_15, kc_29_16, kc_29_17, kf_29_15, kc_29_20, kc_29_21, kc_29_22, kc_29_23, kc_29_24, kf_29_18, kc_29_27, kc_29_28, kf_29_27, kc_29_31, kc_29_32, kc_29_33, kc_29_34, kc_29_35, kc_29_38, kc_29_39, kc_29_40, kc_29_43, kc_29_46, kc_29_47, kc_29_50, kc_29_51, kc_29_52, kc_29_53, kc_29_56, kc_29_57, kc_29_58, kc_29_59, tn_X0, tn_X1, tn_X2, tn_X3, tn_X4, tn_X5, tn_X6, tn_X7, tn_X8, tn_X9, tn_X10, tn_X11, tn_X12, tn_X13, tn_X14, tn_X15, tn_X16, tn_X17, tn_X18, tn_X19, tn_X20, tn_X21, tn_X22]
  rw [cl_ (by omega), k3 c hc, k1]
  by_cases hO : c ∈ O
  · rw [if_pos hO]
    refine ⟨vi_ hc (by omega), fun _ => ⟨vi_ hc (by omega), fun _ => hdone hO, fun q => absurd q (by decide)⟩, fun q => absurd q (by decide)⟩
  · rw [if_neg hO]
    by_cases hP : c ∈ P
    · rw [if_pos hP]
      exact ⟨vi_ hc (by omega), fun _ => ⟨vi_ hc (by omega), fun q => absurd rfl q, fun _ => hopen hO hP⟩, fun q => absurd q (by decide)⟩
    · rw [if_neg hP]
      have hl := hl hP hO
      rw [cl_ (by omega), nI_add]
      refine ⟨vi_ hc (by omega), fun q => absurd nI_0 q, fun _ => ⟨vi_ hc (by omega), vi_ hc (by omega), vi_ hl (by omega), ?_⟩⟩
      refine hnew hP hO _ ⟨?_, ?_, fun t ht => ?_, fun x hx => ?_, fun i x hx => ?_, fun i x hx => ?_⟩ ⟨fun i hi hj => ?_, fun k hk => ?_⟩
      · simp only [pk_us, List.length_cons]
      · simp only [pk_un (show (6 : Nat) ≠ 5 by decide)]; exact k2
      · simp only [am_vn (show (15 : Nat) ≠ 17 by decide), am_vn (show (15 : Nat) ≠ 16 by decide), am_vs, upd, List.mem_cons]
        by_cases e : t = c
        · subst e
          simp [hO]
        · rw [if_neg e, k3 t ht]
          simp only [e, false_or]
      · simp only [am_vn (show (16 : Nat) ≠ 17 by decide), am_vs, upd]
        by_cases e : x = c
        · rw [if_pos e, if_pos e]
        · rw [if_neg e, if_neg e]
          rcases List.mem_cons.mp hx with q | q
          · exact absurd q e
          · exact k4 x q
      · simp only [am_vs, upd]
        rcases tn_rev_get hx with ⟨e1, e2⟩ | ⟨e1, e2⟩
        · rw [if_pos e1, e2]
        · rw [if_neg (by omega)]; exact k5 i x e2
      · simp only [am_vn (show (18 : Nat) ≠ 17 by decide), am_vn (show (18 : Nat) ≠ 16 by decide), am_vn (show (18 : Nat) ≠ 15 by decide)]
        exact k6 i x hx
      · simp only [pk_un hi]
      · simp only [am_vn (show k ≠ 17 by omega), am_vn (show k ≠ 16 by omega), am_vn (show k ≠ 15 by omega)]
/-- a group's parts -/
def tn_ch (sg : Nat → Option Nat) (pt : Nat → Nat → Nat) (hs : List (Nat × Nat)) (x k : Nat) : Nat := match pu_hs sg hs (pu_hg hs x) with
  | none => 0
  | some s => pu_hg hs (pt s k)
theorem tn_C.ch {n m : Nat} {ar : Nat → Nat} {sg : Nat → Option Nat} {pt : Nat → Nat → Nat} {hs : List (Nat × Nat)} {h : am_S} (C : tn_C n m ar sg pt hs h) {x k : Nat} (hx : x < n) (hk : k < tn_dg ar sg hs x) : ∃ s, pu_hs sg hs (pu_hg hs x) = some s ∧ k < pu_np sg ar s ∧ s < n ∧ tn_ch sg pt hs x k = pu_hg hs (pt s k) ∧ tn_ch sg pt hs x k < n ∧ pu_hg hs (tn_ch sg pt hs x k) = tn_ch sg pt hs x k := by
  unfold tn_dg at hk
  cases e : pu_hs sg hs (pu_hg hs x) with
  | none => rw [e] at hk; exact absurd hk (Nat.not_lt_zero _)
  | some s =>
    rw [e] at hk
    have hsn := C.sx (C.g hx) e
    have hp := C.pl hsn hk
    have e2 : tn_ch sg pt hs x k = pu_hg hs (pt s k) := by unfold tn_ch; rw [e]
    exact ⟨s, rfl, hk, hsn, e2, by rw [e2]; exact C.g hp, by rw [e2]; exact (pu_hg_part C.V _).2⟩
theorem tn_C.d3 {n m : Nat} {ar : Nat → Nat} {sg : Nat → Option Nat} {pt : Nat → Nat → Nat} {hs : List (Nat × Nat)} {h : am_S} (C : tn_C n m ar sg pt hs h) {x : Nat} (hx : x < n) : tn_dg ar sg hs x ≤ 3 := by
  unfold tn_dg
  cases e : pu_hs sg hs (pu_hg hs x) with
  | none => exact Nat.zero_le _
  | some s => exact C.p3 (C.sx (C.g hx) e)
section GO
variable {n m : Nat} {ar : Nat → Nat} {sg : Nat → Option Nat} {pt : Nat → Nat → Nat} {hs : List (Nat × Nat)} {h : am_S} {Q : am_Q} {P O : List Nat} {tr : Nat → Nat}
set_option maxRecDepth 4000 in
/-- Walk.goOn -/
theorem sp_30 (C : tn_C n m ar sg pt hs h) {x : Nat} (hx : x < n) (K : tn_K (x :: P) O tr h) (hxO : x ∉ O) (hxP : x ∉ P) (htr : tr x ≤ tn_dg ar sg hs x) (hlO : O.length < 400) (hlP : ∀ c, c < n → c ∉ x :: P → c ∉ O → P.length + 1 < 400)
    (hpush : tr x < tn_dg ar sg hs x → tn_ch sg pt hs x (tr x) ∉ x :: P → tn_ch sg pt hs x (tr x) ∉ O → ∀ h', tn_K (tn_ch sg pt hs x (tr x) :: x :: P) O (fun y => if y = tn_ch sg pt hs x (tr x) then 0 else if y = x then tr x + 1 else tr y) h' → tn_fK h h' → Q h' (.inl (some (.int (nI 1)))))
    (hskip : tr x < tn_dg ar sg hs x → tn_ch sg pt hs x (tr x) ∈ O → ∀ h', tn_K (x :: P) O (fun y => if y = x then tr x + 1 else tr y) h' → tn_fK h h' → Q h' (.inl (some (.int (nI 1)))))
    (hcyc : tr x < tn_dg ar sg hs x → tn_ch sg pt hs x (tr x) ∈ x :: P → ∀ h', tn_fK h h' → Q h' (.inl (some (.int (nI 0)))))
    (hpop : tn_dg ar sg hs x ≤ tr x → ∀ h', tn_K P (x :: O) tr h' → tn_fK h h' → Q h' (.inl (some (.int (nI 1))))) :
    am_AW tn_G tn_X (30, 0, 0, [some (.ref 3), some (.int (nI x))], [], h) Q := by
  have hn := C.le
  have h3 := C.d3 hx
  obtain ⟨k1, k2, k3, k4, k5, k6⟩ := id K
  have ktr := k4 x List.mem_cons_self
  refine am_AW.go [] 60 ?_
  simp only [am_Zs, am_zn_1, am_g3, am_a3, am_kz_l, am_kz_r, am_mem, Bool.false_eq_true, am_Rs, am_R0, am_g2, am_al, am_kk_l, am_kk_r, am_step, am_op, am_one, am_two, am_br, am_inv, am_pp, am_ct, am_in, am_no, am_rc, am_s1, am_cut, am_s2, List.getElem?_cons_zero, List.getElem?_cons_succ, List.set_cons_zero, List.set_cons_succ, Value.category, List.cons_append, List.nil_append, am_f0, am_f1, am_f2, am_f3, am_cm1, am_c0, am_c1, am_c2, am_c3, am_c20, am_c40, am_c400, am_c401, am_c1600, true_and, and_true, true_implies, if_true, if_false, Nat.reduceAdd, Nat.reduceSub, Nat.reduceLT, Nat.reduceLeDiff, Nat.reduceEqDiff, reduceIte, Nat.le_refl, or_false, false_and, false_implies, or_true, true_or, implies_true, pk_us, pk_un, am_vs, am_vn, bx_uu, ne_eq, not_false_eq_true, not_true_eq_false, am_b0, am_b1, Nat.not_lt_zero, am_tl0, am_tl1, kr_30, kn_30, kl_30, kc_30_0, kc_30_1, kf_30_15, kc_30_4, kc_30_5, kc_30_6, kc_30_7, kf_30_34, kc_30_10, kc_30_11, kl_11, ko_11, kn_11, ka_30_58, kc_30_14, kc_30_17, kc_30_18, kc_30_21, kc_30_22, kc_30_23, kc_30_24, kc_30_25, kc_30_26, kc_30_27, kc_30_28, kc_30_29, kc_30_32, kc_30_33, kc_30_34, kc_30_37, kc_30_38, kc_30_39, kc_30_40, kc_30_41, kl_12, ko_12, kn_12, ka_30_61, kc_30_44, kl_29, ko_29, kn_29, ka_30_88, kc_30_47, kc_30_48, kc_30_49, kf_30_9, kc_30_52, kc_30_53, kc_30_54, kc_30_55, kc_30_56, kf_30_21, kc_30_59, kc_30_60, kf_30_31, kc_30_63, kc_30_64, kc_30_65, kc_30_66, kc_30_67, kc_30_70, kc_30_71, kc_30_72, kc_30_75, kc_30_76, kc_30_77, kf_30_27, kc_30_80, kc_30_81, kc_30_82, kc_30_85, kc_30_86, tn_X0, tn_X1, tn_X2, tn_X3, tn_X4, tn_X5, tn_X6, tn_X7, tn_X8, tn_X9, tn_X10, tn_X11, tn_X12, tn_X13, tn_X14, tn_X15, tn_X16, tn_X17, tn_X18, tn_X19, tn_X20, tn_X21, tn_X22]
  refine ⟨vi_ (by omega) (by omega), ?_⟩
  refine sp_11 C hx ?_
  simp only [am_Zs, am_zn_1, am_g3, am_a3, am_kz_l, am_kz_r, am_mem, Bool.false_eq_true, am_Rs, am_R0, am_g2, am_al, am_kk_l, am_kk_r, am_step, am_op, am_one, am_two, am_br, am_inv, am_pp, am_ct, am_in, am_no, am_rc, am_s1, am_cut, am_s2, List.getElem?_cons_zero, List.getElem?_cons_succ, List.set_cons_zero, List.set_cons_succ, Value.category, List.cons_append, List.nil_append, am_f0, am_f1, am_f2, am_f3, am_cm1, am_c0, am_c1, am_c2, am_c3, am_c20, am_c40, am_c400, am_c401, am_c1600, true_and, and_true, true_implies, if_true, if_false, Nat.reduceAdd, Nat.reduceSub, Nat.reduceLT, Nat.reduceLeDiff, Nat.reduceEqDiff, reduceIte, Nat.le_refl, or_false, false_and, false_implies, or_true, true_or, implies_true, pk_us, pk_un, am_vs, am_vn, bx_uu, ne_eq, not_false_eq_true, not_true_eq_false, am_b0, am_b1, Nat.not_lt_zero, am_tl0, am_tl1, kr_30, kn_30, kl_30, kc_30_0, kc_30_1, kf_30_15, kc_30_4, kc_30_5, kc_30_6, kc_30_7, kf_30_34, kc_30_10, kc_30_11, kl_11, ko_11, kn_11, ka_30_58, kc_30_14, kc_30_17, kc_30_18, kc_30_21, kc_30_22, kc_30_23, kc_30_24, kc_30_25, kc_30_26, kc_30_27, kc_30_28, kc_30_29, kc_30_32, kc_30_33, kc_30_34, kc_30_37, kc_30_38, kc_30_39, kc_30_40, kc_30_41, kl_12, ko_12, kn_12, ka_30_61, kc_30_44, kl_29, ko_29, kn_29, ka_30_88, kc_30_47, kc_30_48, kc_30_49, kf_30_9, kc_30_52, kc_30_53, kc_30_54, kc_30_55, kc_30_56, kf_30_21, kc_30_59, kc_30_60, kf_30_31, kc_30_63, kc_30_64, kc_30_65, kc_30_66, kc_30_67, kc_30_70, kc_30_71, kc_30_72, kc_30_75, kc_30_76, kc_30_77, kf_30_27, kc_30_80, kc_30_81, kc_30_82, kc_30_85, kc_30_86, tn_X0, tn_X1, tn_X2, tn_X3, tn_X4, tn_X5, tn_X6, tn_X7, tn_X8, tn_X9, tn_X10, tn_X11, tn_X12, tn_X13, tn_X14, tn_X15, tn_X16, tn_X17, tn_X18, tn_X19, tn_X20, tn_X21, tn_X22]
  rw [cl_ (by omega), ktr, nI_leI (by omega) (by omega), nI_add, k1, k2, cl_ (by omega), nI_add, show nI 1 = 1 by decide, nI_pred, List.length_cons, nI_pred]
  refine ⟨fun hle => ⟨vi_ (by omega) (by omega), vi_ (by omega) (by omega), ?_⟩, fun hlt => ⟨vi_ (by omega) (by omega), vi_ (by omega) (by omega), vi_ (by omega) (by omega), ?_⟩⟩
  · refine hpop hle _ ⟨?_, ?_, fun t ht => ?_, fun y hy => ?_, fun i y hy => ?_, fun i y hy => ?_⟩ ⟨fun i hi hj => ?_, fun k hk => ?_⟩
    · simp only [pk_us]
    · simp only [pk_un (show (6 : Nat) ≠ 5 by decide), pk_us, List.length_cons]
    · simp only [am_vn (show (15 : Nat) ≠ 18 by decide), am_vs, upd, List.mem_cons]
      by_cases e : t = x
      · subst e; simp
      · rw [if_neg e, k3 t ht]
        simp only [List.mem_cons, e, false_or]
    · simp only [am_vn (show (16 : Nat) ≠ 18 by decide), am_vn (show (16 : Nat) ≠ 15 by decide)]
      exact k4 y (List.mem_cons_of_mem _ hy)
    · simp only [am_vn (show (17 : Nat) ≠ 18 by decide), am_vn (show (17 : Nat) ≠ 15 by decide)]
      refine k5 i y ?_
      rw [List.reverse_cons, List.getElem?_append_left (List.getElem?_eq_some_iff.mp hy).1]
      exact hy
    · simp only [am_vs, upd]
      rcases tn_rev_get hy with ⟨e1, e2⟩ | ⟨e1, e2⟩
      · rw [if_pos e1, e2]
      · rw [if_neg (by omega)]; exact k6 i y e2
    · simp only [pk_un hi, pk_un hj]
    · simp only [am_vn (show k ≠ 18 by omega), am_vn (show k ≠ 15 by omega)]
  · have hlt : tr x < tn_dg ar sg hs x := by omega
    obtain ⟨s, e1, e2, e3, e4, e5, e6⟩ := C.ch hx hlt
    have C2 : tn_C n m ar sg pt hs (h.1, va_up h.2 16 (upd (h.2 16) x (nI (tr x + 1)))) := C.fr (fun _ _ _ => rfl) (fun k a b => am_vn (by omega))
    have K2 : tn_K (x :: P) O (fun y => if y = x then tr x + 1 else tr y) (h.1, va_up h.2 16 (upd (h.2 16) x (nI (tr x + 1)))) := by
      refine ⟨k1, k2, fun t ht => ?_, fun y hy => ?_, fun i y hy => ?_, fun i y hy => ?_⟩
      · simp only [am_vn (show (15 : Nat) ≠ 16 by decide)]; exact k3 t ht
      · simp only [am_vs, upd]
        by_cases e : y = x
        · rw [if_pos e, if_pos e]
        · rw [if_neg e, if_neg e]; exact k4 y hy
      · simp only [am_vn (show (17 : Nat) ≠ 16 by decide)]; exact k5 i y hy
      · simp only [am_vn (show (18 : Nat) ≠ 16 by decide)]; exact k6 i y hy
    have f2 : tn_fK h (h.1, va_up h.2 16 (upd (h.2 16) x (nI (tr x + 1)))) := ⟨fun _ _ _ => rfl, fun k hk => am_vn (by omega)⟩
    refine sp_12 C2 hx e1 e2 ?_
    rw [← e4]
    simp only [am_Zs, am_zn_1, am_g3, am_a3, am_kz_l, am_kz_r, am_mem, Bool.false_eq_true, am_Rs, am_R0, am_g2, am_al, am_kk_l, am_kk_r, am_step, am_op, am_one, am_two, am_br, am_inv, am_pp, am_ct, am_in, am_no, am_rc, am_s1, am_cut, am_s2, List.getElem?_cons_zero, List.getElem?_cons_succ, List.set_cons_zero, List.set_cons_succ, Value.category, List.cons_append, List.nil_append, am_f0, am_f1, am_f2, am_f3, am_cm1, am_c0, am_c1, am_c2, am_c3, am_c20, am_c40, am_c400, am_c401, am_c1600, true_and, and_true, true_implies, if_true, if_false, Nat.reduceAdd, Nat.reduceSub, Nat.reduceLT, Nat.reduceLeDiff, Nat.reduceEqDiff, reduceIte, Nat.le_refl, or_false, false_and, false_implies, or_true, true_or, implies_true, pk_us, pk_un, am_vs, am_vn, bx_uu, ne_eq, not_false_eq_true, not_true_eq_false, am_b0, am_b1, Nat.not_lt_zero, am_tl0, am_tl1, kr_30, kn_30, kl_30, kc_30_0, kc_30_1, kf_30_15, kc_30_4, kc_30_5, kc_30_6, kc_30_7, kf_30_34, kc_30_10, kc_30_11, kl_11, ko_11, kn_11, ka_30_58, kc_30_14, kc_30_17, kc_30_18, kc_30_21, kc_30_22, kc_30_23, kc_30_24, kc_30_25, kc_30_26, kc_30_27, kc_30_28, kc_30_29, kc_30_32, kc_30_33, kc_30_34, kc_30_37, kc_30_38, kc_30_39, kc_30_40, kc_30_41, kl_12, ko_12, kn_12, ka_30_61, kc_30_44, kl_29, ko_29, kn_29, ka_30_88, kc_30_47, kc_30_48, kc_30_49, kf_30_9, kc_30_52, kc_30_53, kc_30_54, kc_30_55, kc_30_56, kf_30_21, kc_30_59, kc_30_60, kf_30_31, kc_30_63, kc_30_64, kc_30_65, kc_30_66, kc_30_67, kc_30_70, kc_30_71, kc_30_72, kc_30_75, kc_30_76, kc_30_77, kf_30_27, kc_30_80, kc_30_81, kc_30_82, kc_30_85, kc_30_86, tn_X0, tn_X1, tn_X2, tn_X3, tn_X4, tn_X5, tn_X6, tn_X7, tn_X8, tn_X9, tn_X10, tn_X11, tn_X12, tn_X13, tn_X14, tn_X15, tn_X16, tn_X17, tn_X18, tn_X19, tn_X20, tn_X21, tn_X22]
    refine sp_29 K2 (by omega) (fun q1 q2 => by rw [List.length_cons]; exact hlP _ e5 q1 q2) (fun q1 q2 h' K' f' => ?_) (fun q => ?_) (fun q1 q2 => ?_)
    · simp only [am_Zs, am_zn_1, am_g3, am_a3, am_kz_l, am_kz_r, am_mem, Bool.false_eq_true, am_Rs, am_R0, am_g2, am_al, am_kk_l, am_kk_r, am_step, am_op, am_one, am_two, am_br, am_inv, am_pp, am_ct, am_in, am_no, am_rc, am_s1, am_cut, am_s2, List.getElem?_cons_zero, List.getElem?_cons_succ, List.set_cons_zero, List.set_cons_succ, Value.category, List.cons_append, List.nil_append, am_f0, am_f1, am_f2, am_f3, am_cm1, am_c0, am_c1, am_c2, am_c3, am_c20, am_c40, am_c400, am_c401, am_c1600, true_and, and_true, true_implies, if_true, if_false, Nat.reduceAdd, Nat.reduceSub, Nat.reduceLT, Nat.reduceLeDiff, Nat.reduceEqDiff, reduceIte, Nat.le_refl, or_false, false_and, false_implies, or_true, true_or, implies_true, pk_us, pk_un, am_vs, am_vn, bx_uu, ne_eq, not_false_eq_true, not_true_eq_false, am_b0, am_b1, Nat.not_lt_zero, am_tl0, am_tl1, kr_30, kn_30, kl_30, kc_30_0, kc_30_1, kf_30_15, kc_30_4, kc_30_5, kc_30_6, kc_30_7, kf_30_34, kc_30_10, kc_30_11, kl_11, ko_11, kn_11, ka_30_58, kc_30_14, kc_30_17, kc_30_18, kc_30_21, kc_30_22, kc_30_23, kc_30_24, kc_30_25, kc_30_26, kc_30_27, kc_30_28, kc_30_29, kc_30_32, kc_30_33, kc_30_34, kc_30_37, kc_30_38, kc_30_39, kc_30_40, kc_30_41, kl_12, ko_12, kn_12, ka_30_61, kc_30_44, kl_29, ko_29, kn_29, ka_30_88, kc_30_47, kc_30_48, kc_30_49, kf_30_9, kc_30_52, kc_30_53, kc_30_54, kc_30_55, kc_30_56, kf_30_21, kc_30_59, kc_30_60, kf_30_31, kc_30_63, kc_30_64, kc_30_65, kc_30_66, kc_30_67, kc_30_70, kc_30_71, kc_30_72, kc_30_75, kc_30_76, kc_30_77, kf_30_27, kc_30_80, kc_30_81, kc_30_82, kc_30_85, kc_30_86, tn_X0, tn_X1, tn_X2, tn_X3, tn_X4, tn_X5, tn_X6, tn_X7, tn_X8, tn_X9, tn_X10, tn_X11, tn_X12, tn_X13, tn_X14, tn_X15, tn_X16, tn_X17, tn_X18, tn_X19, tn_X20, tn_X21, tn_X22]
      exact hpush hlt q1 q2 h' K' (f2.tr f')
    · simp only [am_Zs, am_zn_1, am_g3, am_a3, am_kz_l, am_kz_r, am_mem, Bool.false_eq_true, am_Rs, am_R0, am_g2, am_al, am_kk_l, am_kk_r, am_step, am_op, am_one, am_two, am_br, am_inv, am_pp, am_ct, am_in, am_no, am_rc, am_s1, am_cut, am_s2, List.getElem?_cons_zero, List.getElem?_cons_succ, List.set_cons_zero, List.set_cons_succ, Value.category, List.cons_append, List.nil_append, am_f0, am_f1, am_f2, am_f3, am_cm1, am_c0, am_c1, am_c2, am_c3, am_c20, am_c40, am_c400, am_c401, am_c1600, true_and, and_true, true_implies, if_true, if_false, Nat.reduceAdd, Nat.reduceSub, Nat.reduceLT, Nat.reduceLeDiff, Nat.reduceEqDiff, reduceIte, Nat.le_refl, or_false, false_and, false_implies, or_true, true_or, implies_true, pk_us, pk_un, am_vs, am_vn, bx_uu, ne_eq, not_false_eq_true, not_true_eq_false, am_b0, am_b1, Nat.not_lt_zero, am_tl0, am_tl1, kr_30, kn_30, kl_30, kc_30_0, kc_30_1, kf_30_15, kc_30_4, kc_30_5, kc_30_6, kc_30_7, kf_30_34, kc_30_10, kc_30_11, kl_11, ko_11, kn_11, ka_30_58, kc_30_14, kc_30_17, kc_30_18, kc_30_21, kc_30_22, kc_30_23, kc_30_24, kc_30_25, kc_30_26, kc_30_27, kc_30_28, kc_30_29, kc_30_32, kc_30_33, kc_30_34, kc_30_37, kc_30_38, kc_30_39, kc_30_40, kc_30_41, kl_12, ko_12, kn_12, ka_30_61, kc_30_44, kl_29, ko_29, kn_29, ka_30_88, kc_30_47, kc_30_48, kc_30_49, kf_30_9, kc_30_52, kc_30_53, kc_30_54, kc_30_55, kc_30_56, kf_30_21, kc_30_59, kc_30_60, kf_30_31, kc_30_63, kc_30_64, kc_30_65, kc_30_66, kc_30_67, kc_30_70, kc_30_71, kc_30_72, kc_30_75, kc_30_76, kc_30_77, kf_30_27, kc_30_80, kc_30_81, kc_30_82, kc_30_85, kc_30_86, tn_X0, tn_X1, tn_X2, tn_X3, tn_X4, tn_X5, tn_X6, tn_X7, tn_X8, tn_X9, tn_X10, tn_X11, tn_X12, tn_X13, tn_X14, tn_X15, tn_X16, tn_X17, tn_X18, tn_X19, tn_X20, tn_X21, tn_X22]
      exact hskip hlt q _ K2 f2
    · simp only [am_Zs, am_zn_1, am_g3, am_a3, am_kz_l, am_kz_r, am_mem, Bool.false_eq_true, am_Rs, am_R0, am_g2, am_al, am_kk_l, am_kk_r, am_step, am_op, am_one, am_two, am_br, am_inv, am_pp, am_ct, am_in, am_no, am_rc, am_s1, am_cut, am_s2, List.getElem?_cons_zero, List.getElem?_cons_succ, List.set_cons_zero, List.set_cons_succ, Value.category, List.cons_append, List.nil_append, am_f0, am_f1, am_f2, am_f3, am_cm1, am_c0, am_c1, am_c2, am_c3, am_c20, am_c40, am_c400, am_c401, am_c1600, true_and, and_true, true_implies, if_true, if_false, Nat.reduceAdd, Nat.reduceSub, Nat.reduceLT, Nat.reduceLeDiff, Nat.reduceEqDiff, reduceIte, Nat.le_refl, or_false, false_and, false_implies, or_true, true_or, implies_true, pk_us, pk_un, am_vs, am_vn, bx_uu, ne_eq, not_false_eq_true, not_true_eq_false, am_b0, am_b1, Nat.not_lt_zero, am_tl0, am_tl1, kr_30, kn_30, kl_30, kc_30_0, kc_30_1, kf_30_15, kc_30_4, kc_30_5, kc_30_6, kc_30_7, kf_30_34, kc_30_10, kc_30_11, kl_11, ko_11, kn_11, ka_30_58, kc_30_14, kc_30_17, kc_30_18, kc_30_21, kc_30_22, kc_30_23, kc_30_24, kc_30_25, kc_30_26, kc_30_27, kc_30_28, kc_30_29, kc_30_32, kc_30_33, kc_30_34, kc_30_37, kc_30_38, kc_30_39, kc_30_40, kc_30_41, kl_12, ko_12, kn_12, ka_30_61, kc_30_44, kl_29, ko_29, kn_29, ka_30_88, kc_30_47, kc_30_48, kc_30_49, kf_30_9, kc_30_52, kc_30_53, kc_30_54, kc_30_55, kc_30_56, kf_30_21, kc_30_59, kc_30_60, kf_30_31, kc_30_63, kc_30_64, kc_30_65, kc_30_66, kc_30_67, kc_30_70, kc_30_71, kc_30_72, kc_30_75, kc_30_76, kc_30_77, kf_30_27, kc_30_80, kc_30_81, kc_30_82, kc_30_85, kc_30_86, tn_X0, tn_X1, tn_X2, tn_X3, tn_X4, tn_X5, tn_X6, tn_X7, tn_X8, tn_X9, tn_X10, tn_X11, tn_X12, tn_X13, tn_X14, tn_X15, tn_X16, tn_X17, tn_X18, tn_X19, tn_X20, tn_X21, tn_X22]
      exact hcyc hlt q2 _ f2
end GO
end
