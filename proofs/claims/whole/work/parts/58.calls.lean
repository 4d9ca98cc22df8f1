/-! A configuration's end comes: what does not depend on it holds. Calls from a body of the kit's into the abstract machine. -/
theorem am_sw_cov {mk : Nat → am_C} {pc : Nat} {x lo : Int} : ∀ (offs : List Int) (j : Nat), lo + (j : Int) ≤ x → x < lo + (j : Int) + (offs.length : Int) → ∃ q ∈ am_sw mk pc x lo j offs, q.1
  | [], j, h1, h2 => by simp at h2; omega
  | off :: r, j, h1, h2 => by
    by_cases h : x = lo + (j : Int)
    · exact ⟨_, List.mem_cons_self, h⟩
    · simp only [List.length_cons] at h2
      obtain ⟨q, hq, hq1⟩ := am_sw_cov (mk := mk) (pc := pc) (x := x) (lo := lo) r (j + 1) (by omega) (by omega)
      exact ⟨q, List.mem_cons_of_mem _ hq, hq1⟩
theorem am_one_cov {c : am_C} {ob : Prop} {l : List (Prop × am_C)} (h : am_one c = some (ob, .inl l)) : ∃ q ∈ l, q.1 := by
  simp only [am_one, Option.some.injEq, Prod.mk.injEq, Sum.inl.injEq] at h
  obtain ⟨-, rfl⟩ := h
  exact ⟨_, List.mem_cons_self, trivial⟩
theorem am_br_cov {cc : ClassFile.Cond} {x y : Int32} {c c' : am_C} {ob : Prop} {l : List (Prop × am_C)} (h : am_br cc x y c c' = some (ob, .inl l)) : ∃ q ∈ l, q.1 := by
  have key : ∀ b : Prop, am_two b (¬ b) c c' = some (ob, .inl l) → ∃ q ∈ l, q.1 := by
    intro b hb
    simp only [am_two, Option.some.injEq, Prod.mk.injEq, Sum.inl.injEq] at hb
    obtain ⟨-, rfl⟩ := hb
    by_cases hq : b
    · exact ⟨_, List.mem_cons_self, hq⟩
    · exact ⟨_, List.mem_cons_of_mem _ List.mem_cons_self, hq⟩
  cases cc <;> simp only [am_br] at h
  · exact key _ h
  · simp only [am_two, Option.some.injEq, Prod.mk.injEq, Sum.inl.injEq] at h
    obtain ⟨-, rfl⟩ := h
    by_cases hq : x = y
    · exact ⟨_, List.mem_cons_of_mem _ List.mem_cons_self, hq⟩
    · exact ⟨_, List.mem_cons_self, hq⟩
  all_goals exact key _ h
theorem am_some_cov {o ob : Prop} {c : am_C} {l : List (Prop × am_C)} (h : some ((o, .inl [(True, c)]) : am_N) = some (ob, .inl l)) : ∃ q ∈ l, q.1 := by
  simp only [Option.some.injEq, Prod.mk.injEq, Sum.inl.injEq] at h
  obtain ⟨-, rfl⟩ := h
  exact ⟨_, List.mem_cons_self, trivial⟩
set_option maxHeartbeats 4000000 in
theorem am_op_cov {G : am_G} {sh : List am_D} {μ pc len tg nc : Nat} {lo : List (Option Value)} {st : List Value} {h : am_S} {i : Instr} {ob : Prop} {l : List (Prop × am_C)} (e : am_op G sh μ pc len tg nc lo st h i = some (ob, .inl l)) (hob : ob) : ∃ q ∈ l, q.1 := by
  have inv : ∀ k μ' n : Nat, am_inv G sh μ pc nc lo st h k μ' n = some (ob, .inl l) → ∃ q ∈ l, q.1 := by
    intro k μ' n e
    unfold am_inv at e
    split at e <;> cases e
  unfold am_op at e
  split at e
  all_goals (repeat' split at e)
  all_goals first
    | exact am_one_cov e
    | exact am_some_cov e
    | exact am_br_cov e
    | exact inv _ _ _ e
    | (cases e; done)
    | skip
  simp only [Option.some.injEq, Prod.mk.injEq, Sum.inl.injEq] at e
  obtain ⟨rfl, rfl⟩ := e
  rename_i d9 l9 u9 offs9 _ x9 _
  by_cases hc : x9.toInt < l9 ∨ u9 < x9.toInt
  · exact ⟨_, List.mem_cons_self, hc⟩
  · have hz : offs9.toList.length = offs9.size := Array.length_toList
    obtain ⟨q, hq, hq1⟩ := am_sw_cov (mk := fun t => (μ, t, nc, lo, _, h)) (pc := pc) (x := x9.toInt) (lo := l9) offs9.toList 0 (by omega) (by omega)
    exact ⟨q, List.mem_cons_of_mem _ hq, hq1⟩
theorem am_all_get {f : am_C → Prop} : ∀ {l : List (Prop × am_C)}, am_all f l → ∀ q ∈ l, q.1 → f q.2
  | _ :: _, h, q, hq, h1 => by
    rcases List.mem_cons.mp hq with rfl | hq
    · exact h.1 h1
    · exact am_all_get h.2 q hq h1
/-- an end comes -/
theorem am_AW.ends {G : am_G} {sh : List am_D} {c : am_C} {Q : am_Q} (h : am_AW G sh c Q) : ∃ h' o, Q h' o := by
  refine h (fun _ Q => ∃ h' o, Q h' o) (fun c Q Q' hQ hh => ?_) (fun c Q hg => ?_)
  · obtain ⟨h', o, q⟩ := hh
    exact ⟨h', o, hQ h' o q⟩
  · generalize hs : am_step G sh c = n at hg
    match n, hg with
    | some (ob, .inl l), hg =>
      have hcov : ∃ q ∈ l, q.1 := by
        simp only [am_step] at hs
        split at hs
        · exact am_op_cov hs hg.1
        · cases hs
      obtain ⟨q, hq, h1⟩ := hcov
      exact am_all_get hg.2 q hq h1
    | some (ob, .inr (.inl (c', K))), hg =>
      obtain ⟨-, h', o, hq⟩ := hg
      cases o with
      | inl r => exact hq
      | inr E => exact ⟨h', .inr E, hq⟩
    | some (ob, .inr (.inr (h0, o))), hg => exact ⟨h0, o, hg.2⟩
theorem tn_apR {D : va_G} {cl : List vw_C} {a b : va_W} {H : Heap} (h : va_P D cl (a ++ b) H) : va_P D cl b H := h.by (fun k => a.length + k) (fun k q hk => by rw [List.getElem?_append_right (Nat.le_add_right _ _), Nat.add_sub_cancel_left]; exact hk)
theorem tn_apL {D : va_G} {cl : List vw_C} {a b : va_W} {H : Heap} (h : va_P D cl (a ++ b) H) : va_P D cl a H := h.by (fun k => k) (fun k q hk => by rw [List.getElem?_append_left (List.getElem?_eq_some_iff.mp hk).1]; exact hk)
theorem tn_adR {A : Nat → Prop} {a b : va_W} (h : va_D A (a ++ b)) : va_D A b := h.by (fun k => a.length + k) (fun k q hk => by rw [List.getElem?_append_right (Nat.le_add_right _ _), Nat.add_sub_cancel_left]; exact hk) (fun i j _ _ e => by omega)
theorem tn_adL {A : Nat → Prop} {a b : va_W} (h : va_D A (a ++ b)) : va_D A a := h.by (fun k => k) (fun k q hk => by rw [List.getElem?_append_left (List.getElem?_eq_some_iff.mp hk).1]; exact hk) (fun i j _ _ e => e)
theorem tn_adX {A : Nat → Prop} {a b : va_W} (h : va_D A (a ++ b)) {i j : Nat} {p q : Nat × va_E} (hi : a[i]? = some p) (hj : b[j]? = some q) : p.1 ≠ q.1 := by
  intro e
  have h1 : (a ++ b)[i]? = some p := by rw [List.getElem?_append_left (List.getElem?_eq_some_iff.mp hi).1]; exact hi
  have h2 : (a ++ b)[a.length + j]? = some q := by rw [List.getElem?_append_right (Nat.le_add_right _ _), Nat.add_sub_cancel_left]; exact hj
  have h3 := h.1 _ _ _ _ h1 h2 e
  have h4 := (List.getElem?_eq_some_iff.mp hi).1
  omega
theorem tn_comP {D : va_G} {cl : List vw_C} {a b : va_W} {H : Heap} (h : va_P D cl (a ++ b) H) : va_P D cl (b ++ a) H := (tn_apR h).app (tn_apL h)
theorem tn_comD {A : Nat → Prop} {a b : va_W} (h : va_D A (a ++ b)) : va_D A (b ++ a) := (tn_adR h).app (tn_adL h) (fun _ _ _ _ h1 h2 e => tn_adX h h2 h1 e.symm)
/-- behind a call: the rest is as it was -/
theorem tn_join {A : Nat → Prop} {D : va_G} {cl : List vw_C} {wr wc w1 : va_W} {H H1 : Heap} (hP : va_P D cl (wr ++ wc) H) (hD : va_D A (wr ++ wc)) (hk : ∀ q : Nat, q < H.size → ¬ va_A wc H.size q → H1[q]? = H[q]?) (hF : ∀ q, va_A wc H.size q → A q) (hP1 : va_P D cl w1 H1) (hD1 : va_D (va_A wc H.size) w1) : va_P D cl (wr ++ w1) H1 ∧ va_D A (wr ++ w1) := by
  have hout : ∀ (k : Nat) (q : Nat × va_E), wr[k]? = some q → q.1 < H.size ∧ ¬ va_A wc H.size q.1 := by
    intro k q hq
    have h1 : q.1 < H.size := (tn_apL hP k q hq).lt
    refine ⟨h1, fun z => ?_⟩
    rcases z with ⟨j, e9, hj⟩ | z
    · exact tn_adX hD hq hj rfl
    · omega
  refine ⟨va_P.app ((tn_apL hP).kept (fun k q hq => hk q.1 (hout k q hq).1 (hout k q hq).2)) hP1, (tn_adL hD).app (hD1.weaken (fun _ _ _ z => hF _ z)) (fun i j x y hx hy e => ?_)⟩
  exact (hout i x hx).2 (by rw [e]; exact hD1.2 j y hy)
theorem tn_AA {A : Nat → Prop} {wr wc : va_W} {H0 H : Heap} {locs : List Loc} (hD : va_D A (wr ++ wc)) (hS : va_S A H0 H locs) (hA : ∀ q, H0.size ≤ q → A q) : ∀ q, va_A wc H.size q → A q := by
  intro q hq
  rcases hq with ⟨k, e9, hk⟩ | hq
  · exact (tn_adR hD).2 k (q, e9) hk
  · exact hA q (Nat.le_trans hS.1 hq)
theorem tn_ints {ad : Nat → Nat} : ∀ {xs : List Value}, (∀ v ∈ xs, ∃ x, v = .int x) → xs.map (am_cv ad) = xs
  | [], _ => rfl
  | v :: r, h => by
    obtain ⟨x, rfl⟩ := h v List.mem_cons_self
    rw [List.map_cons, tn_ints (fun w hw => h w (List.mem_cons_of_mem _ hw))]
    rfl
set_option maxHeartbeats 1000000 in
/-- a call of a method of the abstract machine, out of a body of the kit's -/
theorem tn_cv {sh : List am_D} {l : Launch} {μ : Nat} {M : am_M} (hM : am_m tn_G μ = some M) {xs : List Value} {h : am_S} {Q : am_Q} (hPW : am_PW tn_G sh tn_TS tn_NS tn_cl tn_EX l (μ, 0, 0, am_in M.2.2.1 (.ref 0 :: xs), [], h) Q) (hlen : xs.length + 1 ≤ M.2.2.1) (hint : ∀ v ∈ xs, ∃ x, v = .int x)
    {p : Program} {e : Env} {R : Room} {s : State} {m : MethodId} {args : Array Value} {below : List Frame} {meth : Method} {c : Code} {H : Heap} {locs : List Loc} {cells slots nL pc ix : Nat} {Qe : State → Prop} {A : Nat → Prop} {ls : Array Slot} {rest : List Value} {ad : Nat → Nat} {ca : Nat → ClassId} {D : va_G} {wr : va_W} {own : String} {cc : ByteArray}
    (hx : p.tables.exec = Jvm.exec) (hb : c.code = cc) (hml : c.maxLocals = nL) (hls : ls.size = nL) (hown : s.vm.findClass own = some m.cls) (hts : ∀ w ∈ tn_TS, w.before args s = true) (hns : ∀ w ∈ tn_NS, va_Nw w s) (hE : tn_EX A s s.heap)
    (hK : va_K D tn_cl (am_ty ca) s) (hP : va_P D tn_cl (wr ++ am_W sh ad ca h) H) (hD : va_D A (wr ++ am_W sh ad ca h)) (hS : va_S A s.heap H locs) (hA : ∀ q, s.heap.size ≤ q → A q)
    {fs : List (Nat ⊕ Nat)} (h0 : sh[0]? = some (.inl (M.2.2.2.2.1, fs))) {T : u_T} {N : Nat} (hcl : tn_cl[M.2.2.2.2.1]? = some (M.1.cls, T, N))
    (hlk : Cond.methodLink own ix M.1 ∈ tn_TS) (hinst : Cond.instanceMethod M.1 ∈ tn_TS) (hsel : Cond.selects M.1.cls M.1 M.1 ∈ tn_TS) (hdesc : (parseMethodDescriptor M.1.desc).map (fun d => d.parameters.length) = some xs.length)
    (hfr : M.2.2.2.2.2.frames + 1 ≤ R.frames) (hlo : 8 + (M.2.2.1 + 11) + M.2.2.2.2.2.locals ≤ R.locals) (hce : cells + M.2.2.2.2.2.cells ≤ R.cells) (hsl : slots + M.2.2.2.2.2.slots ≤ R.slots)
    (hct : (rest.map fun v => v.category).sum ≤ 8) (hdec : decode cc pc = .ok (.invokevirtual ix, 3))
    (kx : ∀ (E : String) (ce : Cell) (q9 : Addr) (h' : am_S) (H1 : Heap) (locs1 : List Loc), Q h' (.inr E) → va_P D tn_cl (wr ++ am_W sh ad ca h') H1 → va_D A (wr ++ am_W sh ad ca h') → va_S A s.heap H1 locs1 → H1[q9]? = some ce → ce.vm = .none → s.vm.findClass E = some ce.cls → vx_W p l e R s m args below meth c H1 locs1 (cells + M.2.2.2.2.2.cells) (slots + M.2.2.2.2.2.slots) Qe (F0 m pc ls rest) q9)
    (kk : ∀ (r : Option Value) (h' : am_S) (H1 : Heap) (locs1 : List Loc), Q h' (.inl r) → va_P D tn_cl (wr ++ am_W sh ad ca h') H1 → va_D A (wr ++ am_W sh ad ca h') → va_S A s.heap H1 locs1 → W p l e R s m args below meth c H1 locs1 (cells + M.2.2.2.2.2.cells) (slots + M.2.2.2.2.2.slots) Qe (F0 m (pc + 3) ls ((r.map (am_cv ad)).toList ++ rest))) :
    W p l e R s m args below meth c H locs cells slots Qe (F0 m pc ls (xs.reverse ++ .ref (ad 0) :: rest)) := by
  have hcat : ∀ v ∈ (Value.ref 0 :: xs), v.category = 1 := fun v hv => by
    rcases List.mem_cons.mp hv with rfl | hv
    · rfl
    · obtain ⟨x, rfl⟩ := hint v hv
      rfl
  have hmet := am_met tn_ok tn_EX_ok hM (by rw [List.length_cons]; exact hlen) hcat hPW ad ca D H.size
  have hmok := tn_ok.2.1 μ M hM
  have hcb : CallB R s args own ix M.1 M.2.1 M.2.2.1 M.2.2.2.1 (Cond.code M.1 M.2.1 M.2.2.1 M.2.2.2.1 :: tn_TS) M.2.2.2.2.2 M.2.2.2.2.2.cells M.2.2.2.2.2.slots xs.length := by
    refine ⟨rfl, rfl, hfr, hlo, fun w hw a' U hW => ?_, List.mem_cons_self, hts _ hmok.2.1, hts _ hmok.2.2.1, hmok.2.2.2.1, fun sig h9 => ?_, hts _ hlk⟩
    · rcases List.mem_cons.mp hw with rfl | hw
      · exact word_at hW (good_of_word (tn_ok.1 _ hmok.2.1)) (hts _ hmok.2.1)
      · exact word_at hW (good_of_word (tn_ok.1 _ hw)) (hts w hw)
    · rw [h9] at hdesc
      exact (Option.some.inj hdesc).symm
  have hps := am_pre (l := l) (G := tn_G) (TS := tn_TS) (M' := M) tn_EX_ok (av := Value.ref 0 :: xs) tn_NS_warm hE hns hK (tn_apR hP) (tn_adR hD) hS hA
  rw [List.map_cons, tn_ints hint] at hps hmet
  have hrec := va_recv hK (tn_apR hP) hcl (am_W_get h0)
  have hr := vx_runV (C := M.1.cls) (b := ad 0) (As := xs) (rest := rest) (g := F0 m pc ls (xs.reverse ++ .ref (ad 0) :: rest)) (p := p) (e := e) (below := below) (meth := meth) (locs := locs) (cells := cells) (slots := slots) ⟨hx, hb, hml, hown, hts⟩ hmet ⟨hcb, hts _ hinst, hts _ hsel⟩ ⟨hps.1, hrec, hps.2⟩ rfl rfl hls rfl (lv_room hct) hdec ⟨hce, hsl⟩
  have hAA := tn_AA hD hS hA
  intro T9 hT X
  rcases hr T9 hT X with ⟨v, st₀, t, T', L, h9, X', hL, e1, e2, ⟨⟨h', r, hv, hq, hP', hD'⟩, hF⟩, st⟩ | ⟨q, st₀, t, T', L, E, ce, h9, X', hL, e1, e2, ⟨h', hq, hP', hD', hF⟩, hce, hcv, hcl9, st⟩
  · cases hv
    obtain ⟨k1, k2, k3⟩ := vx_keep h9 e1 hS (fun q _ z => hAA q z) hAA hL hF
    rw [← e1] at hP'
    obtain ⟨hP2, hD2⟩ := tn_join hP hD k2 hAA hP' hD'
    obtain ⟨t2, a1, b1⟩ := kk r h' T'.heap (locs ++ L) hq hP2 hD2 k3 T' rfl X'
    exact ⟨t2, st t2 a1, b1⟩
  · obtain ⟨k1, k2, k3⟩ := vx_keep h9 e1 hS (fun q _ z => hAA q z) hAA hL hF
    rw [← e1] at hP'
    obtain ⟨hP2, hD2⟩ := tn_join hP hD k2 hAA hP' hD'
    obtain ⟨t2, a1, b1⟩ := kx E ce q h' T'.heap (locs ++ L) hq hP2 hD2 k3 (by rw [e1]; exact hce) hcv hcl9 T' rfl X'
    exact ⟨t2, st.trans a1, b1⟩
