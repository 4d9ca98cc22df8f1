/-! THE LAW'S OWN BODY: what its calls have in common; the tail of a case, where answers are compared. -/
/-- what stands all the law long -/
def tn_lc (l : Launch) (p : Program) (s : State) (m : MethodId) (args : Array Value) (c : Code) (b L : Nat) (xs : Nat → Int32) (A : Nat → Prop) (D : va_G) (ca : Nat → ClassId) (cL : ClassId) : Prop :=
  l.stackTraces = false ∧ p.tables.exec = Jvm.exec ∧ c.code = code ∧ c.maxLocals = 7 ∧ s.vm.findClass "TermNetLaw" = some m.cls ∧ (∀ w ∈ tn_TS, w.before args s = true) ∧ (∀ w ∈ tn_NS, va_Nw w s) ∧ tn_EX A s s.heap ∧ va_K D tn_cl (tn_t3 ca cL) s ∧ (∀ q, s.heap.size ≤ q → A q) ∧ va_X b L xs s s.heap ∧ b < s.heap.size ∧ ¬ A b ∧ L ≤ 2560
/-- the law's world -/
def tn_LW (adX adY : Nat → Nat) (ca : Nat → ClassId) (cL : ClassId) (qo : Nat) (f : Nat → Int64) (hX hY : am_S) : va_W := tn_WH adX ca cL qo f hX ++ am_W tn_Y adY ca hY
def tn_lv (b : Nat) (adX adY : Nat → Nat) (qo : Nat) (i : Int32) : List (Nat × Value) := [(0, .ref b), (1, .ref (adX 0)), (2, .ref (adY 0)), (3, .ref qo), (4, .int i)]
theorem tn_vin {i0 L j : Nat} {k : Int32} (hk : k = nI j) (h : i0 + j < L) (hL : L ≤ 2560) : vp_in (nI i0 + k) L := by
  rw [hk, nI_add]
  exact vp_in_nI h (by omega)
theorem tn_ag_r {cE : String → Nat} {o o' : am_O} {th : Int32} (h : tn_ag cE o o' th) : ∃ v, o' = .inl (some (.int v)) := by
  rcases h with ⟨v, -, h, -⟩ | ⟨E, v, -, -, -, -, h⟩
  · exact ⟨v, h⟩
  · exact ⟨v, h⟩
theorem tn_ag_k {cE : String → Nat} {o o' : am_O} {th : Int32} (h : tn_ag cE o o' th) : tn_hkn cE o := by
  rcases h with ⟨v, h, -, -⟩ | ⟨E, v, h, h1, -, -, -⟩
  · exact Or.inl ⟨v, h⟩
  · exact Or.inr ⟨E, h, h1⟩
/-- the thrown number is the helper's -/
theorem tn_ag_th {cE : String → Nat} {bo : Bool} {o o' : am_O} {th k : Int32} {w : Int64} (h : tn_ag cE o o' th) (g : tn_hou cE bo o k w) : th = k := by
  rcases h with ⟨v, h, -, ht⟩ | ⟨E, v, h, h1, -, ht, -⟩
  · rcases g with ⟨v2, g, gk, -⟩ | ⟨E, g, -⟩
    · rw [ht, gk, nI_0]
    · rw [h] at g; cases g
  · rcases g with ⟨v2, g, -, -⟩ | ⟨E2, g, gk⟩
    · rw [h] at g; cases g
    · rw [h] at g
      cases g
      rw [ht, gk]
/-- .. and where it is 0, the answers are one -/
theorem tn_ag_v {cE : String → Nat} {bo : Bool} {o : am_O} {th k v : Int32} {w : Int64} (h : tn_ag cE o (.inl (some (.int v))) th) (g : tn_hou cE bo o k w) (hk : k = 0) : w = (if bo then (if v = 0 then 0 else 1) else v.toInt64) := by
  rcases h with ⟨v1, h, h', ht⟩ | ⟨E, v1, h, h1, h2, ht, -⟩
  · rcases g with ⟨v2, g, gk, gw⟩ | ⟨E, g, -⟩
    · rw [h] at g
      cases g
      cases h'
      exact gw
    · rw [h] at g; cases g
  · rcases g with ⟨v2, g, -, -⟩ | ⟨E2, g, gk⟩
    · rw [h] at g; cases g
    · rw [h] at g
      cases g
      rw [gk] at hk
      exact absurd hk (nI_ne0 h1 (by omega))
theorem tn_wt0 : (.methodLink "TermNetLaw" 72 ⟨"TermNetModel", "thrown", "()I"⟩ : Cond) ∈ tn_TS := tn_in 645 (by decide +kernel) (by decide +kernel)
theorem tn_wt1 : (.instanceMethod ⟨"TermNetModel", "thrown", "()I"⟩ : Cond) ∈ tn_TS := tn_in 646 (by decide +kernel) (by decide +kernel)
theorem tn_wt2 : (.selects "TermNetModel" ⟨"TermNetModel", "thrown", "()I"⟩ ⟨"TermNetModel", "thrown", "()I"⟩ : Cond) ∈ tn_TS := tn_in 647 (by decide +kernel) (by decide +kernel)
section LAW
variable {l : Launch} {p : Program} {e : Env} {s : State} {m : MethodId} {args : Array Value} {below : List Frame} {meth : Method} {c : Code} {H : Heap} {locs : List Loc} {cells slots : Nat} {Qe : State → Prop} {ls : Array Slot} {adX adY : Nat → Nat} {ca : Nat → ClassId} {cL : ClassId} {qo : Nat} {D : va_G} {f : Nat → Int64} {hX hY : am_S} {b L : Nat} {xs : Nat → Int32} {A : Nat → Prop} {rest : List Value} {pc : Nat}
set_option maxHeartbeats 1000000 in
/-- a call of a helper -/
theorem tn_cs (C : tn_lc l p s m args c b L xs A D ca cL) {y : MethodName} {bb : ByteArray} {nL : Nat} {hh : List (Nat × Nat × Nat × Nat)} {rm : Room} {mc ms ix n : Nat} {cE : String → Nat} {bo : Bool} {Q : am_Q} {av : List Value}
    (hMet : vx_Met l y (Cond.codeWith y bb nL (some .int) hh :: tn_TS) rm (tn_hP D adX ca cL qo f hX H.size av) (tn_hQ cE bo Q D adX ca cL qo (va_A (tn_WH adX ca cL qo f hX) H.size)) (fun _ _ _ => False) mc ms (va_A (tn_WH adX ca cL qo f hX) H.size))
    (hP : va_P D tn_cl (tn_LW adX adY ca cL qo f hX hY) H) (hD : va_D A (tn_LW adX adY ca cL qo f hX hY)) (hS : va_S A s.heap H locs) (hls : ls.size = 7)
    (hcd : Cond.codeWith y bb nL (some .int) hh ∈ tn_TS) (hlk : Cond.methodLink "TermNetLaw" ix y ∈ tn_TS) (hst : Cond.static y ∈ tn_TS) (hini : Cond.initialized "TermNetLaw" ∈ tn_TS) (hy : y.cls = "TermNetLaw") (hdesc : (parseMethodDescriptor y.desc).map (fun d => d.parameters.length) = some n) (hn : av.length = n)
    (hr1 : rm.cells = mc) (hr2 : rm.slots = ms) (hfr : rm.frames + 1 ≤ 11) (hlo : 8 + (nL + 11) + rm.locals ≤ 392) (hce : cells + mc ≤ 1070) (hsl : slots + ms ≤ 27272) (hct : (rest.map fun v => v.category).sum ≤ 8) (hdec : decode code pc = .ok (.invokestatic ix, 3))
    (kk : ∀ (h' : am_S) (o : am_O) (k : Int32) (f' : Nat → Int64) (H1 : Heap) (locs1 : List Loc), Q h' o → tn_hou cE bo o k (f' 0) → va_P D tn_cl (tn_LW adX adY ca cL qo f' h' hY) H1 → va_D A (tn_LW adX adY ca cL qo f' h' hY) → va_S A s.heap H1 locs1 → W p l e room_1 s m args below meth c H1 locs1 (cells + mc) (slots + ms) Qe (F0 m (pc + 3) ls (.int k :: rest))) :
    W p l e room_1 s m args below meth c H locs cells slots Qe (F0 m pc ls (av.reverse ++ rest)) := by
  obtain ⟨hl9, hx, hb, hml, hown, hts, hns, hE, hK, hA, -, -, -, -⟩ := C
  have hP0 : va_P D tn_cl (am_W tn_Y adY ca hY ++ tn_WH adX ca cL qo f hX) H := tn_comP hP
  have hD0 : va_D A (am_W tn_Y adY ca hY ++ tn_WH adX ca cL qo f hX) := tn_comD hD
  have hAA := tn_AA hD0 hS hA
  have hcw : vx_CSW room_1 s args "TermNetLaw" ix y bb nL (some .int) hh (Cond.codeWith y bb nL (some .int) hh :: tn_TS) rm mc ms n := by
    refine ⟨⟨hr1, hr2, hfr, hlo, fun w hw a' U hW => ?_, List.mem_cons_self⟩, hts _ hcd, by rw [hy]; exact hts _ hini, by rw [hy]; exact ⟨by decide, by decide⟩, fun sig h9 => ?_, hts _ hlk, hts _ hst⟩
    · rcases List.mem_cons.mp hw with rfl | hw
      · exact word_at hW (good_of_word (tn_ok.1 _ hcd)) (hts _ hcd)
      · exact word_at hW (good_of_word (tn_ok.1 _ hw)) (hts w hw)
    · rw [h9] at hdesc
      exact (Option.some.inj hdesc).symm
  have hps : PreS s H (tn_hP D adX ca cL qo f hX H.size av) av := by
    refine ⟨fun a U g mk q => ?_, fun U hU hW => ⟨rfl, by rw [hU], by rw [hU]; exact tn_apR hP0, va_K.moved hW.alike hK, (tn_adR hD0).weaken (fun _ _ _ _ => trivial), fun w hw => tn_NS_warm w hw hW (hns w hw), tn_EX_ok A _ s U s.heap U.heap hE hW (fun a h1 h2 => by rw [hU]; exact hS.2.1 a h1 h2) hAA⟩⟩
    obtain ⟨q0, q1, q2, q3, q4, q5, q6⟩ := q
    exact ⟨q0, q1, q2, va_K.moved (u := U) (U := U.calling g mk a) (Vm.Alike.refl U.vm) q3, q4, fun w hw => tn_NS_warm w hw (u := U) (U := U.calling g mk a) (State.WarmedH.refl U) (q5 w hw), tn_EX_ok _ _ U (U.calling g mk a) U.heap U.heap q6 (State.WarmedH.refl U) (fun _ _ _ => rfl) (fun _ z => z)⟩
  have hr := vx_runSX (hh := hh) (As := av) (rest := rest) (g := F0 m pc ls (av.reverse ++ rest)) (p := p) (e := e) (below := below) (meth := meth) (locs := locs) (cells := cells) (slots := slots) ⟨hx, hb, hml, hown, hts⟩ hMet hcw hps rfl hn hls rfl (lv_room hct) hdec ⟨hce, hsl⟩
  intro T9 hT X
  rcases hr T9 hT X with ⟨v, st₀, t, T', L9, h9, X', hL, e1, e2, ⟨⟨h', o, k, f', hv, hq, hou, hP', hD'⟩, hF⟩, st⟩ | ⟨q, st₀, t, T', L9, E, ce, h9, X', hL, e1, e2, hfalse, -⟩
  · cases hv
    obtain ⟨k1, k2, k3⟩ := vx_keep h9 e1 hS (fun q _ z => hAA q z) hAA hL hF
    rw [← e1] at hP'
    obtain ⟨hP2, hD2⟩ := tn_join hP0 hD0 k2 hAA hP' hD'
    obtain ⟨t2, a1, b1⟩ := kk h' o k f' T'.heap (locs ++ L9) hq hou (tn_comP hP2) (tn_comD hD2) k3 T' rfl X'
    exact ⟨t2, st t2 a1, b1⟩
  · exact hfalse.elim
set_option maxHeartbeats 1000000 in
/-- a call of the reference -/
theorem tn_cy (C : tn_lc l p s m args c b L xs A D ca cL) {μ : Nat} {M : am_M} (hM : am_m tn_G μ = some M) {zs : List Value} {Q : am_Q} (hAW : am_AW tn_G tn_Y (μ, 0, 0, am_in M.2.2.1 (.ref 0 :: zs), [], hY) Q) (hlen : zs.length + 1 ≤ M.2.2.1) (hint : ∀ v ∈ zs, ∃ x, v = .int x)
    (hP : va_P D tn_cl (tn_LW adX adY ca cL qo f hX hY) H) (hD : va_D A (tn_LW adX adY ca cL qo f hX hY)) (hS : va_S A s.heap H locs) (hls : ls.size = 7) {ix : Nat}
    (hM5 : M.2.2.2.2.1 = 5) (hM1 : M.1.cls = "TermNetModel")
    (hlk : Cond.methodLink "TermNetLaw" ix M.1 ∈ tn_TS) (hinst : Cond.instanceMethod M.1 ∈ tn_TS) (hsel : Cond.selects M.1.cls M.1 M.1 ∈ tn_TS) (hdesc : (parseMethodDescriptor M.1.desc).map (fun d => d.parameters.length) = some zs.length)
    (hfr : M.2.2.2.2.2.frames + 1 ≤ 11) (hlo : 8 + (M.2.2.1 + 11) + M.2.2.2.2.2.locals ≤ 392) (hc0 : M.2.2.2.2.2.cells = 0) (hs0 : M.2.2.2.2.2.slots = 0) (hce : cells ≤ 1070) (hsl : slots ≤ 27272) (hct : (rest.map fun v => v.category).sum ≤ 8) (hdec : decode code pc = .ok (.invokevirtual ix, 3))
    (hQ : ∀ h' o, Q h' o → ∃ v, o = .inl (some (.int v)))
    (kk : ∀ (v : Int32) (h' : am_S) (H1 : Heap) (locs1 : List Loc), Q h' (.inl (some (.int v))) → va_P D tn_cl (tn_LW adX adY ca cL qo f hX h') H1 → va_D A (tn_LW adX adY ca cL qo f hX h') → va_S A s.heap H1 locs1 → W p l e room_1 s m args below meth c H1 locs1 cells slots Qe (F0 m (pc + 3) ls (.int v :: rest))) :
    W p l e room_1 s m args below meth c H locs cells slots Qe (F0 m pc ls (zs.reverse ++ .ref (adY 0) :: rest)) := by
  obtain ⟨hl9, hx, hb, hml, hown, hts, hns, hE, hK, hA, -, -, -, -⟩ := C
  refine tn_cv hM (tn_sY hl9 hAW) hlen hint hx hb hml hls hown hts hns hE (tn_t3_ty hK) hP hD hS hA (fs := [.inl 1, .inl 2, .inl 3, .inr 0, .inr 1, .inr 2, .inr 3, .inr 4, .inl 4, .inl 5, .inl 6, .inl 7, .inl 8, .inl 9, .inl 10, .inl 11, .inl 12, .inl 13]) (by rw [hM5]; rfl) (T := tn_T5) (N := 18) (by rw [hM5, hM1]; rfl) hlk hinst hsel hdesc hfr hlo (by rw [hc0]; exact hce) (by rw [hs0]; exact hsl) hct hdec (fun E ce q9 h1 H1 locs1 hq hP1 hD1 hS1 hce1 hcv hcl => ?_) (fun r h1 H1 locs1 hq hP1 hD1 hS1 => ?_)
  · obtain ⟨v, hv⟩ := hQ _ _ hq
    cases hv
  · obtain ⟨v, hv⟩ := hQ _ _ hq
    cases hv
    rw [hc0, hs0]
    exact kk v h1 H1 locs1 hq hP1 hD1 hS1
set_option maxHeartbeats 1000000 in
/-- the tail of a case, behind the call of the reference -/
theorem tn_tailI (C : tn_lc l p s m args c b L xs A D ca cL) {i k v : Int32} {cE : String → Nat} {o : am_O} {g : Int}
    (d0 : decode code pc = .ok (.istore 6, 2)) (d2 : decode code (pc + 2) = .ok (.aload_n 2, 1)) (d3 : decode code (pc + 3) = .ok (.invokevirtual 72, 3)) (d6 : decode code (pc + 6) = .ok (.iload 5, 2)) (d8 : decode code (pc + 8) = .ok (.if_icmp .eq 5, 3)) (d13 : decode code (pc + 13) = .ok (.iload 5, 2)) (d15 : decode code (pc + 15) = .ok (.ifCond .ne 15, 3)) (d18 : decode code (pc + 18) = .ok (.aload_n 3, 1)) (d19 : decode code (pc + 19) = .ok (.iconst 0, 1)) (d20 : decode code (pc + 20) = .ok (.laload, 1)) (d21 : decode code (pc + 21) = .ok (.iload 6, 2)) (d23 : decode code (pc + 23) = .ok (.i2l, 1)) (d24 : decode code (pc + 24) = .ok (.lcmp, 1)) (d25 : decode code (pc + 25) = .ok (.ifCond .eq 5, 3)) (d30 : decode code (pc + 30) = .ok (.goto g, 3)) (hg : ((pc + 30 : Nat) : Int) + g = 990)
    (hl : lv_has ls 7 ((5, .int k) :: tn_lv b adX adY qo i)) (hP : va_P D tn_cl (tn_LW adX adY ca cL qo f hX hY) H) (hD : va_D A (tn_LW adX adY ca cL qo f hX hY)) (hS : va_S A s.heap H locs) (hou : tn_hou cE false o k (f 0)) (hag : tn_ag cE o (.inl (some (.int v))) (hY.1 4)) (hce : cells ≤ 1070) (hsl : slots ≤ 27272)
    (kk : ∀ (H1 : Heap) (locs1 : List Loc) (ls1 : Array Slot), va_P D tn_cl (tn_LW adX adY ca cL qo f hX hY) H1 → va_D A (tn_LW adX adY ca cL qo f hX hY) → va_S A s.heap H1 locs1 → lv_has ls1 7 (tn_lv b adX adY qo i) → W p l e room_1 s m args below meth c H1 locs1 cells slots Qe (F0 m 990 ls1 [])) :
    W p l e room_1 s m args below meth c H locs cells slots Qe (F0 m pc ls [.int v]) := by
  obtain ⟨hl9, hx, hb, hml, hown, hts, hns, hE, hK, hA, -, -, -, -⟩ := id C
  refine lv_istore (i := 6) (lv' := (6, .int v) :: (5, .int k) :: tn_lv b adX adY qo i) hx hb d0 hl (by decide) rfl (fun ls hl => ?_)
  refine lv_aload_n hx hb d2 rfl (lv_at hl 4 rfl) ?_
  refine tn_cy (μ := 55) (M := tn_m55) (zs := []) (rest := []) (Q := fun h' o' => h' = hY ∧ o' = .inl (some (.int (hY.1 4)))) C rfl (sp_55 ⟨rfl, rfl⟩) (Nat.le_of_ble_eq_true rfl) tn_int0 hP hD hS hl.1 rfl rfl tn_wt0 tn_wt1 tn_wt2 (by decide +kernel : (parseMethodDescriptor tn_m55.1.desc).map (fun d => d.parameters.length) = some 0) (Nat.le_of_ble_eq_true rfl) (Nat.le_of_ble_eq_true rfl) rfl rfl hce hsl (Nat.le_of_ble_eq_true rfl) d3 (fun h' o' q => ⟨_, q.2⟩) (fun v1 h1 H1 locs1 q hP1 hD1 hS1 => ?_)
  obtain ⟨rfl, q2⟩ := q
  cases q2
  refine lv_iload hx hb d6 (lv_at hl 1 rfl) ?_
  have hth := tn_ag_th hag hou
  refine lv_icmp_eq (tgt := pc + 13) hx hb d8 (by omega) (fun _ => ?_) (fun hn => absurd hth hn)
  refine lv_iload hx hb d13 (lv_at hl 1 rfl) ?_
  refine lv_if_ne (tgt := pc + 30) hx hb d15 (by omega) (fun _ => ?_) (fun hk => ?_)
  · refine lv_goto (tgt := 990) hx hb d30 hg ?_
    exact kk H1 locs1 ls hP1 hD1 hS1 (lv_sub hl [2, 3, 4, 5, 6] rfl)
  · refine lv_aload_n hx hb d18 rfl (lv_at hl 5 rfl) ?_
    refine lv_iconst (v := 0) hx hb d19 (by decide) ?_
    refine va_lald (D := D) (cl := tn_cl) (tys := tn_t3 ca cL) (ws := tn_LW adX adY ca cL qo f hX h1) (f := f) (i := 0) hx hb hK hP1 0 2 rfl rfl (by unfold vp_in; decide) d20 ?_
    refine lv_iload hx hb d21 (lv_at hl 0 rfl) ?_
    refine lv_i2l (v := v.toInt64) hx hb d23 rfl ?_
    refine W.lcmp hx hb d24 ?_
    have hw : f 0 = v.toInt64 := tn_ag_v hag hou hk
    have hz : lg_cmp (f (0 : Int32).toNatClampNeg) v.toInt64 = 0 := (lg_cmp_eq _ _).mpr hw
    refine lv_if_eq (tgt := pc + 30) hx hb d25 (by omega) (fun _ => ?_) (fun hn => absurd hz hn)
    refine lv_goto (tgt := 990) hx hb d30 hg ?_
    exact kk H1 locs1 ls hP1 hD1 hS1 (lv_sub hl [2, 3, 4, 5, 6] rfl)
set_option maxHeartbeats 1000000 in
/-- the tail of a case, behind the call of the reference -/
theorem tn_tailB (C : tn_lc l p s m args c b L xs A D ca cL) {i k v : Int32} {cE : String → Nat} {o : am_O} {g : Int}
    (d0 : decode code pc = .ok (.istore 6, 2)) (d2 : decode code (pc + 2) = .ok (.aload_n 2, 1)) (d3 : decode code (pc + 3) = .ok (.invokevirtual 72, 3)) (d6 : decode code (pc + 6) = .ok (.iload 5, 2)) (d8 : decode code (pc + 8) = .ok (.if_icmp .eq 5, 3)) (d13 : decode code (pc + 13) = .ok (.iload 5, 2)) (d15 : decode code (pc + 15) = .ok (.ifCond .ne 22, 3)) (d18 : decode code (pc + 18) = .ok (.aload_n 3, 1)) (d19 : decode code (pc + 19) = .ok (.iconst 0, 1)) (d20 : decode code (pc + 20) = .ok (.laload, 1)) (d21 : decode code (pc + 21) = .ok (.iload 6, 2)) (d23 : decode code (pc + 23) = .ok (.ifCond .eq 7, 3)) (d26 : decode code (pc + 26) = .ok (.lconst 1, 1)) (d27 : decode code (pc + 27) = .ok (.goto 4, 3)) (d30 : decode code (pc + 30) = .ok (.lconst 0, 1)) (d31 : decode code (pc + 31) = .ok (.lcmp, 1)) (d32 : decode code (pc + 32) = .ok (.ifCond .eq 5, 3)) (d37 : decode code (pc + 37) = .ok (.goto g, 3)) (hg : ((pc + 37 : Nat) : Int) + g = 990)
    (hl : lv_has ls 7 ((5, .int k) :: tn_lv b adX adY qo i)) (hP : va_P D tn_cl (tn_LW adX adY ca cL qo f hX hY) H) (hD : va_D A (tn_LW adX adY ca cL qo f hX hY)) (hS : va_S A s.heap H locs) (hou : tn_hou cE true o k (f 0)) (hag : tn_ag cE o (.inl (some (.int v))) (hY.1 4)) (hce : cells ≤ 1070) (hsl : slots ≤ 27272)
    (kk : ∀ (H1 : Heap) (locs1 : List Loc) (ls1 : Array Slot), va_P D tn_cl (tn_LW adX adY ca cL qo f hX hY) H1 → va_D A (tn_LW adX adY ca cL qo f hX hY) → va_S A s.heap H1 locs1 → lv_has ls1 7 (tn_lv b adX adY qo i) → W p l e room_1 s m args below meth c H1 locs1 cells slots Qe (F0 m 990 ls1 [])) :
    W p l e room_1 s m args below meth c H locs cells slots Qe (F0 m pc ls [.int v]) := by
  obtain ⟨hl9, hx, hb, hml, hown, hts, hns, hE, hK, hA, -, -, -, -⟩ := id C
  refine lv_istore (i := 6) (lv' := (6, .int v) :: (5, .int k) :: tn_lv b adX adY qo i) hx hb d0 hl (by decide) rfl (fun ls hl => ?_)
  refine lv_aload_n hx hb d2 rfl (lv_at hl 4 rfl) ?_
  refine tn_cy (μ := 55) (M := tn_m55) (zs := []) (rest := []) (Q := fun h' o' => h' = hY ∧ o' = .inl (some (.int (hY.1 4)))) C rfl (sp_55 ⟨rfl, rfl⟩) (Nat.le_of_ble_eq_true rfl) tn_int0 hP hD hS hl.1 rfl rfl tn_wt0 tn_wt1 tn_wt2 (by decide +kernel : (parseMethodDescriptor tn_m55.1.desc).map (fun d => d.parameters.length) = some 0) (Nat.le_of_ble_eq_true rfl) (Nat.le_of_ble_eq_true rfl) rfl rfl hce hsl (Nat.le_of_ble_eq_true rfl) d3 (fun h' o' q => ⟨_, q.2⟩) (fun v1 h1 H1 locs1 q hP1 hD1 hS1 => ?_)
  obtain ⟨rfl, q2⟩ := q
  cases q2
  refine lv_iload hx hb d6 (lv_at hl 1 rfl) ?_
  have hth := tn_ag_th hag hou
  refine lv_icmp_eq (tgt := pc + 13) hx hb d8 (by omega) (fun _ => ?_) (fun hn => absurd hth hn)
  refine lv_iload hx hb d13 (lv_at hl 1 rfl) ?_
  refine lv_if_ne (tgt := pc + 37) hx hb d15 (by omega) (fun _ => ?_) (fun hk => ?_)
  · refine lv_goto (tgt := 990) hx hb d37 hg ?_
    exact kk H1 locs1 ls hP1 hD1 hS1 (lv_sub hl [2, 3, 4, 5, 6] rfl)
  · refine lv_aload_n hx hb d18 rfl (lv_at hl 5 rfl) ?_
    refine lv_iconst (v := 0) hx hb d19 (by decide) ?_
    refine va_lald (D := D) (cl := tn_cl) (tys := tn_t3 ca cL) (ws := tn_LW adX adY ca cL qo f hX h1) (f := f) (i := 0) hx hb hK hP1 0 2 rfl rfl (by unfold vp_in; decide) d20 ?_
    refine lv_iload hx hb d21 (lv_at hl 0 rfl) ?_
    refine lv_if_eq (tgt := pc + 30) hx hb d23 (by omega) (fun h0 => ?_) (fun h0 => ?_)
    · refine lv_lconst (v := 0) hx hb d30 (by decide) ?_
      refine W.lcmp hx hb d31 ?_
      have hz : lg_cmp (f (0 : Int32).toNatClampNeg) 0 = 0 := (lg_cmp_eq _ _).mpr (by have hw : f 0 = _ := tn_ag_v hag hou hk; simpa [h0] using hw)
      refine lv_if_eq (tgt := pc + 37) hx hb d32 (by omega) (fun _ => ?_) (fun hn => absurd hz hn)
      refine lv_goto (tgt := 990) hx hb d37 hg ?_
      exact kk H1 locs1 ls hP1 hD1 hS1 (lv_sub hl [2, 3, 4, 5, 6] rfl)
    · refine lv_lconst (v := 1) hx hb d26 (by decide) ?_
      refine lv_goto (tgt := pc + 31) hx hb d27 (by omega) ?_
      refine W.lcmp hx hb d31 ?_
      have hz : lg_cmp (f (0 : Int32).toNatClampNeg) 1 = 0 := (lg_cmp_eq _ _).mpr (by have hw : f 0 = _ := tn_ag_v hag hou hk; simpa [h0] using hw)
      refine lv_if_eq (tgt := pc + 37) hx hb d32 (by omega) (fun _ => ?_) (fun hn => absurd hz hn)
      refine lv_goto (tgt := 990) hx hb d37 hg ?_
      exact kk H1 locs1 ls hP1 hD1 hS1 (lv_sub hl [2, 3, 4, 5, 6] rfl)
end LAW
