/-! THE CONSTRUCTORS, laid by wip/whole/gen57.py: each makes its rows, all zero. -/
def tn_y1 : MethodName := ⟨tn_R1, "<init>", "()V"⟩
def tn_y0 : MethodName := ⟨tn_R0, "<init>", "(LTermNet$Told;)V"⟩
def tn_y3 : MethodName := ⟨tn_R3, "<init>", "(LTermNet$Groups;)V"⟩
def tn_y2 : MethodName := ⟨tn_R2, "<init>", "(LTermNet$Groups;)V"⟩
def tn_y4 : MethodName := ⟨tn_R4, "<init>", "()V"⟩
def tn_y5 : MethodName := ⟨tn_R5, "<init>", "()V"⟩
theorem tn_wc0 : (.code ⟨"TermNet$Told", "<init>", "()V"⟩ prog_3_method_1_code 1 none : Cond) ∈ tn_TS := tn_in 49 (by decide +kernel) (by decide +kernel)
theorem tn_wc1 : (.code ⟨"TermNet$Groups", "<init>", "(LTermNet$Told;)V"⟩ prog_2_method_1_code 2 none : Cond) ∈ tn_TS := tn_in 78 (by decide +kernel) (by decide +kernel)
theorem tn_wc2 : (.code ⟨"TermNet$Walk", "<init>", "(LTermNet$Groups;)V"⟩ prog_5_method_1_code 2 none : Cond) ∈ tn_TS := tn_in 105 (by decide +kernel) (by decide +kernel)
theorem tn_wc3 : (.code ⟨"TermNet$Twins", "<init>", "(LTermNet$Groups;)V"⟩ prog_4_method_1_code 2 none : Cond) ∈ tn_TS := tn_in 138 (by decide +kernel) (by decide +kernel)
theorem tn_wc4 : (.code ⟨"TermNet", "<init>", "()V"⟩ prog_1_method_1_code 1 none : Cond) ∈ tn_TS := tn_in 41 (by decide +kernel) (by decide +kernel)
theorem tn_wc5 : (.code ⟨"TermNetModel", "<init>", "()V"⟩ prog_7_method_1_code 1 none : Cond) ∈ tn_TS := tn_in 587 (by decide +kernel) (by decide +kernel)
theorem tn_wc6 : (.arrayClass .int : Cond) ∈ tn_TS := tn_in 73 (by decide +kernel) (by decide +kernel)
theorem tn_wc7 : (.arrayClass .boolean : Cond) ∈ tn_TS := tn_in 644 (by decide +kernel) (by decide +kernel)
theorem tn_wc8 : (.methodLink tn_R1 3 objectInit : Cond) ∈ tn_TS := tn_in 50 (by decide +kernel) (by decide +kernel)
theorem tn_wc9 : (.instanceMethod objectInit : Cond) ∈ tn_TS := tn_in 43 (by decide +kernel) (by decide +kernel)
theorem tn_wc10 : (.code objectInit ⟨#[0xb1]⟩ 1 none : Cond) ∈ tn_TS := tn_in 44 (by decide +kernel) (by decide +kernel)
theorem tn_wc11 : (.fieldLink tn_R1 9 tn_R1 "partsOfSign" "[I" : Cond) ∈ tn_TS := tn_in 51 (by decide +kernel) (by decide +kernel)
theorem tn_wc12 : (.fieldLink tn_R1 15 tn_R1 "signOf" "[I" : Cond) ∈ tn_TS := tn_in 52 (by decide +kernel) (by decide +kernel)
theorem tn_wc13 : (.fieldLink tn_R1 18 tn_R1 "parts" "[I" : Cond) ∈ tn_TS := tn_in 56 (by decide +kernel) (by decide +kernel)
theorem tn_wc14 : (.fieldLink tn_R1 21 tn_R1 "signs" "I" : Cond) ∈ tn_TS := tn_in 57 (by decide +kernel) (by decide +kernel)
theorem tn_wc15 : (.fieldLink tn_R1 25 tn_R1 "terms" "I" : Cond) ∈ tn_TS := tn_in 59 (by decide +kernel) (by decide +kernel)
theorem tn_wc16 : (.methodLink tn_R0 3 objectInit : Cond) ∈ tn_TS := tn_in 79 (by decide +kernel) (by decide +kernel)
theorem tn_wc17 : (.fieldLink tn_R0 9 tn_R0 "leader" "[I" : Cond) ∈ tn_TS := tn_in 82 (by decide +kernel) (by decide +kernel)
theorem tn_wc18 : (.fieldLink tn_R0 15 tn_R0 "ring" "[I" : Cond) ∈ tn_TS := tn_in 83 (by decide +kernel) (by decide +kernel)
theorem tn_wc19 : (.fieldLink tn_R0 18 tn_R0 "shape" "[I" : Cond) ∈ tn_TS := tn_in 84 (by decide +kernel) (by decide +kernel)
theorem tn_wc20 : (.fieldLink tn_R0 21 tn_R0 "trail" "[I" : Cond) ∈ tn_TS := tn_in 85 (by decide +kernel) (by decide +kernel)
theorem tn_wc21 : (.fieldLink tn_R0 24 tn_R0 "merges" "I" : Cond) ∈ tn_TS := tn_in 86 (by decide +kernel) (by decide +kernel)
theorem tn_wc22 : (.fieldLink tn_R0 28 tn_R0 "told" "LTermNet$Told;" : Cond) ∈ tn_TS := tn_in 80 (by decide +kernel) (by decide +kernel)
theorem tn_wc23 : (.methodLink tn_R3 3 objectInit : Cond) ∈ tn_TS := tn_in 106 (by decide +kernel) (by decide +kernel)
theorem tn_wc24 : (.fieldLink tn_R3 9 tn_R3 "state" "[I" : Cond) ∈ tn_TS := tn_in 108 (by decide +kernel) (by decide +kernel)
theorem tn_wc25 : (.fieldLink tn_R3 15 tn_R3 "partsTried" "[I" : Cond) ∈ tn_TS := tn_in 109 (by decide +kernel) (by decide +kernel)
theorem tn_wc26 : (.fieldLink tn_R3 18 tn_R3 "path" "[I" : Cond) ∈ tn_TS := tn_in 110 (by decide +kernel) (by decide +kernel)
theorem tn_wc27 : (.fieldLink tn_R3 21 tn_R3 "order" "[I" : Cond) ∈ tn_TS := tn_in 111 (by decide +kernel) (by decide +kernel)
theorem tn_wc28 : (.fieldLink tn_R3 24 tn_R3 "value" "[I" : Cond) ∈ tn_TS := tn_in 113 (by decide +kernel) (by decide +kernel)
theorem tn_wc29 : (.fieldLink tn_R3 27 tn_R3 "pathLength" "I" : Cond) ∈ tn_TS := tn_in 114 (by decide +kernel) (by decide +kernel)
theorem tn_wc30 : (.fieldLink tn_R3 31 tn_R3 "ordered" "I" : Cond) ∈ tn_TS := tn_in 115 (by decide +kernel) (by decide +kernel)
theorem tn_wc31 : (.fieldLink tn_R3 34 tn_R3 "groups" "LTermNet$Groups;" : Cond) ∈ tn_TS := tn_in 107 (by decide +kernel) (by decide +kernel)
theorem tn_wc32 : (.methodLink tn_R2 3 objectInit : Cond) ∈ tn_TS := tn_in 139 (by decide +kernel) (by decide +kernel)
theorem tn_wc33 : (.fieldLink tn_R2 11 tn_R2 "first" "[I" : Cond) ∈ tn_TS := tn_in 141 (by decide +kernel) (by decide +kernel)
theorem tn_wc34 : (.fieldLink tn_R2 15 tn_R2 "next" "[I" : Cond) ∈ tn_TS := tn_in 142 (by decide +kernel) (by decide +kernel)
theorem tn_wc35 : (.fieldLink tn_R2 18 tn_R2 "print" "[I" : Cond) ∈ tn_TS := tn_in 143 (by decide +kernel) (by decide +kernel)
theorem tn_wc36 : (.fieldLink tn_R2 21 tn_R2 "groups" "LTermNet$Groups;" : Cond) ∈ tn_TS := tn_in 140 (by decide +kernel) (by decide +kernel)
theorem tn_wc37 : (.methodLink tn_R4 1 objectInit : Cond) ∈ tn_TS := tn_in 42 (by decide +kernel) (by decide +kernel)
theorem tn_wc38 : (.classLink tn_R4 7 tn_R1 : Cond) ∈ tn_TS := tn_in 45 (by decide +kernel) (by decide +kernel)
theorem tn_wc39 : (.instantiable tn_R1 5 : Cond) ∈ tn_TS := tn_in 46 (by decide +kernel) (by decide +kernel)
theorem tn_wc40 : (.initialized tn_R1 : Cond) ∈ tn_TS := tn_in 24 (by decide +kernel) (by decide +kernel)
theorem tn_wc41 : (.instanceMethod tn_y1 : Cond) ∈ tn_TS := tn_in 48 (by decide +kernel) (by decide +kernel)
theorem tn_wc42 : (.fieldLink tn_R4 10 tn_R4 "told" "LTermNet$Told;" : Cond) ∈ tn_TS := tn_in 153 (by decide +kernel) (by decide +kernel)
theorem tn_wc43 : (.classLink tn_R4 16 tn_R0 : Cond) ∈ tn_TS := tn_in 74 (by decide +kernel) (by decide +kernel)
theorem tn_wc44 : (.instantiable tn_R0 6 : Cond) ∈ tn_TS := tn_in 75 (by decide +kernel) (by decide +kernel)
theorem tn_wc45 : (.initialized tn_R0 : Cond) ∈ tn_TS := tn_in 25 (by decide +kernel) (by decide +kernel)
theorem tn_wc46 : (.methodLink tn_R4 18 tn_y0 : Cond) ∈ tn_TS := tn_in 76 (by decide +kernel) (by decide +kernel)
theorem tn_wc47 : (.instanceMethod tn_y0 : Cond) ∈ tn_TS := tn_in 77 (by decide +kernel) (by decide +kernel)
theorem tn_wc48 : (.fieldLink tn_R4 21 tn_R4 "groups" "LTermNet$Groups;" : Cond) ∈ tn_TS := tn_in 154 (by decide +kernel) (by decide +kernel)
theorem tn_wc49 : (.classLink tn_R4 25 tn_R3 : Cond) ∈ tn_TS := tn_in 101 (by decide +kernel) (by decide +kernel)
theorem tn_wc50 : (.instantiable tn_R3 8 : Cond) ∈ tn_TS := tn_in 102 (by decide +kernel) (by decide +kernel)
theorem tn_wc51 : (.initialized tn_R3 : Cond) ∈ tn_TS := tn_in 26 (by decide +kernel) (by decide +kernel)
theorem tn_wc52 : (.methodLink tn_R4 27 tn_y3 : Cond) ∈ tn_TS := tn_in 103 (by decide +kernel) (by decide +kernel)
theorem tn_wc53 : (.instanceMethod tn_y3 : Cond) ∈ tn_TS := tn_in 104 (by decide +kernel) (by decide +kernel)
theorem tn_wc54 : (.fieldLink tn_R4 30 tn_R4 "walk" "LTermNet$Walk;" : Cond) ∈ tn_TS := tn_in 155 (by decide +kernel) (by decide +kernel)
theorem tn_wc55 : (.classLink tn_R4 34 tn_R2 : Cond) ∈ tn_TS := tn_in 134 (by decide +kernel) (by decide +kernel)
theorem tn_wc56 : (.instantiable tn_R2 4 : Cond) ∈ tn_TS := tn_in 135 (by decide +kernel) (by decide +kernel)
theorem tn_wc57 : (.initialized tn_R2 : Cond) ∈ tn_TS := tn_in 27 (by decide +kernel) (by decide +kernel)
theorem tn_wc58 : (.methodLink tn_R4 36 tn_y2 : Cond) ∈ tn_TS := tn_in 136 (by decide +kernel) (by decide +kernel)
theorem tn_wc59 : (.instanceMethod tn_y2 : Cond) ∈ tn_TS := tn_in 137 (by decide +kernel) (by decide +kernel)
theorem tn_wc60 : (.fieldLink tn_R4 37 tn_R4 "twins" "LTermNet$Twins;" : Cond) ∈ tn_TS := tn_in 156 (by decide +kernel) (by decide +kernel)
theorem tn_wc61 : (.fieldLink tn_R4 41 tn_R4 "pointTerms" "[I" : Cond) ∈ tn_TS := tn_in 157 (by decide +kernel) (by decide +kernel)
theorem tn_wc62 : (.fieldLink tn_R4 45 tn_R4 "pointMerges" "[I" : Cond) ∈ tn_TS := tn_in 158 (by decide +kernel) (by decide +kernel)
theorem tn_wc63 : (.fieldLink tn_R4 48 tn_R4 "pointEquations" "[I" : Cond) ∈ tn_TS := tn_in 159 (by decide +kernel) (by decide +kernel)
theorem tn_wc64 : (.fieldLink tn_R4 51 tn_R4 "points" "I" : Cond) ∈ tn_TS := tn_in 160 (by decide +kernel) (by decide +kernel)
theorem tn_wc65 : (.fieldLink tn_R4 55 tn_R4 "equations" "I" : Cond) ∈ tn_TS := tn_in 161 (by decide +kernel) (by decide +kernel)
theorem tn_wc66 : (.methodLink tn_R5 1 objectInit : Cond) ∈ tn_TS := tn_in 588 (by decide +kernel) (by decide +kernel)
theorem tn_wc67 : (.fieldLink tn_R5 9 tn_R5 "arity" "[I" : Cond) ∈ tn_TS := tn_in 589 (by decide +kernel) (by decide +kernel)
theorem tn_wc68 : (.fieldLink tn_R5 13 tn_R5 "sign" "[I" : Cond) ∈ tn_TS := tn_in 590 (by decide +kernel) (by decide +kernel)
theorem tn_wc69 : (.fieldLink tn_R5 16 tn_R5 "parts" "[I" : Cond) ∈ tn_TS := tn_in 591 (by decide +kernel) (by decide +kernel)
theorem tn_wc70 : (.fieldLink tn_R5 19 tn_R5 "least" "[I" : Cond) ∈ tn_TS := tn_in 597 (by decide +kernel) (by decide +kernel)
theorem tn_wc71 : (.fieldLink tn_R5 22 tn_R5 "tried" "[I" : Cond) ∈ tn_TS := tn_in 598 (by decide +kernel) (by decide +kernel)
theorem tn_wc72 : (.fieldLink tn_R5 25 tn_R5 "hadTerms" "[I" : Cond) ∈ tn_TS := tn_in 599 (by decide +kernel) (by decide +kernel)
theorem tn_wc73 : (.fieldLink tn_R5 28 tn_R5 "hadEquations" "[I" : Cond) ∈ tn_TS := tn_in 600 (by decide +kernel) (by decide +kernel)
theorem tn_wc74 : (.fieldLink tn_R5 31 tn_R5 "had" "[I" : Cond) ∈ tn_TS := tn_in 601 (by decide +kernel) (by decide +kernel)
theorem tn_wc75 : (.fieldLink tn_R5 34 tn_R5 "known" "[I" : Cond) ∈ tn_TS := tn_in 602 (by decide +kernel) (by decide +kernel)
theorem tn_wc76 : (.fieldLink tn_R5 37 tn_R5 "sizes" "[I" : Cond) ∈ tn_TS := tn_in 603 (by decide +kernel) (by decide +kernel)
theorem tn_wc77 : (.fieldLink tn_R5 40 tn_R5 "depths" "[I" : Cond) ∈ tn_TS := tn_in 604 (by decide +kernel) (by decide +kernel)
theorem tn_wc78 : (.fieldLink tn_R5 43 tn_R5 "ready" "[Z" : Cond) ∈ tn_TS := tn_in 605 (by decide +kernel) (by decide +kernel)
theorem tn_wc79 : (.fieldLink tn_R5 47 tn_R5 "in" "[Z" : Cond) ∈ tn_TS := tn_in 606 (by decide +kernel) (by decide +kernel)
theorem tn_gi {y : MethodName} {b : ByteArray} {n : Nat} {r : Option FieldType} (h : Cond.code y b n r ∈ tn_TS) : GoodIn tn_TS (Cond.code y b n r :: tn_TS) := by
  intro w hw
  rcases List.mem_cons.mp hw with rfl | hw
  · exact ⟨h, good_of_word (List.mem_filter.mp h).2⟩
  · exact ⟨hw, good_of_word (List.mem_filter.mp hw).2⟩
section
variable {p : Program} {l : Launch} {e : Env} {R : Room} {s : State} {m : MethodId} {args : Array Value} {below : List Frame} {meth : Method} {c : Code} {H H0 : Heap} {locs : List Loc} {cells slots : Nat} {Q : State → Prop} {ls : Array Slot} {rest : List Value} {cc : ByteArray} {pc : Nat} {D : va_G} {A : Nat → Prop} {ws : va_W} {ca : Nat → ClassId}
/-- a new row of ints -/
theorem tn_newI (hexec : p.tables.exec = Jvm.exec) (hb : c.code = cc) (hts : ∀ w ∈ tn_TS, w.before args s = true) (hK : va_K D tn_cl (am_ty ca) s) (hP : va_P D tn_cl ws H) (hD : va_D A ws) (hS : va_S A H0 H locs) (hA : ∀ q, H0.size ≤ q → A q)
    {n : Int32} {N : Nat} (hn : ¬ n < 0) (hN : n.toNatClampNeg = N) (hbytes : N * componentBytes .int ≤ 536870912) (hcells : cells + 1 ≤ R.cells) (hslots : slots + N ≤ R.slots) (hdg : decode cc pc = .ok (.newarray .int, 2))
    (kk : ∀ (q : Nat) (H1 : Heap), va_P D tn_cl (ws ++ [(q, .inl (ca 0, N, .inl (fun _ => 0)))]) H1 → va_D A (ws ++ [(q, .inl (ca 0, N, .inl (fun _ => 0)))]) → va_S A H0 H1 locs →
      W p l e R s m args below meth c H1 locs (cells + 1) (slots + N) Q (F0 m (pc + 2) ls (.ref q :: rest))) : W p l e R s m args below meth c H locs cells slots Q (F0 m pc ls (.int n :: rest)) := by
  refine va_newa (atype := .int) (a0 := (N, .inl (fun _ => 0))) hexec hb (hts (.arrayClass .int) tn_wc6) (ty := .int) rfl hK hP hD hS hA (fun _ => rfl) hn hN hbytes hcells hslots hdg (fun q cA H1 hK1 hP1 hD1 hS1 => ?_)
  have h1 := (hK1.2 2 (cA, .int) rfl).2
  have h2 := (hK.2 0 (ca 0, .int) rfl).2
  simp only [va_RA] at h1 h2
  obtain rfl : cA = ca 0 := Option.some.inj (h1.symm.trans h2)
  exact kk q H1 hP1 hD1 hS1
/-- a new row of booleans -/
theorem tn_newB (hexec : p.tables.exec = Jvm.exec) (hb : c.code = cc) (hts : ∀ w ∈ tn_TS, w.before args s = true) (hK : va_K D tn_cl (am_ty ca) s) (hP : va_P D tn_cl ws H) (hD : va_D A ws) (hS : va_S A H0 H locs) (hA : ∀ q, H0.size ≤ q → A q)
    {n : Int32} {N : Nat} (hn : ¬ n < 0) (hN : n.toNatClampNeg = N) (hbytes : N * componentBytes .boolean ≤ 536870912) (hcells : cells + 1 ≤ R.cells) (hslots : slots + N ≤ R.slots) (hdg : decode cc pc = .ok (.newarray .boolean, 2))
    (kk : ∀ (q : Nat) (H1 : Heap), va_P D tn_cl (ws ++ [(q, .inl (ca 1, N, .inl (fun _ => 0)))]) H1 → va_D A (ws ++ [(q, .inl (ca 1, N, .inl (fun _ => 0)))]) → va_S A H0 H1 locs →
      W p l e R s m args below meth c H1 locs (cells + 1) (slots + N) Q (F0 m (pc + 2) ls (.ref q :: rest))) : W p l e R s m args below meth c H locs cells slots Q (F0 m pc ls (.int n :: rest)) := by
  refine va_newa (atype := .boolean) (a0 := (N, .inl (fun _ => 0))) hexec hb (hts (.arrayClass .boolean) tn_wc7) (ty := .boolean) rfl hK hP hD hS hA (fun _ => rfl) hn hN hbytes hcells hslots hdg (fun q cA H1 hK1 hP1 hD1 hS1 => ?_)
  have h1 := (hK1.2 2 (cA, .boolean) rfl).2
  have h2 := (hK.2 1 (ca 1, .boolean) rfl).2
  simp only [va_RA] at h1 h2
  obtain rfl : cA = ca 1 := Option.some.inj (h1.symm.trans h2)
  exact kk q H1 hP1 hD1 hS1
end
theorem tn_WX (ad : Nat → Nat) (ca : Nat → ClassId) (h : am_S) : am_W tn_X ad ca h = [(ad 0, .inr (4, [.ref (ad 1), .ref (ad 2), .ref (ad 3), .ref (ad 4), .ref (ad 5), .ref (ad 6), .ref (ad 7), .int (h.1 0), .int (h.1 1)])), (ad 1, .inr (1, [.ref (ad 8), .ref (ad 9), .ref (ad 10), .int (h.1 2), .int (h.1 3)])), (ad 2, .inr (0, [.ref (ad 1), .ref (ad 11), .ref (ad 12), .ref (ad 13), .ref (ad 14), .int (h.1 4)])), (ad 3, .inr (3, [.ref (ad 2), .ref (ad 15), .ref (ad 16), .ref (ad 17), .ref (ad 18), .ref (ad 19), .int (h.1 5), .int (h.1 6)])), (ad 4, .inr (2, [.ref (ad 2), .ref (ad 20), .ref (ad 21), .ref (ad 22)])), (ad 5, .inl (ca 0, 20, .inl (h.2 5))), (ad 6, .inl (ca 0, 20, .inl (h.2 6))), (ad 7, .inl (ca 0, 20, .inl (h.2 7))), (ad 8, .inl (ca 0, 40, .inl (h.2 8))), (ad 9, .inl (ca 0, 400, .inl (h.2 9))), (ad 10, .inl (ca 0, 1200, .inl (h.2 10))), (ad 11, .inl (ca 0, 400, .inl (h.2 11))), (ad 12, .inl (ca 0, 400, .inl (h.2 12))), (ad 13, .inl (ca 0, 400, .inl (h.2 13))), (ad 14, .inl (ca 0, 400, .inl (h.2 14))), (ad 15, .inl (ca 0, 400, .inl (h.2 15))), (ad 16, .inl (ca 0, 400, .inl (h.2 16))), (ad 17, .inl (ca 0, 400, .inl (h.2 17))), (ad 18, .inl (ca 0, 400, .inl (h.2 18))), (ad 19, .inl (ca 0, 400, .inl (h.2 19))), (ad 20, .inl (ca 0, 401, .inl (h.2 20))), (ad 21, .inl (ca 0, 400, .inl (h.2 21))), (ad 22, .inl (ca 0, 400, .inl (h.2 22)))] := by
  simp only [am_W, tn_X, List.mapIdx_cons, List.mapIdx_nil, am_E, am_fv, List.map_cons, List.map_nil, Nat.zero_add, Nat.reduceAdd]
theorem tn_WY (ad : Nat → Nat) (ca : Nat → ClassId) (h : am_S) : am_W tn_Y ad ca h = [(ad 0, .inr (5, [.ref (ad 1), .ref (ad 2), .ref (ad 3), .int (h.1 0), .int (h.1 1), .int (h.1 2), .int (h.1 3), .int (h.1 4), .ref (ad 4), .ref (ad 5), .ref (ad 6), .ref (ad 7), .ref (ad 8), .ref (ad 9), .ref (ad 10), .ref (ad 11), .ref (ad 12), .ref (ad 13)])), (ad 1, .inl (ca 0, 40, .inl (h.2 1))), (ad 2, .inl (ca 0, 400, .inl (h.2 2))), (ad 3, .inl (ca 0, 1200, .inl (h.2 3))), (ad 4, .inl (ca 0, 400, .inl (h.2 4))), (ad 5, .inl (ca 0, 400, .inl (h.2 5))), (ad 6, .inl (ca 0, 20, .inl (h.2 6))), (ad 7, .inl (ca 0, 20, .inl (h.2 7))), (ad 8, .inl (ca 0, 8000, .inl (h.2 8))), (ad 9, .inl (ca 0, 400, .inl (h.2 9))), (ad 10, .inl (ca 0, 400, .inl (h.2 10))), (ad 11, .inl (ca 0, 400, .inl (h.2 11))), (ad 12, .inl (ca 1, 400, .inl (h.2 12))), (ad 13, .inl (ca 1, 400, .inl (h.2 13)))] := by
  simp only [am_W, tn_Y, List.mapIdx_cons, List.mapIdx_nil, am_E, am_fv, List.map_cons, List.map_nil, Nat.zero_add, Nat.reduceAdd]
/-- all zero -/
def tn_z : am_S := (fun _ => 0, fun _ _ => 0)
theorem tn_y1_cd : Cond.code tn_y1 prog_3_method_1_code 1 none ∈ tn_TS := tn_wc0
theorem tn_i1_0 : decode prog_3_method_1_code 0 = .ok (.aload_n 0, 1) := by decide +kernel
theorem tn_i1_1 : decode prog_3_method_1_code 1 = .ok (.invokespecial 3, 3) := by decide +kernel
theorem tn_i1_4 : decode prog_3_method_1_code 4 = .ok (.aload_n 0, 1) := by decide +kernel
theorem tn_i1_5 : decode prog_3_method_1_code 5 = .ok (.bipush 40, 2) := by decide +kernel
theorem tn_i1_7 : decode prog_3_method_1_code 7 = .ok (.newarray .int, 2) := by decide +kernel
theorem tn_i1_9 : decode prog_3_method_1_code 9 = .ok (.putfield 9, 3) := by decide +kernel
theorem tn_i1_12 : decode prog_3_method_1_code 12 = .ok (.aload_n 0, 1) := by decide +kernel
theorem tn_i1_13 : decode prog_3_method_1_code 13 = .ok (.sipush 400, 3) := by decide +kernel
theorem tn_i1_16 : decode prog_3_method_1_code 16 = .ok (.newarray .int, 2) := by decide +kernel
theorem tn_i1_18 : decode prog_3_method_1_code 18 = .ok (.putfield 15, 3) := by decide +kernel
theorem tn_i1_21 : decode prog_3_method_1_code 21 = .ok (.aload_n 0, 1) := by decide +kernel
theorem tn_i1_22 : decode prog_3_method_1_code 22 = .ok (.sipush 1200, 3) := by decide +kernel
theorem tn_i1_25 : decode prog_3_method_1_code 25 = .ok (.newarray .int, 2) := by decide +kernel
theorem tn_i1_27 : decode prog_3_method_1_code 27 = .ok (.putfield 18, 3) := by decide +kernel
theorem tn_i1_30 : decode prog_3_method_1_code 30 = .ok (.aload_n 0, 1) := by decide +kernel
theorem tn_i1_31 : decode prog_3_method_1_code 31 = .ok (.iconst 0, 1) := by decide +kernel
theorem tn_i1_32 : decode prog_3_method_1_code 32 = .ok (.putfield 21, 3) := by decide +kernel
theorem tn_i1_35 : decode prog_3_method_1_code 35 = .ok (.aload_n 0, 1) := by decide +kernel
theorem tn_i1_36 : decode prog_3_method_1_code 36 = .ok (.iconst 0, 1) := by decide +kernel
theorem tn_i1_37 : decode prog_3_method_1_code 37 = .ok (.putfield 25, 3) := by decide +kernel
theorem tn_i1_40 : decode prog_3_method_1_code 40 = .ok (.return_, 1) := by decide +kernel
set_option maxHeartbeats 4000000 in
set_option maxRecDepth 100000 in
theorem tn_c1_init (l : Launch) (D : va_G) (ca : Nat → ClassId) (h0 : Nat) (sz : Nat) : Met l tn_y1 (Cond.code tn_y1 prog_3_method_1_code 1 none :: tn_TS) ({ frames := 1, cells := 3, slots := 1640, locals := 12 }) (va_Pc [.ref h0] (fun U => U.heap.size = sz ∧ va_P D tn_cl [(h0, .inr (1, [.null, .null, .null, .int 0, .int 0]))] U.heap ∧ va_K D tn_cl (am_ty ca) U ∧ va_D (fun _ => True) [(h0, .inr (1, [.null, .null, .null, .int 0, .int 0]))])) (va_Qv (fun _ : Nat → Nat => True) (fun a t => va_P D tn_cl [(h0, .inr (1, [.ref (a 0), .ref (a 1), .ref (a 2), .int 0, .int 0])), ((a 0), .inl (ca 0, 40, .inl (fun _ => 0))), ((a 1), .inl (ca 0, 400, .inl (fun _ => 0))), ((a 2), .inl (ca 0, 1200, .inl (fun _ => 0)))] t.heap ∧ va_D (va_A [(h0, .inr (1, [.null, .null, .null, .int 0, .int 0]))] sz) [(h0, .inr (1, [.ref (a 0), .ref (a 1), .ref (a 2), .int 0, .int 0])), ((a 0), .inl (ca 0, 40, .inl (fun _ => 0))), ((a 1), .inl (ca 0, 400, .inl (fun _ => 0))), ((a 2), .inl (ca 0, 1200, .inl (fun _ => 0)))]) (va_A [(h0, .inr (1, [.null, .null, .null, .int 0, .int 0]))] sz)) 3 1640 (va_A [(h0, .inr (1, [.null, .null, .null, .int 0, .int 0]))] sz) := by
  refine Met.ofW (cc := prog_3_method_1_code) (maxL := 1) (ret := none) (by decide) rfl ?_
  intro p e s m args below meth c s₁ B hml hv
  obtain ⟨rfl, hsz, hP, hK, hD0⟩ := hv
  have hx := B.exec
  have hb := B.bytes
  have hr := B.returns
  have hts : ∀ w ∈ tn_TS, w.before _ s = true := fun w hw => atoms_spec (ws := Cond.code tn_y1 prog_3_method_1_code 1 none :: tn_TS) B.pre w (List.mem_cons_of_mem _ hw)
  have hown : s.vm.findClass tn_R1 = some m.cls := findClass_of_methodNamed B.named
  have hlocks := B.notSynchronized
  have hin : meth.name = "<init>" := (name_of_methodNamed B.named B.method).1
  subst hsz
  have hD := hD0.self (sz := s.heap.size)
  generalize hAe : va_A [(h0, .inr (1, [.null, .null, .null, .int 0, .int 0]))] s.heap.size = A at hD ⊢
  have hA : ∀ q : Nat, s.heap.size ≤ q → A q := fun q h => by rw [← hAe]; exact Or.inr h
  have hS : va_S A s.heap s.heap [] := va_S.rf
  have hl := lv_entry ([.ref h0]) (n := 1) (Nat.le_of_ble_eq_true rfl)
  rw [lg_entry_eq]
  generalize (lg_sl ([.ref h0]) ++ List.replicate (1 - (lg_sl ([.ref h0])).length) Slot.unset).toArray = ls at hl ⊢
  have hl : lv_has ls 1 [(0, .ref h0)] := hl
  refine lv_aload_n hx hb tn_i1_0 rfl (lv_at hl 0 rfl) ?_
  refine W.objInit hx hb hown (hts (.methodLink tn_R1 3 objectInit) tn_wc8) (hts (.instanceMethod objectInit) tn_wc9) (hts (.code objectInit ⟨#[0xb1]⟩ 1 none) tn_wc10) rfl (by rw [hml]; exact hl.1) rfl tn_i1_1 (Nat.le_of_ble_eq_true rfl) (Nat.le_of_ble_eq_true rfl) ?_
  refine W.eq (g2 := F0 m 4 ls []) rfl ?_
  refine lv_aload_n hx hb tn_i1_4 rfl (lv_at hl 0 rfl) ?_
  refine lv_bipush (v := 40) hx hb tn_i1_5 (by decide) ?_
  refine tn_newI (N := 40) (ca := ca) hx hb hts hK hP hD hS hA (by decide) (by decide) (by decide) (Nat.le_of_ble_eq_true rfl) (Nat.le_of_ble_eq_true rfl) tn_i1_7 (fun q7 H hP hD hS => ?_)
  have hP : va_P D tn_cl [(h0, .inr (1, [.null, .null, .null, .int 0, .int 0])), (q7, .inl (ca 0, 40, .inl (fun _ => 0)))] H := hP
  have hD : va_D A [(h0, .inr (1, [.null, .null, .null, .int 0, .int 0])), (q7, .inl (ca 0, 40, .inl (fun _ => 0)))] := hD
  refine W.widen (k := 1) (n := 40) (Nat.le_of_ble_eq_true rfl) (Nat.le_of_ble_eq_true rfl) ?_
  refine va_putF (D := D) (ci := 1) (v := .ref q7) (ty := .array .int) (C := tn_R1) (T := tn_T1) (N := 5) hx hb hts tn_iw1 tn_ty1 tn_to1 tn_nm1 hown hK hP hD hS 0 rfl rfl 0 (by decide) (hts (.fieldLink tn_R1 9 tn_R1 "partsOfSign" "[I") tn_wc11) (fun _ h9 => h9) rfl hin rfl (by decide +kernel) rfl rfl (Nat.le_of_ble_eq_true rfl) tn_i1_9 (fun H locs hP hD hS => ?_)
  have hP : va_P D tn_cl [(h0, .inr (1, [.ref q7, .null, .null, .int 0, .int 0])), (q7, .inl (ca 0, 40, .inl (fun _ => 0)))] H := hP
  have hD : va_D A [(h0, .inr (1, [.ref q7, .null, .null, .int 0, .int 0])), (q7, .inl (ca 0, 40, .inl (fun _ => 0)))] := hD
  refine lv_aload_n hx hb tn_i1_12 rfl (lv_at hl 0 rfl) ?_
  refine lv_sipush (v := 400) hx hb tn_i1_13 (by decide) ?_
  refine tn_newI (N := 400) (ca := ca) hx hb hts hK hP hD hS hA (by decide) (by decide) (by decide) (Nat.le_of_ble_eq_true rfl) (Nat.le_of_ble_eq_true rfl) tn_i1_16 (fun q16 H hP hD hS => ?_)
  have hP : va_P D tn_cl [(h0, .inr (1, [.ref q7, .null, .null, .int 0, .int 0])), (q7, .inl (ca 0, 40, .inl (fun _ => 0))), (q16, .inl (ca 0, 400, .inl (fun _ => 0)))] H := hP
  have hD : va_D A [(h0, .inr (1, [.ref q7, .null, .null, .int 0, .int 0])), (q7, .inl (ca 0, 40, .inl (fun _ => 0))), (q16, .inl (ca 0, 400, .inl (fun _ => 0)))] := hD
  refine W.widen (k := 2) (n := 440) (Nat.le_of_ble_eq_true rfl) (Nat.le_of_ble_eq_true rfl) ?_
  refine va_putF (D := D) (ci := 1) (v := .ref q16) (ty := .array .int) (C := tn_R1) (T := tn_T1) (N := 5) hx hb hts tn_iw1 tn_ty1 tn_to1 tn_nm1 hown hK hP hD hS 0 rfl rfl 1 (by decide) (hts (.fieldLink tn_R1 15 tn_R1 "signOf" "[I") tn_wc12) (fun _ h9 => h9) rfl hin rfl (by decide +kernel) rfl rfl (Nat.le_of_ble_eq_true rfl) tn_i1_18 (fun H locs hP hD hS => ?_)
  have hP : va_P D tn_cl [(h0, .inr (1, [.ref q7, .ref q16, .null, .int 0, .int 0])), (q7, .inl (ca 0, 40, .inl (fun _ => 0))), (q16, .inl (ca 0, 400, .inl (fun _ => 0)))] H := hP
  have hD : va_D A [(h0, .inr (1, [.ref q7, .ref q16, .null, .int 0, .int 0])), (q7, .inl (ca 0, 40, .inl (fun _ => 0))), (q16, .inl (ca 0, 400, .inl (fun _ => 0)))] := hD
  refine lv_aload_n hx hb tn_i1_21 rfl (lv_at hl 0 rfl) ?_
  refine lv_sipush (v := 1200) hx hb tn_i1_22 (by decide) ?_
  refine tn_newI (N := 1200) (ca := ca) hx hb hts hK hP hD hS hA (by decide) (by decide) (by decide) (Nat.le_of_ble_eq_true rfl) (Nat.le_of_ble_eq_true rfl) tn_i1_25 (fun q25 H hP hD hS => ?_)
  have hP : va_P D tn_cl [(h0, .inr (1, [.ref q7, .ref q16, .null, .int 0, .int 0])), (q7, .inl (ca 0, 40, .inl (fun _ => 0))), (q16, .inl (ca 0, 400, .inl (fun _ => 0))), (q25, .inl (ca 0, 1200, .inl (fun _ => 0)))] H := hP
  have hD : va_D A [(h0, .inr (1, [.ref q7, .ref q16, .null, .int 0, .int 0])), (q7, .inl (ca 0, 40, .inl (fun _ => 0))), (q16, .inl (ca 0, 400, .inl (fun _ => 0))), (q25, .inl (ca 0, 1200, .inl (fun _ => 0)))] := hD
  refine W.widen (k := 3) (n := 1640) (Nat.le_of_ble_eq_true rfl) (Nat.le_of_ble_eq_true rfl) ?_
  refine va_putF (D := D) (ci := 1) (v := .ref q25) (ty := .array .int) (C := tn_R1) (T := tn_T1) (N := 5) hx hb hts tn_iw1 tn_ty1 tn_to1 tn_nm1 hown hK hP hD hS 0 rfl rfl 2 (by decide) (hts (.fieldLink tn_R1 18 tn_R1 "parts" "[I") tn_wc13) (fun _ h9 => h9) rfl hin rfl (by decide +kernel) rfl rfl (Nat.le_of_ble_eq_true rfl) tn_i1_27 (fun H locs hP hD hS => ?_)
  have hP : va_P D tn_cl [(h0, .inr (1, [.ref q7, .ref q16, .ref q25, .int 0, .int 0])), (q7, .inl (ca 0, 40, .inl (fun _ => 0))), (q16, .inl (ca 0, 400, .inl (fun _ => 0))), (q25, .inl (ca 0, 1200, .inl (fun _ => 0)))] H := hP
  have hD : va_D A [(h0, .inr (1, [.ref q7, .ref q16, .ref q25, .int 0, .int 0])), (q7, .inl (ca 0, 40, .inl (fun _ => 0))), (q16, .inl (ca 0, 400, .inl (fun _ => 0))), (q25, .inl (ca 0, 1200, .inl (fun _ => 0)))] := hD
  refine lv_aload_n hx hb tn_i1_30 rfl (lv_at hl 0 rfl) ?_
  refine lv_iconst (v := 0) hx hb tn_i1_31 (by decide) ?_
  refine va_put (D := D) (ci := 1) (v := .int 0) (ty := .int) (C := tn_R1) (T := tn_T1) (N := 5) hx hb hts tn_iw1 tn_ty1 tn_to1 tn_nm1 hown hK hP hD hS 0 rfl rfl 3 (by decide) (hts (.fieldLink tn_R1 21 tn_R1 "signs" "I") tn_wc14) (fun _ h9 => h9) rfl (by decide +kernel) rfl rfl (Nat.le_of_ble_eq_true rfl) tn_i1_32 (fun H locs hP hD hS => ?_)
  have hP : va_P D tn_cl [(h0, .inr (1, [.ref q7, .ref q16, .ref q25, .int 0, .int 0])), (q7, .inl (ca 0, 40, .inl (fun _ => 0))), (q16, .inl (ca 0, 400, .inl (fun _ => 0))), (q25, .inl (ca 0, 1200, .inl (fun _ => 0)))] H := hP
  have hD : va_D A [(h0, .inr (1, [.ref q7, .ref q16, .ref q25, .int 0, .int 0])), (q7, .inl (ca 0, 40, .inl (fun _ => 0))), (q16, .inl (ca 0, 400, .inl (fun _ => 0))), (q25, .inl (ca 0, 1200, .inl (fun _ => 0)))] := hD
  refine lv_aload_n hx hb tn_i1_35 rfl (lv_at hl 0 rfl) ?_
  refine lv_iconst (v := 0) hx hb tn_i1_36 (by decide) ?_
  refine va_put (D := D) (ci := 1) (v := .int 0) (ty := .int) (C := tn_R1) (T := tn_T1) (N := 5) hx hb hts tn_iw1 tn_ty1 tn_to1 tn_nm1 hown hK hP hD hS 0 rfl rfl 4 (by decide) (hts (.fieldLink tn_R1 25 tn_R1 "terms" "I") tn_wc15) (fun _ h9 => h9) rfl (by decide +kernel) rfl rfl (Nat.le_of_ble_eq_true rfl) tn_i1_37 (fun H locs hP hD hS => ?_)
  have hP : va_P D tn_cl [(h0, .inr (1, [.ref q7, .ref q16, .ref q25, .int 0, .int 0])), (q7, .inl (ca 0, 40, .inl (fun _ => 0))), (q16, .inl (ca 0, 400, .inl (fun _ => 0))), (q25, .inl (ca 0, 1200, .inl (fun _ => 0)))] H := hP
  have hD : va_D A [(h0, .inr (1, [.ref q7, .ref q16, .ref q25, .int 0, .int 0])), (q7, .inl (ca 0, 40, .inl (fun _ => 0))), (q16, .inl (ca 0, 400, .inl (fun _ => 0))), (q25, .inl (ca 0, 1200, .inl (fun _ => 0)))] := hD
  have hP9 : va_P D tn_cl ([(h0, .inr (1, [.ref q7, .ref q16, .ref q25, .int 0, .int 0])), (q7, .inl (ca 0, 40, .inl (fun _ => 0))), (q16, .inl (ca 0, 400, .inl (fun _ => 0))), (q25, .inl (ca 0, 1200, .inl (fun _ => 0)))]) H := by
    exact hP.sub [0, 1, 2, 3] rfl
  have hD9 : va_D A ([(h0, .inr (1, [.ref q7, .ref q16, .ref q25, .int 0, .int 0])), (q7, .inl (ca 0, 40, .inl (fun _ => 0))), (q16, .inl (ca 0, 400, .inl (fun _ => 0))), (q25, .inl (ca 0, 1200, .inl (fun _ => 0)))]) := by
    exact hD.sub [0, 1, 2, 3] (by decide) rfl
  exact W.vret hx hb hr (fun t ht hW => ⟨⟨(fun k => [q7, q16, q25].getD k 0), rfl, trivial, by rw [ht]; exact hP9, hD9⟩, hS.F ht⟩) hS.2.2 tn_i1_40
theorem tn_y0_cd : Cond.code tn_y0 prog_2_method_1_code 2 none ∈ tn_TS := tn_wc1
theorem tn_i0_0 : decode prog_2_method_1_code 0 = .ok (.aload_n 0, 1) := by decide +kernel
theorem tn_i0_1 : decode prog_2_method_1_code 1 = .ok (.invokespecial 3, 3) := by decide +kernel
theorem tn_i0_4 : decode prog_2_method_1_code 4 = .ok (.aload_n 0, 1) := by decide +kernel
theorem tn_i0_5 : decode prog_2_method_1_code 5 = .ok (.sipush 400, 3) := by decide +kernel
theorem tn_i0_8 : decode prog_2_method_1_code 8 = .ok (.newarray .int, 2) := by decide +kernel
theorem tn_i0_10 : decode prog_2_method_1_code 10 = .ok (.putfield 9, 3) := by decide +kernel
theorem tn_i0_13 : decode prog_2_method_1_code 13 = .ok (.aload_n 0, 1) := by decide +kernel
theorem tn_i0_14 : decode prog_2_method_1_code 14 = .ok (.sipush 400, 3) := by decide +kernel
theorem tn_i0_17 : decode prog_2_method_1_code 17 = .ok (.newarray .int, 2) := by decide +kernel
theorem tn_i0_19 : decode prog_2_method_1_code 19 = .ok (.putfield 15, 3) := by decide +kernel
theorem tn_i0_22 : decode prog_2_method_1_code 22 = .ok (.aload_n 0, 1) := by decide +kernel
theorem tn_i0_23 : decode prog_2_method_1_code 23 = .ok (.sipush 400, 3) := by decide +kernel
theorem tn_i0_26 : decode prog_2_method_1_code 26 = .ok (.newarray .int, 2) := by decide +kernel
theorem tn_i0_28 : decode prog_2_method_1_code 28 = .ok (.putfield 18, 3) := by decide +kernel
theorem tn_i0_31 : decode prog_2_method_1_code 31 = .ok (.aload_n 0, 1) := by decide +kernel
theorem tn_i0_32 : decode prog_2_method_1_code 32 = .ok (.sipush 400, 3) := by decide +kernel
theorem tn_i0_35 : decode prog_2_method_1_code 35 = .ok (.newarray .int, 2) := by decide +kernel
theorem tn_i0_37 : decode prog_2_method_1_code 37 = .ok (.putfield 21, 3) := by decide +kernel
theorem tn_i0_40 : decode prog_2_method_1_code 40 = .ok (.aload_n 0, 1) := by decide +kernel
theorem tn_i0_41 : decode prog_2_method_1_code 41 = .ok (.iconst 0, 1) := by decide +kernel
theorem tn_i0_42 : decode prog_2_method_1_code 42 = .ok (.putfield 24, 3) := by decide +kernel
theorem tn_i0_45 : decode prog_2_method_1_code 45 = .ok (.aload_n 0, 1) := by decide +kernel
theorem tn_i0_46 : decode prog_2_method_1_code 46 = .ok (.aload_n 1, 1) := by decide +kernel
theorem tn_i0_47 : decode prog_2_method_1_code 47 = .ok (.putfield 28, 3) := by decide +kernel
theorem tn_i0_50 : decode prog_2_method_1_code 50 = .ok (.return_, 1) := by decide +kernel
set_option maxHeartbeats 4000000 in
set_option maxRecDepth 100000 in
theorem tn_c0_init (l : Launch) (D : va_G) (ca : Nat → ClassId) (h0 : Nat) (g0 : Nat) (sz : Nat) : Met l tn_y0 (Cond.code tn_y0 prog_2_method_1_code 2 none :: tn_TS) ({ frames := 1, cells := 4, slots := 1600, locals := 12 }) (va_Pc [.ref h0, .ref g0] (fun U => U.heap.size = sz ∧ va_P D tn_cl [(h0, .inr (0, [.null, .null, .null, .null, .null, .int 0]))] U.heap ∧ va_K D tn_cl (am_ty ca) U ∧ va_D (fun _ => True) [(h0, .inr (0, [.null, .null, .null, .null, .null, .int 0]))])) (va_Qv (fun _ : Nat → Nat => True) (fun a t => va_P D tn_cl [(h0, .inr (0, [.ref g0, .ref (a 0), .ref (a 1), .ref (a 2), .ref (a 3), .int 0])), ((a 0), .inl (ca 0, 400, .inl (fun _ => 0))), ((a 1), .inl (ca 0, 400, .inl (fun _ => 0))), ((a 2), .inl (ca 0, 400, .inl (fun _ => 0))), ((a 3), .inl (ca 0, 400, .inl (fun _ => 0)))] t.heap ∧ va_D (va_A [(h0, .inr (0, [.null, .null, .null, .null, .null, .int 0]))] sz) [(h0, .inr (0, [.ref g0, .ref (a 0), .ref (a 1), .ref (a 2), .ref (a 3), .int 0])), ((a 0), .inl (ca 0, 400, .inl (fun _ => 0))), ((a 1), .inl (ca 0, 400, .inl (fun _ => 0))), ((a 2), .inl (ca 0, 400, .inl (fun _ => 0))), ((a 3), .inl (ca 0, 400, .inl (fun _ => 0)))]) (va_A [(h0, .inr (0, [.null, .null, .null, .null, .null, .int 0]))] sz)) 4 1600 (va_A [(h0, .inr (0, [.null, .null, .null, .null, .null, .int 0]))] sz) := by
  refine Met.ofW (cc := prog_2_method_1_code) (maxL := 2) (ret := none) (by decide) rfl ?_
  intro p e s m args below meth c s₁ B hml hv
  obtain ⟨rfl, hsz, hP, hK, hD0⟩ := hv
  have hx := B.exec
  have hb := B.bytes
  have hr := B.returns
  have hts : ∀ w ∈ tn_TS, w.before _ s = true := fun w hw => atoms_spec (ws := Cond.code tn_y0 prog_2_method_1_code 2 none :: tn_TS) B.pre w (List.mem_cons_of_mem _ hw)
  have hown : s.vm.findClass tn_R0 = some m.cls := findClass_of_methodNamed B.named
  have hlocks := B.notSynchronized
  have hin : meth.name = "<init>" := (name_of_methodNamed B.named B.method).1
  subst hsz
  have hD := hD0.self (sz := s.heap.size)
  generalize hAe : va_A [(h0, .inr (0, [.null, .null, .null, .null, .null, .int 0]))] s.heap.size = A at hD ⊢
  have hA : ∀ q : Nat, s.heap.size ≤ q → A q := fun q h => by rw [← hAe]; exact Or.inr h
  have hS : va_S A s.heap s.heap [] := va_S.rf
  have hl := lv_entry ([.ref h0, .ref g0]) (n := 2) (Nat.le_of_ble_eq_true rfl)
  rw [lg_entry_eq]
  generalize (lg_sl ([.ref h0, .ref g0]) ++ List.replicate (2 - (lg_sl ([.ref h0, .ref g0])).length) Slot.unset).toArray = ls at hl ⊢
  have hl : lv_has ls 2 [(0, .ref h0), (1, .ref g0)] := hl
  refine lv_aload_n hx hb tn_i0_0 rfl (lv_at hl 0 rfl) ?_
  refine W.objInit hx hb hown (hts (.methodLink tn_R0 3 objectInit) tn_wc16) (hts (.instanceMethod objectInit) tn_wc9) (hts (.code objectInit ⟨#[0xb1]⟩ 1 none) tn_wc10) rfl (by rw [hml]; exact hl.1) rfl tn_i0_1 (Nat.le_of_ble_eq_true rfl) (Nat.le_of_ble_eq_true rfl) ?_
  refine W.eq (g2 := F0 m 4 ls []) rfl ?_
  refine lv_aload_n hx hb tn_i0_4 rfl (lv_at hl 0 rfl) ?_
  refine lv_sipush (v := 400) hx hb tn_i0_5 (by decide) ?_
  refine tn_newI (N := 400) (ca := ca) hx hb hts hK hP hD hS hA (by decide) (by decide) (by decide) (Nat.le_of_ble_eq_true rfl) (Nat.le_of_ble_eq_true rfl) tn_i0_8 (fun q8 H hP hD hS => ?_)
  have hP : va_P D tn_cl [(h0, .inr (0, [.null, .null, .null, .null, .null, .int 0])), (q8, .inl (ca 0, 400, .inl (fun _ => 0)))] H := hP
  have hD : va_D A [(h0, .inr (0, [.null, .null, .null, .null, .null, .int 0])), (q8, .inl (ca 0, 400, .inl (fun _ => 0)))] := hD
  refine W.widen (k := 1) (n := 400) (Nat.le_of_ble_eq_true rfl) (Nat.le_of_ble_eq_true rfl) ?_
  refine va_putF (D := D) (ci := 0) (v := .ref q8) (ty := .array .int) (C := tn_R0) (T := tn_T0) (N := 6) hx hb hts tn_iw0 tn_ty0 tn_to0 tn_nm0 hown hK hP hD hS 0 rfl rfl 1 (by decide) (hts (.fieldLink tn_R0 9 tn_R0 "leader" "[I") tn_wc17) (fun _ h9 => h9) rfl hin rfl (by decide +kernel) rfl rfl (Nat.le_of_ble_eq_true rfl) tn_i0_10 (fun H locs hP hD hS => ?_)
  have hP : va_P D tn_cl [(h0, .inr (0, [.null, .ref q8, .null, .null, .null, .int 0])), (q8, .inl (ca 0, 400, .inl (fun _ => 0)))] H := hP
  have hD : va_D A [(h0, .inr (0, [.null, .ref q8, .null, .null, .null, .int 0])), (q8, .inl (ca 0, 400, .inl (fun _ => 0)))] := hD
  refine lv_aload_n hx hb tn_i0_13 rfl (lv_at hl 0 rfl) ?_
  refine lv_sipush (v := 400) hx hb tn_i0_14 (by decide) ?_
  refine tn_newI (N := 400) (ca := ca) hx hb hts hK hP hD hS hA (by decide) (by decide) (by decide) (Nat.le_of_ble_eq_true rfl) (Nat.le_of_ble_eq_true rfl) tn_i0_17 (fun q17 H hP hD hS => ?_)
  have hP : va_P D tn_cl [(h0, .inr (0, [.null, .ref q8, .null, .null, .null, .int 0])), (q8, .inl (ca 0, 400, .inl (fun _ => 0))), (q17, .inl (ca 0, 400, .inl (fun _ => 0)))] H := hP
  have hD : va_D A [(h0, .inr (0, [.null, .ref q8, .null, .null, .null, .int 0])), (q8, .inl (ca 0, 400, .inl (fun _ => 0))), (q17, .inl (ca 0, 400, .inl (fun _ => 0)))] := hD
  refine W.widen (k := 2) (n := 800) (Nat.le_of_ble_eq_true rfl) (Nat.le_of_ble_eq_true rfl) ?_
  refine va_putF (D := D) (ci := 0) (v := .ref q17) (ty := .array .int) (C := tn_R0) (T := tn_T0) (N := 6) hx hb hts tn_iw0 tn_ty0 tn_to0 tn_nm0 hown hK hP hD hS 0 rfl rfl 2 (by decide) (hts (.fieldLink tn_R0 15 tn_R0 "ring" "[I") tn_wc18) (fun _ h9 => h9) rfl hin rfl (by decide +kernel) rfl rfl (Nat.le_of_ble_eq_true rfl) tn_i0_19 (fun H locs hP hD hS => ?_)
  have hP : va_P D tn_cl [(h0, .inr (0, [.null, .ref q8, .ref q17, .null, .null, .int 0])), (q8, .inl (ca 0, 400, .inl (fun _ => 0))), (q17, .inl (ca 0, 400, .inl (fun _ => 0)))] H := hP
  have hD : va_D A [(h0, .inr (0, [.null, .ref q8, .ref q17, .null, .null, .int 0])), (q8, .inl (ca 0, 400, .inl (fun _ => 0))), (q17, .inl (ca 0, 400, .inl (fun _ => 0)))] := hD
  refine lv_aload_n hx hb tn_i0_22 rfl (lv_at hl 0 rfl) ?_
  refine lv_sipush (v := 400) hx hb tn_i0_23 (by decide) ?_
  refine tn_newI (N := 400) (ca := ca) hx hb hts hK hP hD hS hA (by decide) (by decide) (by decide) (Nat.le_of_ble_eq_true rfl) (Nat.le_of_ble_eq_true rfl) tn_i0_26 (fun q26 H hP hD hS => ?_)
  have hP : va_P D tn_cl [(h0, .inr (0, [.null, .ref q8, .ref q17, .null, .null, .int 0])), (q8, .inl (ca 0, 400, .inl (fun _ => 0))), (q17, .inl (ca 0, 400, .inl (fun _ => 0))), (q26, .inl (ca 0, 400, .inl (fun _ => 0)))] H := hP
  have hD : va_D A [(h0, .inr (0, [.null, .ref q8, .ref q17, .null, .null, .int 0])), (q8, .inl (ca 0, 400, .inl (fun _ => 0))), (q17, .inl (ca 0, 400, .inl (fun _ => 0))), (q26, .inl (ca 0, 400, .inl (fun _ => 0)))] := hD
  refine W.widen (k := 3) (n := 1200) (Nat.le_of_ble_eq_true rfl) (Nat.le_of_ble_eq_true rfl) ?_
  refine va_putF (D := D) (ci := 0) (v := .ref q26) (ty := .array .int) (C := tn_R0) (T := tn_T0) (N := 6) hx hb hts tn_iw0 tn_ty0 tn_to0 tn_nm0 hown hK hP hD hS 0 rfl rfl 3 (by decide) (hts (.fieldLink tn_R0 18 tn_R0 "shape" "[I") tn_wc19) (fun _ h9 => h9) rfl hin rfl (by decide +kernel) rfl rfl (Nat.le_of_ble_eq_true rfl) tn_i0_28 (fun H locs hP hD hS => ?_)
  have hP : va_P D tn_cl [(h0, .inr (0, [.null, .ref q8, .ref q17, .ref q26, .null, .int 0])), (q8, .inl (ca 0, 400, .inl (fun _ => 0))), (q17, .inl (ca 0, 400, .inl (fun _ => 0))), (q26, .inl (ca 0, 400, .inl (fun _ => 0)))] H := hP
  have hD : va_D A [(h0, .inr (0, [.null, .ref q8, .ref q17, .ref q26, .null, .int 0])), (q8, .inl (ca 0, 400, .inl (fun _ => 0))), (q17, .inl (ca 0, 400, .inl (fun _ => 0))), (q26, .inl (ca 0, 400, .inl (fun _ => 0)))] := hD
  refine lv_aload_n hx hb tn_i0_31 rfl (lv_at hl 0 rfl) ?_
  refine lv_sipush (v := 400) hx hb tn_i0_32 (by decide) ?_
  refine tn_newI (N := 400) (ca := ca) hx hb hts hK hP hD hS hA (by decide) (by decide) (by decide) (Nat.le_of_ble_eq_true rfl) (Nat.le_of_ble_eq_true rfl) tn_i0_35 (fun q35 H hP hD hS => ?_)
  have hP : va_P D tn_cl [(h0, .inr (0, [.null, .ref q8, .ref q17, .ref q26, .null, .int 0])), (q8, .inl (ca 0, 400, .inl (fun _ => 0))), (q17, .inl (ca 0, 400, .inl (fun _ => 0))), (q26, .inl (ca 0, 400, .inl (fun _ => 0))), (q35, .inl (ca 0, 400, .inl (fun _ => 0)))] H := hP
  have hD : va_D A [(h0, .inr (0, [.null, .ref q8, .ref q17, .ref q26, .null, .int 0])), (q8, .inl (ca 0, 400, .inl (fun _ => 0))), (q17, .inl (ca 0, 400, .inl (fun _ => 0))), (q26, .inl (ca 0, 400, .inl (fun _ => 0))), (q35, .inl (ca 0, 400, .inl (fun _ => 0)))] := hD
  refine W.widen (k := 4) (n := 1600) (Nat.le_of_ble_eq_true rfl) (Nat.le_of_ble_eq_true rfl) ?_
  refine va_putF (D := D) (ci := 0) (v := .ref q35) (ty := .array .int) (C := tn_R0) (T := tn_T0) (N := 6) hx hb hts tn_iw0 tn_ty0 tn_to0 tn_nm0 hown hK hP hD hS 0 rfl rfl 4 (by decide) (hts (.fieldLink tn_R0 21 tn_R0 "trail" "[I") tn_wc20) (fun _ h9 => h9) rfl hin rfl (by decide +kernel) rfl rfl (Nat.le_of_ble_eq_true rfl) tn_i0_37 (fun H locs hP hD hS => ?_)
  have hP : va_P D tn_cl [(h0, .inr (0, [.null, .ref q8, .ref q17, .ref q26, .ref q35, .int 0])), (q8, .inl (ca 0, 400, .inl (fun _ => 0))), (q17, .inl (ca 0, 400, .inl (fun _ => 0))), (q26, .inl (ca 0, 400, .inl (fun _ => 0))), (q35, .inl (ca 0, 400, .inl (fun _ => 0)))] H := hP
  have hD : va_D A [(h0, .inr (0, [.null, .ref q8, .ref q17, .ref q26, .ref q35, .int 0])), (q8, .inl (ca 0, 400, .inl (fun _ => 0))), (q17, .inl (ca 0, 400, .inl (fun _ => 0))), (q26, .inl (ca 0, 400, .inl (fun _ => 0))), (q35, .inl (ca 0, 400, .inl (fun _ => 0)))] := hD
  refine lv_aload_n hx hb tn_i0_40 rfl (lv_at hl 0 rfl) ?_
  refine lv_iconst (v := 0) hx hb tn_i0_41 (by decide) ?_
  refine va_put (D := D) (ci := 0) (v := .int 0) (ty := .int) (C := tn_R0) (T := tn_T0) (N := 6) hx hb hts tn_iw0 tn_ty0 tn_to0 tn_nm0 hown hK hP hD hS 0 rfl rfl 5 (by decide) (hts (.fieldLink tn_R0 24 tn_R0 "merges" "I") tn_wc21) (fun _ h9 => h9) rfl (by decide +kernel) rfl rfl (Nat.le_of_ble_eq_true rfl) tn_i0_42 (fun H locs hP hD hS => ?_)
  have hP : va_P D tn_cl [(h0, .inr (0, [.null, .ref q8, .ref q17, .ref q26, .ref q35, .int 0])), (q8, .inl (ca 0, 400, .inl (fun _ => 0))), (q17, .inl (ca 0, 400, .inl (fun _ => 0))), (q26, .inl (ca 0, 400, .inl (fun _ => 0))), (q35, .inl (ca 0, 400, .inl (fun _ => 0)))] H := hP
  have hD : va_D A [(h0, .inr (0, [.null, .ref q8, .ref q17, .ref q26, .ref q35, .int 0])), (q8, .inl (ca 0, 400, .inl (fun _ => 0))), (q17, .inl (ca 0, 400, .inl (fun _ => 0))), (q26, .inl (ca 0, 400, .inl (fun _ => 0))), (q35, .inl (ca 0, 400, .inl (fun _ => 0)))] := hD
  refine lv_aload_n hx hb tn_i0_45 rfl (lv_at hl 0 rfl) ?_
  refine lv_aload_n hx hb tn_i0_46 rfl (lv_at hl 1 rfl) ?_
  refine va_putF (D := D) (ci := 0) (v := .ref g0) (ty := .object "TermNet$Told") (C := tn_R0) (T := tn_T0) (N := 6) hx hb hts tn_iw0 tn_ty0 tn_to0 tn_nm0 hown hK hP hD hS 0 rfl rfl 0 (by decide) (hts (.fieldLink tn_R0 28 tn_R0 "told" "LTermNet$Told;") tn_wc22) (fun _ h9 => h9) rfl hin rfl (by decide +kernel) rfl rfl (Nat.le_of_ble_eq_true rfl) tn_i0_47 (fun H locs hP hD hS => ?_)
  have hP : va_P D tn_cl [(h0, .inr (0, [.ref g0, .ref q8, .ref q17, .ref q26, .ref q35, .int 0])), (q8, .inl (ca 0, 400, .inl (fun _ => 0))), (q17, .inl (ca 0, 400, .inl (fun _ => 0))), (q26, .inl (ca 0, 400, .inl (fun _ => 0))), (q35, .inl (ca 0, 400, .inl (fun _ => 0)))] H := hP
  have hD : va_D A [(h0, .inr (0, [.ref g0, .ref q8, .ref q17, .ref q26, .ref q35, .int 0])), (q8, .inl (ca 0, 400, .inl (fun _ => 0))), (q17, .inl (ca 0, 400, .inl (fun _ => 0))), (q26, .inl (ca 0, 400, .inl (fun _ => 0))), (q35, .inl (ca 0, 400, .inl (fun _ => 0)))] := hD
  have hP9 : va_P D tn_cl ([(h0, .inr (0, [.ref g0, .ref q8, .ref q17, .ref q26, .ref q35, .int 0])), (q8, .inl (ca 0, 400, .inl (fun _ => 0))), (q17, .inl (ca 0, 400, .inl (fun _ => 0))), (q26, .inl (ca 0, 400, .inl (fun _ => 0))), (q35, .inl (ca 0, 400, .inl (fun _ => 0)))]) H := by
    exact hP.sub [0, 1, 2, 3, 4] rfl
  have hD9 : va_D A ([(h0, .inr (0, [.ref g0, .ref q8, .ref q17, .ref q26, .ref q35, .int 0])), (q8, .inl (ca 0, 400, .inl (fun _ => 0))), (q17, .inl (ca 0, 400, .inl (fun _ => 0))), (q26, .inl (ca 0, 400, .inl (fun _ => 0))), (q35, .inl (ca 0, 400, .inl (fun _ => 0)))]) := by
    exact hD.sub [0, 1, 2, 3, 4] (by decide) rfl
  exact W.vret hx hb hr (fun t ht hW => ⟨⟨(fun k => [q8, q17, q26, q35].getD k 0), rfl, trivial, by rw [ht]; exact hP9, hD9⟩, hS.F ht⟩) hS.2.2 tn_i0_50
theorem tn_y3_cd : Cond.code tn_y3 prog_5_method_1_code 2 none ∈ tn_TS := tn_wc2
theorem tn_i3_0 : decode prog_5_method_1_code 0 = .ok (.aload_n 0, 1) := by decide +kernel
theorem tn_i3_1 : decode prog_5_method_1_code 1 = .ok (.invokespecial 3, 3) := by decide +kernel
theorem tn_i3_4 : decode prog_5_method_1_code 4 = .ok (.aload_n 0, 1) := by decide +kernel
theorem tn_i3_5 : decode prog_5_method_1_code 5 = .ok (.sipush 400, 3) := by decide +kernel
theorem tn_i3_8 : decode prog_5_method_1_code 8 = .ok (.newarray .int, 2) := by decide +kernel
theorem tn_i3_10 : decode prog_5_method_1_code 10 = .ok (.putfield 9, 3) := by decide +kernel
theorem tn_i3_13 : decode prog_5_method_1_code 13 = .ok (.aload_n 0, 1) := by decide +kernel
theorem tn_i3_14 : decode prog_5_method_1_code 14 = .ok (.sipush 400, 3) := by decide +kernel
theorem tn_i3_17 : decode prog_5_method_1_code 17 = .ok (.newarray .int, 2) := by decide +kernel
theorem tn_i3_19 : decode prog_5_method_1_code 19 = .ok (.putfield 15, 3) := by decide +kernel
theorem tn_i3_22 : decode prog_5_method_1_code 22 = .ok (.aload_n 0, 1) := by decide +kernel
theorem tn_i3_23 : decode prog_5_method_1_code 23 = .ok (.sipush 400, 3) := by decide +kernel
theorem tn_i3_26 : decode prog_5_method_1_code 26 = .ok (.newarray .int, 2) := by decide +kernel
theorem tn_i3_28 : decode prog_5_method_1_code 28 = .ok (.putfield 18, 3) := by decide +kernel
theorem tn_i3_31 : decode prog_5_method_1_code 31 = .ok (.aload_n 0, 1) := by decide +kernel
theorem tn_i3_32 : decode prog_5_method_1_code 32 = .ok (.sipush 400, 3) := by decide +kernel
theorem tn_i3_35 : decode prog_5_method_1_code 35 = .ok (.newarray .int, 2) := by decide +kernel
theorem tn_i3_37 : decode prog_5_method_1_code 37 = .ok (.putfield 21, 3) := by decide +kernel
theorem tn_i3_40 : decode prog_5_method_1_code 40 = .ok (.aload_n 0, 1) := by decide +kernel
theorem tn_i3_41 : decode prog_5_method_1_code 41 = .ok (.sipush 400, 3) := by decide +kernel
theorem tn_i3_44 : decode prog_5_method_1_code 44 = .ok (.newarray .int, 2) := by decide +kernel
theorem tn_i3_46 : decode prog_5_method_1_code 46 = .ok (.putfield 24, 3) := by decide +kernel
theorem tn_i3_49 : decode prog_5_method_1_code 49 = .ok (.aload_n 0, 1) := by decide +kernel
theorem tn_i3_50 : decode prog_5_method_1_code 50 = .ok (.iconst 0, 1) := by decide +kernel
theorem tn_i3_51 : decode prog_5_method_1_code 51 = .ok (.putfield 27, 3) := by decide +kernel
theorem tn_i3_54 : decode prog_5_method_1_code 54 = .ok (.aload_n 0, 1) := by decide +kernel
theorem tn_i3_55 : decode prog_5_method_1_code 55 = .ok (.iconst 0, 1) := by decide +kernel
theorem tn_i3_56 : decode prog_5_method_1_code 56 = .ok (.putfield 31, 3) := by decide +kernel
theorem tn_i3_59 : decode prog_5_method_1_code 59 = .ok (.aload_n 0, 1) := by decide +kernel
theorem tn_i3_60 : decode prog_5_method_1_code 60 = .ok (.aload_n 1, 1) := by decide +kernel
theorem tn_i3_61 : decode prog_5_method_1_code 61 = .ok (.putfield 34, 3) := by decide +kernel
theorem tn_i3_64 : decode prog_5_method_1_code 64 = .ok (.return_, 1) := by decide +kernel
set_option maxHeartbeats 4000000 in
set_option maxRecDepth 100000 in
theorem tn_c3_init (l : Launch) (D : va_G) (ca : Nat → ClassId) (h0 : Nat) (g0 : Nat) (sz : Nat) : Met l tn_y3 (Cond.code tn_y3 prog_5_method_1_code 2 none :: tn_TS) ({ frames := 1, cells := 5, slots := 2000, locals := 12 }) (va_Pc [.ref h0, .ref g0] (fun U => U.heap.size = sz ∧ va_P D tn_cl [(h0, .inr (3, [.null, .null, .null, .null, .null, .null, .int 0, .int 0]))] U.heap ∧ va_K D tn_cl (am_ty ca) U ∧ va_D (fun _ => True) [(h0, .inr (3, [.null, .null, .null, .null, .null, .null, .int 0, .int 0]))])) (va_Qv (fun _ : Nat → Nat => True) (fun a t => va_P D tn_cl [(h0, .inr (3, [.ref g0, .ref (a 0), .ref (a 1), .ref (a 2), .ref (a 3), .ref (a 4), .int 0, .int 0])), ((a 0), .inl (ca 0, 400, .inl (fun _ => 0))), ((a 1), .inl (ca 0, 400, .inl (fun _ => 0))), ((a 2), .inl (ca 0, 400, .inl (fun _ => 0))), ((a 3), .inl (ca 0, 400, .inl (fun _ => 0))), ((a 4), .inl (ca 0, 400, .inl (fun _ => 0)))] t.heap ∧ va_D (va_A [(h0, .inr (3, [.null, .null, .null, .null, .null, .null, .int 0, .int 0]))] sz) [(h0, .inr (3, [.ref g0, .ref (a 0), .ref (a 1), .ref (a 2), .ref (a 3), .ref (a 4), .int 0, .int 0])), ((a 0), .inl (ca 0, 400, .inl (fun _ => 0))), ((a 1), .inl (ca 0, 400, .inl (fun _ => 0))), ((a 2), .inl (ca 0, 400, .inl (fun _ => 0))), ((a 3), .inl (ca 0, 400, .inl (fun _ => 0))), ((a 4), .inl (ca 0, 400, .inl (fun _ => 0)))]) (va_A [(h0, .inr (3, [.null, .null, .null, .null, .null, .null, .int 0, .int 0]))] sz)) 5 2000 (va_A [(h0, .inr (3, [.null, .null, .null, .null, .null, .null, .int 0, .int 0]))] sz) := by
  refine Met.ofW (cc := prog_5_method_1_code) (maxL := 2) (ret := none) (by decide) rfl ?_
  intro p e s m args below meth c s₁ B hml hv
  obtain ⟨rfl, hsz, hP, hK, hD0⟩ := hv
  have hx := B.exec
  have hb := B.bytes
  have hr := B.returns
  have hts : ∀ w ∈ tn_TS, w.before _ s = true := fun w hw => atoms_spec (ws := Cond.code tn_y3 prog_5_method_1_code 2 none :: tn_TS) B.pre w (List.mem_cons_of_mem _ hw)
  have hown : s.vm.findClass tn_R3 = some m.cls := findClass_of_methodNamed B.named
  have hlocks := B.notSynchronized
  have hin : meth.name = "<init>" := (name_of_methodNamed B.named B.method).1
  subst hsz
  have hD := hD0.self (sz := s.heap.size)
  generalize hAe : va_A [(h0, .inr (3, [.null, .null, .null, .null, .null, .null, .int 0, .int 0]))] s.heap.size = A at hD ⊢
  have hA : ∀ q : Nat, s.heap.size ≤ q → A q := fun q h => by rw [← hAe]; exact Or.inr h
  have hS : va_S A s.heap s.heap [] := va_S.rf
  have hl := lv_entry ([.ref h0, .ref g0]) (n := 2) (Nat.le_of_ble_eq_true rfl)
  rw [lg_entry_eq]
  generalize (lg_sl ([.ref h0, .ref g0]) ++ List.replicate (2 - (lg_sl ([.ref h0, .ref g0])).length) Slot.unset).toArray = ls at hl ⊢
  have hl : lv_has ls 2 [(0, .ref h0), (1, .ref g0)] := hl
  refine lv_aload_n hx hb tn_i3_0 rfl (lv_at hl 0 rfl) ?_
  refine W.objInit hx hb hown (hts (.methodLink tn_R3 3 objectInit) tn_wc23) (hts (.instanceMethod objectInit) tn_wc9) (hts (.code objectInit ⟨#[0xb1]⟩ 1 none) tn_wc10) rfl (by rw [hml]; exact hl.1) rfl tn_i3_1 (Nat.le_of_ble_eq_true rfl) (Nat.le_of_ble_eq_true rfl) ?_
  refine W.eq (g2 := F0 m 4 ls []) rfl ?_
  refine lv_aload_n hx hb tn_i3_4 rfl (lv_at hl 0 rfl) ?_
  refine lv_sipush (v := 400) hx hb tn_i3_5 (by decide) ?_
  refine tn_newI (N := 400) (ca := ca) hx hb hts hK hP hD hS hA (by decide) (by decide) (by decide) (Nat.le_of_ble_eq_true rfl) (Nat.le_of_ble_eq_true rfl) tn_i3_8 (fun q8 H hP hD hS => ?_)
  have hP : va_P D tn_cl [(h0, .inr (3, [.null, .null, .null, .null, .null, .null, .int 0, .int 0])), (q8, .inl (ca 0, 400, .inl (fun _ => 0)))] H := hP
  have hD : va_D A [(h0, .inr (3, [.null, .null, .null, .null, .null, .null, .int 0, .int 0])), (q8, .inl (ca 0, 400, .inl (fun _ => 0)))] := hD
  refine W.widen (k := 1) (n := 400) (Nat.le_of_ble_eq_true rfl) (Nat.le_of_ble_eq_true rfl) ?_
  refine va_putF (D := D) (ci := 3) (v := .ref q8) (ty := .array .int) (C := tn_R3) (T := tn_T3) (N := 8) hx hb hts tn_iw3 tn_ty3 tn_to3 tn_nm3 hown hK hP hD hS 0 rfl rfl 1 (by decide) (hts (.fieldLink tn_R3 9 tn_R3 "state" "[I") tn_wc24) (fun _ h9 => h9) rfl hin rfl (by decide +kernel) rfl rfl (Nat.le_of_ble_eq_true rfl) tn_i3_10 (fun H locs hP hD hS => ?_)
  have hP : va_P D tn_cl [(h0, .inr (3, [.null, .ref q8, .null, .null, .null, .null, .int 0, .int 0])), (q8, .inl (ca 0, 400, .inl (fun _ => 0)))] H := hP
  have hD : va_D A [(h0, .inr (3, [.null, .ref q8, .null, .null, .null, .null, .int 0, .int 0])), (q8, .inl (ca 0, 400, .inl (fun _ => 0)))] := hD
  refine lv_aload_n hx hb tn_i3_13 rfl (lv_at hl 0 rfl) ?_
  refine lv_sipush (v := 400) hx hb tn_i3_14 (by decide) ?_
  refine tn_newI (N := 400) (ca := ca) hx hb hts hK hP hD hS hA (by decide) (by decide) (by decide) (Nat.le_of_ble_eq_true rfl) (Nat.le_of_ble_eq_true rfl) tn_i3_17 (fun q17 H hP hD hS => ?_)
  have hP : va_P D tn_cl [(h0, .inr (3, [.null, .ref q8, .null, .null, .null, .null, .int 0, .int 0])), (q8, .inl (ca 0, 400, .inl (fun _ => 0))), (q17, .inl (ca 0, 400, .inl (fun _ => 0)))] H := hP
  have hD : va_D A [(h0, .inr (3, [.null, .ref q8, .null, .null, .null, .null, .int 0, .int 0])), (q8, .inl (ca 0, 400, .inl (fun _ => 0))), (q17, .inl (ca 0, 400, .inl (fun _ => 0)))] := hD
  refine W.widen (k := 2) (n := 800) (Nat.le_of_ble_eq_true rfl) (Nat.le_of_ble_eq_true rfl) ?_
  refine va_putF (D := D) (ci := 3) (v := .ref q17) (ty := .array .int) (C := tn_R3) (T := tn_T3) (N := 8) hx hb hts tn_iw3 tn_ty3 tn_to3 tn_nm3 hown hK hP hD hS 0 rfl rfl 2 (by decide) (hts (.fieldLink tn_R3 15 tn_R3 "partsTried" "[I") tn_wc25) (fun _ h9 => h9) rfl hin rfl (by decide +kernel) rfl rfl (Nat.le_of_ble_eq_true rfl) tn_i3_19 (fun H locs hP hD hS => ?_)
  have hP : va_P D tn_cl [(h0, .inr (3, [.null, .ref q8, .ref q17, .null, .null, .null, .int 0, .int 0])), (q8, .inl (ca 0, 400, .inl (fun _ => 0))), (q17, .inl (ca 0, 400, .inl (fun _ => 0)))] H := hP
  have hD : va_D A [(h0, .inr (3, [.null, .ref q8, .ref q17, .null, .null, .null, .int 0, .int 0])), (q8, .inl (ca 0, 400, .inl (fun _ => 0))), (q17, .inl (ca 0, 400, .inl (fun _ => 0)))] := hD
  refine lv_aload_n hx hb tn_i3_22 rfl (lv_at hl 0 rfl) ?_
  refine lv_sipush (v := 400) hx hb tn_i3_23 (by decide) ?_
  refine tn_newI (N := 400) (ca := ca) hx hb hts hK hP hD hS hA (by decide) (by decide) (by decide) (Nat.le_of_ble_eq_true rfl) (Nat.le_of_ble_eq_true rfl) tn_i3_26 (fun q26 H hP hD hS => ?_)
  have hP : va_P D tn_cl [(h0, .inr (3, [.null, .ref q8, .ref q17, .null, .null, .null, .int 0, .int 0])), (q8, .inl (ca 0, 400, .inl (fun _ => 0))), (q17, .inl (ca 0, 400, .inl (fun _ => 0))), (q26, .inl (ca 0, 400, .inl (fun _ => 0)))] H := hP
  have hD : va_D A [(h0, .inr (3, [.null, .ref q8, .ref q17, .null, .null, .null, .int 0, .int 0])), (q8, .inl (ca 0, 400, .inl (fun _ => 0))), (q17, .inl (ca 0, 400, .inl (fun _ => 0))), (q26, .inl (ca 0, 400, .inl (fun _ => 0)))] := hD
  refine W.widen (k := 3) (n := 1200) (Nat.le_of_ble_eq_true rfl) (Nat.le_of_ble_eq_true rfl) ?_
  refine va_putF (D := D) (ci := 3) (v := .ref q26) (ty := .array .int) (C := tn_R3) (T := tn_T3) (N := 8) hx hb hts tn_iw3 tn_ty3 tn_to3 tn_nm3 hown hK hP hD hS 0 rfl rfl 3 (by decide) (hts (.fieldLink tn_R3 18 tn_R3 "path" "[I") tn_wc26) (fun _ h9 => h9) rfl hin rfl (by decide +kernel) rfl rfl (Nat.le_of_ble_eq_true rfl) tn_i3_28 (fun H locs hP hD hS => ?_)
  have hP : va_P D tn_cl [(h0, .inr (3, [.null, .ref q8, .ref q17, .ref q26, .null, .null, .int 0, .int 0])), (q8, .inl (ca 0, 400, .inl (fun _ => 0))), (q17, .inl (ca 0, 400, .inl (fun _ => 0))), (q26, .inl (ca 0, 400, .inl (fun _ => 0)))] H := hP
  have hD : va_D A [(h0, .inr (3, [.null, .ref q8, .ref q17, .ref q26, .null, .null, .int 0, .int 0])), (q8, .inl (ca 0, 400, .inl (fun _ => 0))), (q17, .inl (ca 0, 400, .inl (fun _ => 0))), (q26, .inl (ca 0, 400, .inl (fun _ => 0)))] := hD
  refine lv_aload_n hx hb tn_i3_31 rfl (lv_at hl 0 rfl) ?_
  refine lv_sipush (v := 400) hx hb tn_i3_32 (by decide) ?_
  refine tn_newI (N := 400) (ca := ca) hx hb hts hK hP hD hS hA (by decide) (by decide) (by decide) (Nat.le_of_ble_eq_true rfl) (Nat.le_of_ble_eq_true rfl) tn_i3_35 (fun q35 H hP hD hS => ?_)
  have hP : va_P D tn_cl [(h0, .inr (3, [.null, .ref q8, .ref q17, .ref q26, .null, .null, .int 0, .int 0])), (q8, .inl (ca 0, 400, .inl (fun _ => 0))), (q17, .inl (ca 0, 400, .inl (fun _ => 0))), (q26, .inl (ca 0, 400, .inl (fun _ => 0))), (q35, .inl (ca 0, 400, .inl (fun _ => 0)))] H := hP
  have hD : va_D A [(h0, .inr (3, [.null, .ref q8, .ref q17, .ref q26, .null, .null, .int 0, .int 0])), (q8, .inl (ca 0, 400, .inl (fun _ => 0))), (q17, .inl (ca 0, 400, .inl (fun _ => 0))), (q26, .inl (ca 0, 400, .inl (fun _ => 0))), (q35, .inl (ca 0, 400, .inl (fun _ => 0)))] := hD
  refine W.widen (k := 4) (n := 1600) (Nat.le_of_ble_eq_true rfl) (Nat.le_of_ble_eq_true rfl) ?_
  refine va_putF (D := D) (ci := 3) (v := .ref q35) (ty := .array .int) (C := tn_R3) (T := tn_T3) (N := 8) hx hb hts tn_iw3 tn_ty3 tn_to3 tn_nm3 hown hK hP hD hS 0 rfl rfl 4 (by decide) (hts (.fieldLink tn_R3 21 tn_R3 "order" "[I") tn_wc27) (fun _ h9 => h9) rfl hin rfl (by decide +kernel) rfl rfl (Nat.le_of_ble_eq_true rfl) tn_i3_37 (fun H locs hP hD hS => ?_)
  have hP : va_P D tn_cl [(h0, .inr (3, [.null, .ref q8, .ref q17, .ref q26, .ref q35, .null, .int 0, .int 0])), (q8, .inl (ca 0, 400, .inl (fun _ => 0))), (q17, .inl (ca 0, 400, .inl (fun _ => 0))), (q26, .inl (ca 0, 400, .inl (fun _ => 0))), (q35, .inl (ca 0, 400, .inl (fun _ => 0)))] H := hP
  have hD : va_D A [(h0, .inr (3, [.null, .ref q8, .ref q17, .ref q26, .ref q35, .null, .int 0, .int 0])), (q8, .inl (ca 0, 400, .inl (fun _ => 0))), (q17, .inl (ca 0, 400, .inl (fun _ => 0))), (q26, .inl (ca 0, 400, .inl (fun _ => 0))), (q35, .inl (ca 0, 400, .inl (fun _ => 0)))] := hD
  refine lv_aload_n hx hb tn_i3_40 rfl (lv_at hl 0 rfl) ?_
  refine lv_sipush (v := 400) hx hb tn_i3_41 (by decide) ?_
  refine tn_newI (N := 400) (ca := ca) hx hb hts hK hP hD hS hA (by decide) (by decide) (by decide) (Nat.le_of_ble_eq_true rfl) (Nat.le_of_ble_eq_true rfl) tn_i3_44 (fun q44 H hP hD hS => ?_)
  have hP : va_P D tn_cl [(h0, .inr (3, [.null, .ref q8, .ref q17, .ref q26, .ref q35, .null, .int 0, .int 0])), (q8, .inl (ca 0, 400, .inl (fun _ => 0))), (q17, .inl (ca 0, 400, .inl (fun _ => 0))), (q26, .inl (ca 0, 400, .inl (fun _ => 0))), (q35, .inl (ca 0, 400, .inl (fun _ => 0))), (q44, .inl (ca 0, 400, .inl (fun _ => 0)))] H := hP
  have hD : va_D A [(h0, .inr (3, [.null, .ref q8, .ref q17, .ref q26, .ref q35, .null, .int 0, .int 0])), (q8, .inl (ca 0, 400, .inl (fun _ => 0))), (q17, .inl (ca 0, 400, .inl (fun _ => 0))), (q26, .inl (ca 0, 400, .inl (fun _ => 0))), (q35, .inl (ca 0, 400, .inl (fun _ => 0))), (q44, .inl (ca 0, 400, .inl (fun _ => 0)))] := hD
  refine W.widen (k := 5) (n := 2000) (Nat.le_of_ble_eq_true rfl) (Nat.le_of_ble_eq_true rfl) ?_
  refine va_putF (D := D) (ci := 3) (v := .ref q44) (ty := .array .int) (C := tn_R3) (T := tn_T3) (N := 8) hx hb hts tn_iw3 tn_ty3 tn_to3 tn_nm3 hown hK hP hD hS 0 rfl rfl 5 (by decide) (hts (.fieldLink tn_R3 24 tn_R3 "value" "[I") tn_wc28) (fun _ h9 => h9) rfl hin rfl (by decide +kernel) rfl rfl (Nat.le_of_ble_eq_true rfl) tn_i3_46 (fun H locs hP hD hS => ?_)
  have hP : va_P D tn_cl [(h0, .inr (3, [.null, .ref q8, .ref q17, .ref q26, .ref q35, .ref q44, .int 0, .int 0])), (q8, .inl (ca 0, 400, .inl (fun _ => 0))), (q17, .inl (ca 0, 400, .inl (fun _ => 0))), (q26, .inl (ca 0, 400, .inl (fun _ => 0))), (q35, .inl (ca 0, 400, .inl (fun _ => 0))), (q44, .inl (ca 0, 400, .inl (fun _ => 0)))] H := hP
  have hD : va_D A [(h0, .inr (3, [.null, .ref q8, .ref q17, .ref q26, .ref q35, .ref q44, .int 0, .int 0])), (q8, .inl (ca 0, 400, .inl (fun _ => 0))), (q17, .inl (ca 0, 400, .inl (fun _ => 0))), (q26, .inl (ca 0, 400, .inl (fun _ => 0))), (q35, .inl (ca 0, 400, .inl (fun _ => 0))), (q44, .inl (ca 0, 400, .inl (fun _ => 0)))] := hD
  refine lv_aload_n hx hb tn_i3_49 rfl (lv_at hl 0 rfl) ?_
  refine lv_iconst (v := 0) hx hb tn_i3_50 (by decide) ?_
  refine va_put (D := D) (ci := 3) (v := .int 0) (ty := .int) (C := tn_R3) (T := tn_T3) (N := 8) hx hb hts tn_iw3 tn_ty3 tn_to3 tn_nm3 hown hK hP hD hS 0 rfl rfl 6 (by decide) (hts (.fieldLink tn_R3 27 tn_R3 "pathLength" "I") tn_wc29) (fun _ h9 => h9) rfl (by decide +kernel) rfl rfl (Nat.le_of_ble_eq_true rfl) tn_i3_51 (fun H locs hP hD hS => ?_)
  have hP : va_P D tn_cl [(h0, .inr (3, [.null, .ref q8, .ref q17, .ref q26, .ref q35, .ref q44, .int 0, .int 0])), (q8, .inl (ca 0, 400, .inl (fun _ => 0))), (q17, .inl (ca 0, 400, .inl (fun _ => 0))), (q26, .inl (ca 0, 400, .inl (fun _ => 0))), (q35, .inl (ca 0, 400, .inl (fun _ => 0))), (q44, .inl (ca 0, 400, .inl (fun _ => 0)))] H := hP
  have hD : va_D A [(h0, .inr (3, [.null, .ref q8, .ref q17, .ref q26, .ref q35, .ref q44, .int 0, .int 0])), (q8, .inl (ca 0, 400, .inl (fun _ => 0))), (q17, .inl (ca 0, 400, .inl (fun _ => 0))), (q26, .inl (ca 0, 400, .inl (fun _ => 0))), (q35, .inl (ca 0, 400, .inl (fun _ => 0))), (q44, .inl (ca 0, 400, .inl (fun _ => 0)))] := hD
  refine lv_aload_n hx hb tn_i3_54 rfl (lv_at hl 0 rfl) ?_
  refine lv_iconst (v := 0) hx hb tn_i3_55 (by decide) ?_
  refine va_put (D := D) (ci := 3) (v := .int 0) (ty := .int) (C := tn_R3) (T := tn_T3) (N := 8) hx hb hts tn_iw3 tn_ty3 tn_to3 tn_nm3 hown hK hP hD hS 0 rfl rfl 7 (by decide) (hts (.fieldLink tn_R3 31 tn_R3 "ordered" "I") tn_wc30) (fun _ h9 => h9) rfl (by decide +kernel) rfl rfl (Nat.le_of_ble_eq_true rfl) tn_i3_56 (fun H locs hP hD hS => ?_)
  have hP : va_P D tn_cl [(h0, .inr (3, [.null, .ref q8, .ref q17, .ref q26, .ref q35, .ref q44, .int 0, .int 0])), (q8, .inl (ca 0, 400, .inl (fun _ => 0))), (q17, .inl (ca 0, 400, .inl (fun _ => 0))), (q26, .inl (ca 0, 400, .inl (fun _ => 0))), (q35, .inl (ca 0, 400, .inl (fun _ => 0))), (q44, .inl (ca 0, 400, .inl (fun _ => 0)))] H := hP
  have hD : va_D A [(h0, .inr (3, [.null, .ref q8, .ref q17, .ref q26, .ref q35, .ref q44, .int 0, .int 0])), (q8, .inl (ca 0, 400, .inl (fun _ => 0))), (q17, .inl (ca 0, 400, .inl (fun _ => 0))), (q26, .inl (ca 0, 400, .inl (fun _ => 0))), (q35, .inl (ca 0, 400, .inl (fun _ => 0))), (q44, .inl (ca 0, 400, .inl (fun _ => 0)))] := hD
  refine lv_aload_n hx hb tn_i3_59 rfl (lv_at hl 0 rfl) ?_
  refine lv_aload_n hx hb tn_i3_60 rfl (lv_at hl 1 rfl) ?_
  refine va_putF (D := D) (ci := 3) (v := .ref g0) (ty := .object "TermNet$Groups") (C := tn_R3) (T := tn_T3) (N := 8) hx hb hts tn_iw3 tn_ty3 tn_to3 tn_nm3 hown hK hP hD hS 0 rfl rfl 0 (by decide) (hts (.fieldLink tn_R3 34 tn_R3 "groups" "LTermNet$Groups;") tn_wc31) (fun _ h9 => h9) rfl hin rfl (by decide +kernel) rfl rfl (Nat.le_of_ble_eq_true rfl) tn_i3_61 (fun H locs hP hD hS => ?_)
  have hP : va_P D tn_cl [(h0, .inr (3, [.ref g0, .ref q8, .ref q17, .ref q26, .ref q35, .ref q44, .int 0, .int 0])), (q8, .inl (ca 0, 400, .inl (fun _ => 0))), (q17, .inl (ca 0, 400, .inl (fun _ => 0))), (q26, .inl (ca 0, 400, .inl (fun _ => 0))), (q35, .inl (ca 0, 400, .inl (fun _ => 0))), (q44, .inl (ca 0, 400, .inl (fun _ => 0)))] H := hP
  have hD : va_D A [(h0, .inr (3, [.ref g0, .ref q8, .ref q17, .ref q26, .ref q35, .ref q44, .int 0, .int 0])), (q8, .inl (ca 0, 400, .inl (fun _ => 0))), (q17, .inl (ca 0, 400, .inl (fun _ => 0))), (q26, .inl (ca 0, 400, .inl (fun _ => 0))), (q35, .inl (ca 0, 400, .inl (fun _ => 0))), (q44, .inl (ca 0, 400, .inl (fun _ => 0)))] := hD
  have hP9 : va_P D tn_cl ([(h0, .inr (3, [.ref g0, .ref q8, .ref q17, .ref q26, .ref q35, .ref q44, .int 0, .int 0])), (q8, .inl (ca 0, 400, .inl (fun _ => 0))), (q17, .inl (ca 0, 400, .inl (fun _ => 0))), (q26, .inl (ca 0, 400, .inl (fun _ => 0))), (q35, .inl (ca 0, 400, .inl (fun _ => 0))), (q44, .inl (ca 0, 400, .inl (fun _ => 0)))]) H := by
    exact hP.sub [0, 1, 2, 3, 4, 5] rfl
  have hD9 : va_D A ([(h0, .inr (3, [.ref g0, .ref q8, .ref q17, .ref q26, .ref q35, .ref q44, .int 0, .int 0])), (q8, .inl (ca 0, 400, .inl (fun _ => 0))), (q17, .inl (ca 0, 400, .inl (fun _ => 0))), (q26, .inl (ca 0, 400, .inl (fun _ => 0))), (q35, .inl (ca 0, 400, .inl (fun _ => 0))), (q44, .inl (ca 0, 400, .inl (fun _ => 0)))]) := by
    exact hD.sub [0, 1, 2, 3, 4, 5] (by decide) rfl
  exact W.vret hx hb hr (fun t ht hW => ⟨⟨(fun k => [q8, q17, q26, q35, q44].getD k 0), rfl, trivial, by rw [ht]; exact hP9, hD9⟩, hS.F ht⟩) hS.2.2 tn_i3_64
theorem tn_y2_cd : Cond.code tn_y2 prog_4_method_1_code 2 none ∈ tn_TS := tn_wc3
theorem tn_i2_0 : decode prog_4_method_1_code 0 = .ok (.aload_n 0, 1) := by decide +kernel
theorem tn_i2_1 : decode prog_4_method_1_code 1 = .ok (.invokespecial 3, 3) := by decide +kernel
theorem tn_i2_4 : decode prog_4_method_1_code 4 = .ok (.aload_n 0, 1) := by decide +kernel
theorem tn_i2_5 : decode prog_4_method_1_code 5 = .ok (.sipush 401, 3) := by decide +kernel
theorem tn_i2_8 : decode prog_4_method_1_code 8 = .ok (.newarray .int, 2) := by decide +kernel
theorem tn_i2_10 : decode prog_4_method_1_code 10 = .ok (.putfield 11, 3) := by decide +kernel
theorem tn_i2_13 : decode prog_4_method_1_code 13 = .ok (.aload_n 0, 1) := by decide +kernel
theorem tn_i2_14 : decode prog_4_method_1_code 14 = .ok (.sipush 400, 3) := by decide +kernel
theorem tn_i2_17 : decode prog_4_method_1_code 17 = .ok (.newarray .int, 2) := by decide +kernel
theorem tn_i2_19 : decode prog_4_method_1_code 19 = .ok (.putfield 15, 3) := by decide +kernel
theorem tn_i2_22 : decode prog_4_method_1_code 22 = .ok (.aload_n 0, 1) := by decide +kernel
theorem tn_i2_23 : decode prog_4_method_1_code 23 = .ok (.sipush 400, 3) := by decide +kernel
theorem tn_i2_26 : decode prog_4_method_1_code 26 = .ok (.newarray .int, 2) := by decide +kernel
theorem tn_i2_28 : decode prog_4_method_1_code 28 = .ok (.putfield 18, 3) := by decide +kernel
theorem tn_i2_31 : decode prog_4_method_1_code 31 = .ok (.aload_n 0, 1) := by decide +kernel
theorem tn_i2_32 : decode prog_4_method_1_code 32 = .ok (.aload_n 1, 1) := by decide +kernel
theorem tn_i2_33 : decode prog_4_method_1_code 33 = .ok (.putfield 21, 3) := by decide +kernel
theorem tn_i2_36 : decode prog_4_method_1_code 36 = .ok (.return_, 1) := by decide +kernel
set_option maxHeartbeats 4000000 in
set_option maxRecDepth 100000 in
theorem tn_c2_init (l : Launch) (D : va_G) (ca : Nat → ClassId) (h0 : Nat) (g0 : Nat) (sz : Nat) : Met l tn_y2 (Cond.code tn_y2 prog_4_method_1_code 2 none :: tn_TS) ({ frames := 1, cells := 3, slots := 1201, locals := 12 }) (va_Pc [.ref h0, .ref g0] (fun U => U.heap.size = sz ∧ va_P D tn_cl [(h0, .inr (2, [.null, .null, .null, .null]))] U.heap ∧ va_K D tn_cl (am_ty ca) U ∧ va_D (fun _ => True) [(h0, .inr (2, [.null, .null, .null, .null]))])) (va_Qv (fun _ : Nat → Nat => True) (fun a t => va_P D tn_cl [(h0, .inr (2, [.ref g0, .ref (a 0), .ref (a 1), .ref (a 2)])), ((a 0), .inl (ca 0, 401, .inl (fun _ => 0))), ((a 1), .inl (ca 0, 400, .inl (fun _ => 0))), ((a 2), .inl (ca 0, 400, .inl (fun _ => 0)))] t.heap ∧ va_D (va_A [(h0, .inr (2, [.null, .null, .null, .null]))] sz) [(h0, .inr (2, [.ref g0, .ref (a 0), .ref (a 1), .ref (a 2)])), ((a 0), .inl (ca 0, 401, .inl (fun _ => 0))), ((a 1), .inl (ca 0, 400, .inl (fun _ => 0))), ((a 2), .inl (ca 0, 400, .inl (fun _ => 0)))]) (va_A [(h0, .inr (2, [.null, .null, .null, .null]))] sz)) 3 1201 (va_A [(h0, .inr (2, [.null, .null, .null, .null]))] sz) := by
  refine Met.ofW (cc := prog_4_method_1_code) (maxL := 2) (ret := none) (by decide) rfl ?_
  intro p e s m args below meth c s₁ B hml hv
  obtain ⟨rfl, hsz, hP, hK, hD0⟩ := hv
  have hx := B.exec
  have hb := B.bytes
  have hr := B.returns
  have hts : ∀ w ∈ tn_TS, w.before _ s = true := fun w hw => atoms_spec (ws := Cond.code tn_y2 prog_4_method_1_code 2 none :: tn_TS) B.pre w (List.mem_cons_of_mem _ hw)
  have hown : s.vm.findClass tn_R2 = some m.cls := findClass_of_methodNamed B.named
  have hlocks := B.notSynchronized
  have hin : meth.name = "<init>" := (name_of_methodNamed B.named B.method).1
  subst hsz
  have hD := hD0.self (sz := s.heap.size)
  generalize hAe : va_A [(h0, .inr (2, [.null, .null, .null, .null]))] s.heap.size = A at hD ⊢
  have hA : ∀ q : Nat, s.heap.size ≤ q → A q := fun q h => by rw [← hAe]; exact Or.inr h
  have hS : va_S A s.heap s.heap [] := va_S.rf
  have hl := lv_entry ([.ref h0, .ref g0]) (n := 2) (Nat.le_of_ble_eq_true rfl)
  rw [lg_entry_eq]
  generalize (lg_sl ([.ref h0, .ref g0]) ++ List.replicate (2 - (lg_sl ([.ref h0, .ref g0])).length) Slot.unset).toArray = ls at hl ⊢
  have hl : lv_has ls 2 [(0, .ref h0), (1, .ref g0)] := hl
  refine lv_aload_n hx hb tn_i2_0 rfl (lv_at hl 0 rfl) ?_
  refine W.objInit hx hb hown (hts (.methodLink tn_R2 3 objectInit) tn_wc32) (hts (.instanceMethod objectInit) tn_wc9) (hts (.code objectInit ⟨#[0xb1]⟩ 1 none) tn_wc10) rfl (by rw [hml]; exact hl.1) rfl tn_i2_1 (Nat.le_of_ble_eq_true rfl) (Nat.le_of_ble_eq_true rfl) ?_
  refine W.eq (g2 := F0 m 4 ls []) rfl ?_
  refine lv_aload_n hx hb tn_i2_4 rfl (lv_at hl 0 rfl) ?_
  refine lv_sipush (v := 401) hx hb tn_i2_5 (by decide) ?_
  refine tn_newI (N := 401) (ca := ca) hx hb hts hK hP hD hS hA (by decide) (by decide) (by decide) (Nat.le_of_ble_eq_true rfl) (Nat.le_of_ble_eq_true rfl) tn_i2_8 (fun q8 H hP hD hS => ?_)
  have hP : va_P D tn_cl [(h0, .inr (2, [.null, .null, .null, .null])), (q8, .inl (ca 0, 401, .inl (fun _ => 0)))] H := hP
  have hD : va_D A [(h0, .inr (2, [.null, .null, .null, .null])), (q8, .inl (ca 0, 401, .inl (fun _ => 0)))] := hD
  refine W.widen (k := 1) (n := 401) (Nat.le_of_ble_eq_true rfl) (Nat.le_of_ble_eq_true rfl) ?_
  refine va_putF (D := D) (ci := 2) (v := .ref q8) (ty := .array .int) (C := tn_R2) (T := tn_T2) (N := 4) hx hb hts tn_iw2 tn_ty2 tn_to2 tn_nm2 hown hK hP hD hS 0 rfl rfl 1 (by decide) (hts (.fieldLink tn_R2 11 tn_R2 "first" "[I") tn_wc33) (fun _ h9 => h9) rfl hin rfl (by decide +kernel) rfl rfl (Nat.le_of_ble_eq_true rfl) tn_i2_10 (fun H locs hP hD hS => ?_)
  have hP : va_P D tn_cl [(h0, .inr (2, [.null, .ref q8, .null, .null])), (q8, .inl (ca 0, 401, .inl (fun _ => 0)))] H := hP
  have hD : va_D A [(h0, .inr (2, [.null, .ref q8, .null, .null])), (q8, .inl (ca 0, 401, .inl (fun _ => 0)))] := hD
  refine lv_aload_n hx hb tn_i2_13 rfl (lv_at hl 0 rfl) ?_
  refine lv_sipush (v := 400) hx hb tn_i2_14 (by decide) ?_
  refine tn_newI (N := 400) (ca := ca) hx hb hts hK hP hD hS hA (by decide) (by decide) (by decide) (Nat.le_of_ble_eq_true rfl) (Nat.le_of_ble_eq_true rfl) tn_i2_17 (fun q17 H hP hD hS => ?_)
  have hP : va_P D tn_cl [(h0, .inr (2, [.null, .ref q8, .null, .null])), (q8, .inl (ca 0, 401, .inl (fun _ => 0))), (q17, .inl (ca 0, 400, .inl (fun _ => 0)))] H := hP
  have hD : va_D A [(h0, .inr (2, [.null, .ref q8, .null, .null])), (q8, .inl (ca 0, 401, .inl (fun _ => 0))), (q17, .inl (ca 0, 400, .inl (fun _ => 0)))] := hD
  refine W.widen (k := 2) (n := 801) (Nat.le_of_ble_eq_true rfl) (Nat.le_of_ble_eq_true rfl) ?_
  refine va_putF (D := D) (ci := 2) (v := .ref q17) (ty := .array .int) (C := tn_R2) (T := tn_T2) (N := 4) hx hb hts tn_iw2 tn_ty2 tn_to2 tn_nm2 hown hK hP hD hS 0 rfl rfl 2 (by decide) (hts (.fieldLink tn_R2 15 tn_R2 "next" "[I") tn_wc34) (fun _ h9 => h9) rfl hin rfl (by decide +kernel) rfl rfl (Nat.le_of_ble_eq_true rfl) tn_i2_19 (fun H locs hP hD hS => ?_)
  have hP : va_P D tn_cl [(h0, .inr (2, [.null, .ref q8, .ref q17, .null])), (q8, .inl (ca 0, 401, .inl (fun _ => 0))), (q17, .inl (ca 0, 400, .inl (fun _ => 0)))] H := hP
  have hD : va_D A [(h0, .inr (2, [.null, .ref q8, .ref q17, .null])), (q8, .inl (ca 0, 401, .inl (fun _ => 0))), (q17, .inl (ca 0, 400, .inl (fun _ => 0)))] := hD
  refine lv_aload_n hx hb tn_i2_22 rfl (lv_at hl 0 rfl) ?_
  refine lv_sipush (v := 400) hx hb tn_i2_23 (by decide) ?_
  refine tn_newI (N := 400) (ca := ca) hx hb hts hK hP hD hS hA (by decide) (by decide) (by decide) (Nat.le_of_ble_eq_true rfl) (Nat.le_of_ble_eq_true rfl) tn_i2_26 (fun q26 H hP hD hS => ?_)
  have hP : va_P D tn_cl [(h0, .inr (2, [.null, .ref q8, .ref q17, .null])), (q8, .inl (ca 0, 401, .inl (fun _ => 0))), (q17, .inl (ca 0, 400, .inl (fun _ => 0))), (q26, .inl (ca 0, 400, .inl (fun _ => 0)))] H := hP
  have hD : va_D A [(h0, .inr (2, [.null, .ref q8, .ref q17, .null])), (q8, .inl (ca 0, 401, .inl (fun _ => 0))), (q17, .inl (ca 0, 400, .inl (fun _ => 0))), (q26, .inl (ca 0, 400, .inl (fun _ => 0)))] := hD
  refine W.widen (k := 3) (n := 1201) (Nat.le_of_ble_eq_true rfl) (Nat.le_of_ble_eq_true rfl) ?_
  refine va_putF (D := D) (ci := 2) (v := .ref q26) (ty := .array .int) (C := tn_R2) (T := tn_T2) (N := 4) hx hb hts tn_iw2 tn_ty2 tn_to2 tn_nm2 hown hK hP hD hS 0 rfl rfl 3 (by decide) (hts (.fieldLink tn_R2 18 tn_R2 "print" "[I") tn_wc35) (fun _ h9 => h9) rfl hin rfl (by decide +kernel) rfl rfl (Nat.le_of_ble_eq_true rfl) tn_i2_28 (fun H locs hP hD hS => ?_)
  have hP : va_P D tn_cl [(h0, .inr (2, [.null, .ref q8, .ref q17, .ref q26])), (q8, .inl (ca 0, 401, .inl (fun _ => 0))), (q17, .inl (ca 0, 400, .inl (fun _ => 0))), (q26, .inl (ca 0, 400, .inl (fun _ => 0)))] H := hP
  have hD : va_D A [(h0, .inr (2, [.null, .ref q8, .ref q17, .ref q26])), (q8, .inl (ca 0, 401, .inl (fun _ => 0))), (q17, .inl (ca 0, 400, .inl (fun _ => 0))), (q26, .inl (ca 0, 400, .inl (fun _ => 0)))] := hD
  refine lv_aload_n hx hb tn_i2_31 rfl (lv_at hl 0 rfl) ?_
  refine lv_aload_n hx hb tn_i2_32 rfl (lv_at hl 1 rfl) ?_
  refine va_putF (D := D) (ci := 2) (v := .ref g0) (ty := .object "TermNet$Groups") (C := tn_R2) (T := tn_T2) (N := 4) hx hb hts tn_iw2 tn_ty2 tn_to2 tn_nm2 hown hK hP hD hS 0 rfl rfl 0 (by decide) (hts (.fieldLink tn_R2 21 tn_R2 "groups" "LTermNet$Groups;") tn_wc36) (fun _ h9 => h9) rfl hin rfl (by decide +kernel) rfl rfl (Nat.le_of_ble_eq_true rfl) tn_i2_33 (fun H locs hP hD hS => ?_)
  have hP : va_P D tn_cl [(h0, .inr (2, [.ref g0, .ref q8, .ref q17, .ref q26])), (q8, .inl (ca 0, 401, .inl (fun _ => 0))), (q17, .inl (ca 0, 400, .inl (fun _ => 0))), (q26, .inl (ca 0, 400, .inl (fun _ => 0)))] H := hP
  have hD : va_D A [(h0, .inr (2, [.ref g0, .ref q8, .ref q17, .ref q26])), (q8, .inl (ca 0, 401, .inl (fun _ => 0))), (q17, .inl (ca 0, 400, .inl (fun _ => 0))), (q26, .inl (ca 0, 400, .inl (fun _ => 0)))] := hD
  have hP9 : va_P D tn_cl ([(h0, .inr (2, [.ref g0, .ref q8, .ref q17, .ref q26])), (q8, .inl (ca 0, 401, .inl (fun _ => 0))), (q17, .inl (ca 0, 400, .inl (fun _ => 0))), (q26, .inl (ca 0, 400, .inl (fun _ => 0)))]) H := by
    exact hP.sub [0, 1, 2, 3] rfl
  have hD9 : va_D A ([(h0, .inr (2, [.ref g0, .ref q8, .ref q17, .ref q26])), (q8, .inl (ca 0, 401, .inl (fun _ => 0))), (q17, .inl (ca 0, 400, .inl (fun _ => 0))), (q26, .inl (ca 0, 400, .inl (fun _ => 0)))]) := by
    exact hD.sub [0, 1, 2, 3] (by decide) rfl
  exact W.vret hx hb hr (fun t ht hW => ⟨⟨(fun k => [q8, q17, q26].getD k 0), rfl, trivial, by rw [ht]; exact hP9, hD9⟩, hS.F ht⟩) hS.2.2 tn_i2_36
theorem tn_y4_cd : Cond.code tn_y4 prog_1_method_1_code 1 none ∈ tn_TS := tn_wc4
theorem tn_i4_0 : decode prog_1_method_1_code 0 = .ok (.aload_n 0, 1) := by decide +kernel
theorem tn_i4_1 : decode prog_1_method_1_code 1 = .ok (.invokespecial 1, 3) := by decide +kernel
theorem tn_i4_4 : decode prog_1_method_1_code 4 = .ok (.aload_n 0, 1) := by decide +kernel
theorem tn_i4_5 : decode prog_1_method_1_code 5 = .ok (.new 7, 3) := by decide +kernel
theorem tn_i4_8 : decode prog_1_method_1_code 8 = .ok (.dup, 1) := by decide +kernel
theorem tn_i4_9 : decode prog_1_method_1_code 9 = .ok (.invokespecial 9, 3) := by decide +kernel
theorem tn_i4_12 : decode prog_1_method_1_code 12 = .ok (.putfield 10, 3) := by decide +kernel
theorem tn_i4_15 : decode prog_1_method_1_code 15 = .ok (.aload_n 0, 1) := by decide +kernel
theorem tn_i4_16 : decode prog_1_method_1_code 16 = .ok (.new 16, 3) := by decide +kernel
theorem tn_i4_19 : decode prog_1_method_1_code 19 = .ok (.dup, 1) := by decide +kernel
theorem tn_i4_20 : decode prog_1_method_1_code 20 = .ok (.aload_n 0, 1) := by decide +kernel
theorem tn_i4_21 : decode prog_1_method_1_code 21 = .ok (.getfield 10, 3) := by decide +kernel
theorem tn_i4_24 : decode prog_1_method_1_code 24 = .ok (.invokespecial 18, 3) := by decide +kernel
theorem tn_i4_27 : decode prog_1_method_1_code 27 = .ok (.putfield 21, 3) := by decide +kernel
theorem tn_i4_30 : decode prog_1_method_1_code 30 = .ok (.aload_n 0, 1) := by decide +kernel
theorem tn_i4_31 : decode prog_1_method_1_code 31 = .ok (.new 25, 3) := by decide +kernel
theorem tn_i4_34 : decode prog_1_method_1_code 34 = .ok (.dup, 1) := by decide +kernel
theorem tn_i4_35 : decode prog_1_method_1_code 35 = .ok (.aload_n 0, 1) := by decide +kernel
theorem tn_i4_36 : decode prog_1_method_1_code 36 = .ok (.getfield 21, 3) := by decide +kernel
theorem tn_i4_39 : decode prog_1_method_1_code 39 = .ok (.invokespecial 27, 3) := by decide +kernel
theorem tn_i4_42 : decode prog_1_method_1_code 42 = .ok (.putfield 30, 3) := by decide +kernel
theorem tn_i4_45 : decode prog_1_method_1_code 45 = .ok (.aload_n 0, 1) := by decide +kernel
theorem tn_i4_46 : decode prog_1_method_1_code 46 = .ok (.new 34, 3) := by decide +kernel
theorem tn_i4_49 : decode prog_1_method_1_code 49 = .ok (.dup, 1) := by decide +kernel
theorem tn_i4_50 : decode prog_1_method_1_code 50 = .ok (.aload_n 0, 1) := by decide +kernel
theorem tn_i4_51 : decode prog_1_method_1_code 51 = .ok (.getfield 21, 3) := by decide +kernel
theorem tn_i4_54 : decode prog_1_method_1_code 54 = .ok (.invokespecial 36, 3) := by decide +kernel
theorem tn_i4_57 : decode prog_1_method_1_code 57 = .ok (.putfield 37, 3) := by decide +kernel
theorem tn_i4_60 : decode prog_1_method_1_code 60 = .ok (.aload_n 0, 1) := by decide +kernel
theorem tn_i4_61 : decode prog_1_method_1_code 61 = .ok (.bipush 20, 2) := by decide +kernel
theorem tn_i4_63 : decode prog_1_method_1_code 63 = .ok (.newarray .int, 2) := by decide +kernel
theorem tn_i4_65 : decode prog_1_method_1_code 65 = .ok (.putfield 41, 3) := by decide +kernel
theorem tn_i4_68 : decode prog_1_method_1_code 68 = .ok (.aload_n 0, 1) := by decide +kernel
theorem tn_i4_69 : decode prog_1_method_1_code 69 = .ok (.bipush 20, 2) := by decide +kernel
theorem tn_i4_71 : decode prog_1_method_1_code 71 = .ok (.newarray .int, 2) := by decide +kernel
theorem tn_i4_73 : decode prog_1_method_1_code 73 = .ok (.putfield 45, 3) := by decide +kernel
theorem tn_i4_76 : decode prog_1_method_1_code 76 = .ok (.aload_n 0, 1) := by decide +kernel
theorem tn_i4_77 : decode prog_1_method_1_code 77 = .ok (.bipush 20, 2) := by decide +kernel
theorem tn_i4_79 : decode prog_1_method_1_code 79 = .ok (.newarray .int, 2) := by decide +kernel
theorem tn_i4_81 : decode prog_1_method_1_code 81 = .ok (.putfield 48, 3) := by decide +kernel
theorem tn_i4_84 : decode prog_1_method_1_code 84 = .ok (.aload_n 0, 1) := by decide +kernel
theorem tn_i4_85 : decode prog_1_method_1_code 85 = .ok (.iconst 0, 1) := by decide +kernel
theorem tn_i4_86 : decode prog_1_method_1_code 86 = .ok (.putfield 51, 3) := by decide +kernel
theorem tn_i4_89 : decode prog_1_method_1_code 89 = .ok (.aload_n 0, 1) := by decide +kernel
theorem tn_i4_90 : decode prog_1_method_1_code 90 = .ok (.iconst 0, 1) := by decide +kernel
theorem tn_i4_91 : decode prog_1_method_1_code 91 = .ok (.putfield 55, 3) := by decide +kernel
theorem tn_i4_94 : decode prog_1_method_1_code 94 = .ok (.return_, 1) := by decide +kernel
set_option maxHeartbeats 4000000 in
set_option maxRecDepth 100000 in
theorem tn_c4_init (l : Launch) (D : va_G) (ca : Nat → ClassId) (h0 : Nat) (sz : Nat) : Met l tn_y4 (Cond.code tn_y4 prog_1_method_1_code 1 none :: tn_TS) ({ frames := 2, cells := 22, slots := 6524, locals := 33 }) (va_Pc [.ref h0] (fun U => U.heap.size = sz ∧ va_P D tn_cl [(h0, .inr (4, [.null, .null, .null, .null, .null, .null, .null, .int 0, .int 0]))] U.heap ∧ va_K D tn_cl (am_ty ca) U ∧ va_D (fun _ => True) [(h0, .inr (4, [.null, .null, .null, .null, .null, .null, .null, .int 0, .int 0]))] ∧ va_Nw (.methodLinkNest tn_R4 9 tn_y1 tn_R4) U)) (va_Qv (fun a : Nat → Nat => a 0 = h0) (fun a t => va_P D tn_cl (am_W tn_X a ca tn_z) t.heap ∧ va_D (va_A [(h0, .inr (4, [.null, .null, .null, .null, .null, .null, .null, .int 0, .int 0]))] sz) (am_W tn_X a ca tn_z)) (va_A [(h0, .inr (4, [.null, .null, .null, .null, .null, .null, .null, .int 0, .int 0]))] sz)) 22 6524 (va_A [(h0, .inr (4, [.null, .null, .null, .null, .null, .null, .null, .int 0, .int 0]))] sz) := by
  refine Met.ofW (cc := prog_1_method_1_code) (maxL := 1) (ret := none) (by decide) rfl ?_
  intro p e s m args below meth c s₁ B hml hv
  obtain ⟨rfl, hsz, hP, hK, hD0, hnw⟩ := hv
  have hx := B.exec
  have hb := B.bytes
  have hr := B.returns
  have hts : ∀ w ∈ tn_TS, w.before _ s = true := fun w hw => atoms_spec (ws := Cond.code tn_y4 prog_1_method_1_code 1 none :: tn_TS) B.pre w (List.mem_cons_of_mem _ hw)
  have hown : s.vm.findClass tn_R4 = some m.cls := findClass_of_methodNamed B.named
  have hlocks := B.notSynchronized
  have hin : meth.name = "<init>" := (name_of_methodNamed B.named B.method).1
  subst hsz
  have hD := hD0.self (sz := s.heap.size)
  generalize hAe : va_A [(h0, .inr (4, [.null, .null, .null, .null, .null, .null, .null, .int 0, .int 0]))] s.heap.size = A at hD ⊢
  have hA : ∀ q : Nat, s.heap.size ≤ q → A q := fun q h => by rw [← hAe]; exact Or.inr h
  have hS : va_S A s.heap s.heap [] := va_S.rf
  have hl := lv_entry ([.ref h0]) (n := 1) (Nat.le_of_ble_eq_true rfl)
  rw [lg_entry_eq]
  generalize (lg_sl ([.ref h0]) ++ List.replicate (1 - (lg_sl ([.ref h0])).length) Slot.unset).toArray = ls at hl ⊢
  have hl : lv_has ls 1 [(0, .ref h0)] := hl
  refine lv_aload_n hx hb tn_i4_0 rfl (lv_at hl 0 rfl) ?_
  refine W.objInit hx hb hown (hts (.methodLink tn_R4 1 objectInit) tn_wc37) (hts (.instanceMethod objectInit) tn_wc9) (hts (.code objectInit ⟨#[0xb1]⟩ 1 none) tn_wc10) rfl (by rw [hml]; exact hl.1) rfl tn_i4_1 (Nat.le_of_ble_eq_true rfl) (Nat.le_of_ble_eq_true rfl) ?_
  refine W.eq (g2 := F0 m 4 ls []) rfl ?_
  refine lv_aload_n hx hb tn_i4_4 rfl (lv_at hl 0 rfl) ?_
  refine va_new (ci := 1) (fs := [.null, .null, .null, .int 0, .int 0]) (C := tn_R1) (T := tn_T1) (N := 5) hx hb hts tn_iw1 tn_ty1 tn_to1 hown (hts (.classLink tn_R4 7 tn_R1) tn_wc38) (hts (.instantiable tn_R1 5) tn_wc39) (hts (.initialized tn_R1) tn_wc40) hK hP hD hS hA rfl (by decide) (Nat.le_of_ble_eq_true rfl) (Nat.le_of_ble_eq_true rfl) tn_i4_5 (fun q5 H hP hD hS => ?_)
  have hP : va_P D tn_cl [(h0, .inr (4, [.null, .null, .null, .null, .null, .null, .null, .int 0, .int 0])), (q5, .inr (1, [.null, .null, .null, .int 0, .int 0]))] H := hP
  have hD : va_D A [(h0, .inr (4, [.null, .null, .null, .null, .null, .null, .null, .int 0, .int 0])), (q5, .inr (1, [.null, .null, .null, .int 0, .int 0]))] := hD
  refine W.widen (k := 1) (n := 5) (Nat.le_of_ble_eq_true rfl) (Nat.le_of_ble_eq_true rfl) ?_
  refine lv_dup hx hb tn_i4_8 rfl ?_
  have hPc := hP.sub (ws' := [(q5, .inr (1, [.null, .null, .null, .int 0, .int 0]))]) [1] rfl
  have hDc := hD.sub (ws' := [(q5, .inr (1, [.null, .null, .null, .int 0, .int 0]))]) [1] (by decide) rfl
  have hFc := va_free (wc := [(q5, .inr (1, [.null, .null, .null, .int 0, .int 0]))]) hD hS hA [1] rfl
  refine va_callv (va_runIN (As := []) (rest := [.ref q5, .ref h0]) ⟨hx, hb, hml, hown, hts⟩ (tn_c1_init l D ca q5 H.size) ⟨va_cnB 0 hts (tn_gi tn_y1_cd) rfl rfl rfl hnw (hts (.initialized tn_R1) tn_wc40) (by decide +kernel) ⟨Nat.le_of_ble_eq_true rfl, Nat.le_of_ble_eq_true rfl⟩, rfl, hts (.instanceMethod tn_y1) tn_wc41⟩ ⟨fun a U g mk q => by obtain ⟨q0, q1, qP, qK, qD⟩ := q; exact ⟨q0, q1, qP, va_K.moved (u := U) (U := U.calling g mk a) (Vm.Alike.refl U.vm) qK, qD⟩, fun U hU hW => ⟨rfl, by rw [hU], by rw [hU]; exact hPc, va_K.moved hW.alike hK, hDc.weaken (fun _ _ _ _ => trivial)⟩⟩ rfl rfl hl.1 rfl (lv_room (Nat.le_of_ble_eq_true rfl)) tn_i4_9 ⟨Nat.le_of_ble_eq_true rfl, Nat.le_of_ble_eq_true rfl⟩) hS (fun q _ h => hFc q h) hFc (fun u9 t H1 locs ht hvm h5 hB hz1 hk1 hS => ?_)
  obtain ⟨hP1, hD1⟩ := hB
  rw [ht] at hP1
  obtain ⟨hP, hD⟩ := va_join (wr := [(h0, .inr (4, [.null, .null, .null, .null, .null, .null, .null, .int 0, .int 0]))]) (w1 := [(q5, .inr (1, [.ref (u9 0), .ref (u9 1), .ref (u9 2), .int 0, .int 0])), ((u9 0), .inl (ca 0, 40, .inl (fun _ => 0))), ((u9 1), .inl (ca 0, 400, .inl (fun _ => 0))), ((u9 2), .inl (ca 0, 1200, .inl (fun _ => 0)))]) hP hD [1] [0] rfl rfl (by decide) (by decide) hk1 hFc hP1 hD1
  generalize H1 = H at hP hS ⊢
  have hP : va_P D tn_cl [(h0, .inr (4, [.null, .null, .null, .null, .null, .null, .null, .int 0, .int 0])), (q5, .inr (1, [.ref (u9 0), .ref (u9 1), .ref (u9 2), .int 0, .int 0])), ((u9 0), .inl (ca 0, 40, .inl (fun _ => 0))), ((u9 1), .inl (ca 0, 400, .inl (fun _ => 0))), ((u9 2), .inl (ca 0, 1200, .inl (fun _ => 0)))] H := hP
  have hD : va_D A [(h0, .inr (4, [.null, .null, .null, .null, .null, .null, .null, .int 0, .int 0])), (q5, .inr (1, [.ref (u9 0), .ref (u9 1), .ref (u9 2), .int 0, .int 0])), ((u9 0), .inl (ca 0, 40, .inl (fun _ => 0))), ((u9 1), .inl (ca 0, 400, .inl (fun _ => 0))), ((u9 2), .inl (ca 0, 1200, .inl (fun _ => 0)))] := hD
  refine W.widen (k := 4) (n := 1645) (Nat.le_of_ble_eq_true rfl) (Nat.le_of_ble_eq_true rfl) ?_
  refine va_putF (D := D) (ci := 4) (v := .ref q5) (ty := .object "TermNet$Told") (C := tn_R4) (T := tn_T4) (N := 9) hx hb hts tn_iw4 tn_ty4 tn_to4 tn_nm4 hown hK hP hD hS 0 rfl rfl 0 (by decide) (hts (.fieldLink tn_R4 10 tn_R4 "told" "LTermNet$Told;") tn_wc42) (fun _ h9 => h9) rfl hin rfl (by decide +kernel) rfl rfl (Nat.le_of_ble_eq_true rfl) tn_i4_12 (fun H locs hP hD hS => ?_)
  have hP : va_P D tn_cl [(h0, .inr (4, [.ref q5, .null, .null, .null, .null, .null, .null, .int 0, .int 0])), (q5, .inr (1, [.ref (u9 0), .ref (u9 1), .ref (u9 2), .int 0, .int 0])), ((u9 0), .inl (ca 0, 40, .inl (fun _ => 0))), ((u9 1), .inl (ca 0, 400, .inl (fun _ => 0))), ((u9 2), .inl (ca 0, 1200, .inl (fun _ => 0)))] H := hP
  have hD : va_D A [(h0, .inr (4, [.ref q5, .null, .null, .null, .null, .null, .null, .int 0, .int 0])), (q5, .inr (1, [.ref (u9 0), .ref (u9 1), .ref (u9 2), .int 0, .int 0])), ((u9 0), .inl (ca 0, 40, .inl (fun _ => 0))), ((u9 1), .inl (ca 0, 400, .inl (fun _ => 0))), ((u9 2), .inl (ca 0, 1200, .inl (fun _ => 0)))] := hD
  refine lv_aload_n hx hb tn_i4_15 rfl (lv_at hl 0 rfl) ?_
  refine va_new (ci := 0) (fs := [.null, .null, .null, .null, .null, .int 0]) (C := tn_R0) (T := tn_T0) (N := 6) hx hb hts tn_iw0 tn_ty0 tn_to0 hown (hts (.classLink tn_R4 16 tn_R0) tn_wc43) (hts (.instantiable tn_R0 6) tn_wc44) (hts (.initialized tn_R0) tn_wc45) hK hP hD hS hA rfl (by decide) (Nat.le_of_ble_eq_true rfl) (Nat.le_of_ble_eq_true rfl) tn_i4_16 (fun q16 H hP hD hS => ?_)
  have hP : va_P D tn_cl [(h0, .inr (4, [.ref q5, .null, .null, .null, .null, .null, .null, .int 0, .int 0])), (q5, .inr (1, [.ref (u9 0), .ref (u9 1), .ref (u9 2), .int 0, .int 0])), ((u9 0), .inl (ca 0, 40, .inl (fun _ => 0))), ((u9 1), .inl (ca 0, 400, .inl (fun _ => 0))), ((u9 2), .inl (ca 0, 1200, .inl (fun _ => 0))), (q16, .inr (0, [.null, .null, .null, .null, .null, .int 0]))] H := hP
  have hD : va_D A [(h0, .inr (4, [.ref q5, .null, .null, .null, .null, .null, .null, .int 0, .int 0])), (q5, .inr (1, [.ref (u9 0), .ref (u9 1), .ref (u9 2), .int 0, .int 0])), ((u9 0), .inl (ca 0, 40, .inl (fun _ => 0))), ((u9 1), .inl (ca 0, 400, .inl (fun _ => 0))), ((u9 2), .inl (ca 0, 1200, .inl (fun _ => 0))), (q16, .inr (0, [.null, .null, .null, .null, .null, .int 0]))] := hD
  refine W.widen (k := 5) (n := 1651) (Nat.le_of_ble_eq_true rfl) (Nat.le_of_ble_eq_true rfl) ?_
  refine lv_dup hx hb tn_i4_19 rfl ?_
  refine lv_aload_n hx hb tn_i4_20 rfl (lv_at hl 0 rfl) ?_
  refine va_get (D := D) (ci := 4) (v := .ref q5) (C := tn_R4) (T := tn_T4) (N := 9) hx hb hts tn_iw4 hown hK hP 0 rfl rfl 0 (by decide) (hts (.fieldLink tn_R4 10 tn_R4 "told" "LTermNet$Told;") tn_wc42) (fun x9 h9 => h9) rfl tn_i4_21 ?_
  have hPc := hP.sub (ws' := [(q16, .inr (0, [.null, .null, .null, .null, .null, .int 0]))]) [5] rfl
  have hDc := hD.sub (ws' := [(q16, .inr (0, [.null, .null, .null, .null, .null, .int 0]))]) [5] (by decide) rfl
  have hFc := va_free (wc := [(q16, .inr (0, [.null, .null, .null, .null, .null, .int 0]))]) hD hS hA [5] rfl
  refine va_callv (va_runI (As := [.ref q5]) (rest := [.ref q16, .ref h0]) ⟨hx, hb, hml, hown, hts⟩ (tn_c0_init l D ca q16 q5 H.size) (cwI 1 hts (tn_gi tn_y0_cd) rfl rfl rfl (hts (.initialized tn_R0) tn_wc45) (hts (.methodLink tn_R4 18 tn_y0) tn_wc46) (hts (.instanceMethod tn_y0) tn_wc47) rfl (by decide +kernel) ⟨Nat.le_of_ble_eq_true rfl, Nat.le_of_ble_eq_true rfl⟩) ⟨fun a U g mk q => by obtain ⟨q0, q1, qP, qK, qD⟩ := q; exact ⟨q0, q1, qP, va_K.moved (u := U) (U := U.calling g mk a) (Vm.Alike.refl U.vm) qK, qD⟩, fun U hU hW => ⟨rfl, by rw [hU], by rw [hU]; exact hPc, va_K.moved hW.alike hK, hDc.weaken (fun _ _ _ _ => trivial)⟩⟩ rfl rfl hl.1 rfl (lv_room (Nat.le_of_ble_eq_true rfl)) tn_i4_24 ⟨Nat.le_of_ble_eq_true rfl, Nat.le_of_ble_eq_true rfl⟩) hS (fun q _ h => hFc q h) hFc (fun u24 t H1 locs ht hvm h5 hB hz1 hk1 hS => ?_)
  obtain ⟨hP1, hD1⟩ := hB
  rw [ht] at hP1
  obtain ⟨hP, hD⟩ := va_join (wr := [(h0, .inr (4, [.ref q5, .null, .null, .null, .null, .null, .null, .int 0, .int 0])), (q5, .inr (1, [.ref (u9 0), .ref (u9 1), .ref (u9 2), .int 0, .int 0])), ((u9 0), .inl (ca 0, 40, .inl (fun _ => 0))), ((u9 1), .inl (ca 0, 400, .inl (fun _ => 0))), ((u9 2), .inl (ca 0, 1200, .inl (fun _ => 0)))]) (w1 := [(q16, .inr (0, [.ref q5, .ref (u24 0), .ref (u24 1), .ref (u24 2), .ref (u24 3), .int 0])), ((u24 0), .inl (ca 0, 400, .inl (fun _ => 0))), ((u24 1), .inl (ca 0, 400, .inl (fun _ => 0))), ((u24 2), .inl (ca 0, 400, .inl (fun _ => 0))), ((u24 3), .inl (ca 0, 400, .inl (fun _ => 0)))]) hP hD [5] [0, 1, 2, 3, 4] rfl rfl (by decide) (by decide) hk1 hFc hP1 hD1
  generalize H1 = H at hP hS ⊢
  have hP : va_P D tn_cl [(h0, .inr (4, [.ref q5, .null, .null, .null, .null, .null, .null, .int 0, .int 0])), (q5, .inr (1, [.ref (u9 0), .ref (u9 1), .ref (u9 2), .int 0, .int 0])), ((u9 0), .inl (ca 0, 40, .inl (fun _ => 0))), ((u9 1), .inl (ca 0, 400, .inl (fun _ => 0))), ((u9 2), .inl (ca 0, 1200, .inl (fun _ => 0))), (q16, .inr (0, [.ref q5, .ref (u24 0), .ref (u24 1), .ref (u24 2), .ref (u24 3), .int 0])), ((u24 0), .inl (ca 0, 400, .inl (fun _ => 0))), ((u24 1), .inl (ca 0, 400, .inl (fun _ => 0))), ((u24 2), .inl (ca 0, 400, .inl (fun _ => 0))), ((u24 3), .inl (ca 0, 400, .inl (fun _ => 0)))] H := hP
  have hD : va_D A [(h0, .inr (4, [.ref q5, .null, .null, .null, .null, .null, .null, .int 0, .int 0])), (q5, .inr (1, [.ref (u9 0), .ref (u9 1), .ref (u9 2), .int 0, .int 0])), ((u9 0), .inl (ca 0, 40, .inl (fun _ => 0))), ((u9 1), .inl (ca 0, 400, .inl (fun _ => 0))), ((u9 2), .inl (ca 0, 1200, .inl (fun _ => 0))), (q16, .inr (0, [.ref q5, .ref (u24 0), .ref (u24 1), .ref (u24 2), .ref (u24 3), .int 0])), ((u24 0), .inl (ca 0, 400, .inl (fun _ => 0))), ((u24 1), .inl (ca 0, 400, .inl (fun _ => 0))), ((u24 2), .inl (ca 0, 400, .inl (fun _ => 0))), ((u24 3), .inl (ca 0, 400, .inl (fun _ => 0)))] := hD
  refine W.widen (k := 9) (n := 3251) (Nat.le_of_ble_eq_true rfl) (Nat.le_of_ble_eq_true rfl) ?_
  refine va_putF (D := D) (ci := 4) (v := .ref q16) (ty := .object "TermNet$Groups") (C := tn_R4) (T := tn_T4) (N := 9) hx hb hts tn_iw4 tn_ty4 tn_to4 tn_nm4 hown hK hP hD hS 0 rfl rfl 1 (by decide) (hts (.fieldLink tn_R4 21 tn_R4 "groups" "LTermNet$Groups;") tn_wc48) (fun _ h9 => h9) rfl hin rfl (by decide +kernel) rfl rfl (Nat.le_of_ble_eq_true rfl) tn_i4_27 (fun H locs hP hD hS => ?_)
  have hP : va_P D tn_cl [(h0, .inr (4, [.ref q5, .ref q16, .null, .null, .null, .null, .null, .int 0, .int 0])), (q5, .inr (1, [.ref (u9 0), .ref (u9 1), .ref (u9 2), .int 0, .int 0])), ((u9 0), .inl (ca 0, 40, .inl (fun _ => 0))), ((u9 1), .inl (ca 0, 400, .inl (fun _ => 0))), ((u9 2), .inl (ca 0, 1200, .inl (fun _ => 0))), (q16, .inr (0, [.ref q5, .ref (u24 0), .ref (u24 1), .ref (u24 2), .ref (u24 3), .int 0])), ((u24 0), .inl (ca 0, 400, .inl (fun _ => 0))), ((u24 1), .inl (ca 0, 400, .inl (fun _ => 0))), ((u24 2), .inl (ca 0, 400, .inl (fun _ => 0))), ((u24 3), .inl (ca 0, 400, .inl (fun _ => 0)))] H := hP
  have hD : va_D A [(h0, .inr (4, [.ref q5, .ref q16, .null, .null, .null, .null, .null, .int 0, .int 0])), (q5, .inr (1, [.ref (u9 0), .ref (u9 1), .ref (u9 2), .int 0, .int 0])), ((u9 0), .inl (ca 0, 40, .inl (fun _ => 0))), ((u9 1), .inl (ca 0, 400, .inl (fun _ => 0))), ((u9 2), .inl (ca 0, 1200, .inl (fun _ => 0))), (q16, .inr (0, [.ref q5, .ref (u24 0), .ref (u24 1), .ref (u24 2), .ref (u24 3), .int 0])), ((u24 0), .inl (ca 0, 400, .inl (fun _ => 0))), ((u24 1), .inl (ca 0, 400, .inl (fun _ => 0))), ((u24 2), .inl (ca 0, 400, .inl (fun _ => 0))), ((u24 3), .inl (ca 0, 400, .inl (fun _ => 0)))] := hD
  refine lv_aload_n hx hb tn_i4_30 rfl (lv_at hl 0 rfl) ?_
  refine va_new (ci := 3) (fs := [.null, .null, .null, .null, .null, .null, .int 0, .int 0]) (C := tn_R3) (T := tn_T3) (N := 8) hx hb hts tn_iw3 tn_ty3 tn_to3 hown (hts (.classLink tn_R4 25 tn_R3) tn_wc49) (hts (.instantiable tn_R3 8) tn_wc50) (hts (.initialized tn_R3) tn_wc51) hK hP hD hS hA rfl (by decide) (Nat.le_of_ble_eq_true rfl) (Nat.le_of_ble_eq_true rfl) tn_i4_31 (fun q31 H hP hD hS => ?_)
  have hP : va_P D tn_cl [(h0, .inr (4, [.ref q5, .ref q16, .null, .null, .null, .null, .null, .int 0, .int 0])), (q5, .inr (1, [.ref (u9 0), .ref (u9 1), .ref (u9 2), .int 0, .int 0])), ((u9 0), .inl (ca 0, 40, .inl (fun _ => 0))), ((u9 1), .inl (ca 0, 400, .inl (fun _ => 0))), ((u9 2), .inl (ca 0, 1200, .inl (fun _ => 0))), (q16, .inr (0, [.ref q5, .ref (u24 0), .ref (u24 1), .ref (u24 2), .ref (u24 3), .int 0])), ((u24 0), .inl (ca 0, 400, .inl (fun _ => 0))), ((u24 1), .inl (ca 0, 400, .inl (fun _ => 0))), ((u24 2), .inl (ca 0, 400, .inl (fun _ => 0))), ((u24 3), .inl (ca 0, 400, .inl (fun _ => 0))), (q31, .inr (3, [.null, .null, .null, .null, .null, .null, .int 0, .int 0]))] H := hP
  have hD : va_D A [(h0, .inr (4, [.ref q5, .ref q16, .null, .null, .null, .null, .null, .int 0, .int 0])), (q5, .inr (1, [.ref (u9 0), .ref (u9 1), .ref (u9 2), .int 0, .int 0])), ((u9 0), .inl (ca 0, 40, .inl (fun _ => 0))), ((u9 1), .inl (ca 0, 400, .inl (fun _ => 0))), ((u9 2), .inl (ca 0, 1200, .inl (fun _ => 0))), (q16, .inr (0, [.ref q5, .ref (u24 0), .ref (u24 1), .ref (u24 2), .ref (u24 3), .int 0])), ((u24 0), .inl (ca 0, 400, .inl (fun _ => 0))), ((u24 1), .inl (ca 0, 400, .inl (fun _ => 0))), ((u24 2), .inl (ca 0, 400, .inl (fun _ => 0))), ((u24 3), .inl (ca 0, 400, .inl (fun _ => 0))), (q31, .inr (3, [.null, .null, .null, .null, .null, .null, .int 0, .int 0]))] := hD
  refine W.widen (k := 10) (n := 3259) (Nat.le_of_ble_eq_true rfl) (Nat.le_of_ble_eq_true rfl) ?_
  refine lv_dup hx hb tn_i4_34 rfl ?_
  refine lv_aload_n hx hb tn_i4_35 rfl (lv_at hl 0 rfl) ?_
  refine va_get (D := D) (ci := 4) (v := .ref q16) (C := tn_R4) (T := tn_T4) (N := 9) hx hb hts tn_iw4 hown hK hP 0 rfl rfl 1 (by decide) (hts (.fieldLink tn_R4 21 tn_R4 "groups" "LTermNet$Groups;") tn_wc48) (fun x9 h9 => h9) rfl tn_i4_36 ?_
  have hPc := hP.sub (ws' := [(q31, .inr (3, [.null, .null, .null, .null, .null, .null, .int 0, .int 0]))]) [10] rfl
  have hDc := hD.sub (ws' := [(q31, .inr (3, [.null, .null, .null, .null, .null, .null, .int 0, .int 0]))]) [10] (by decide) rfl
  have hFc := va_free (wc := [(q31, .inr (3, [.null, .null, .null, .null, .null, .null, .int 0, .int 0]))]) hD hS hA [10] rfl
  refine va_callv (va_runI (As := [.ref q16]) (rest := [.ref q31, .ref h0]) ⟨hx, hb, hml, hown, hts⟩ (tn_c3_init l D ca q31 q16 H.size) (cwI 1 hts (tn_gi tn_y3_cd) rfl rfl rfl (hts (.initialized tn_R3) tn_wc51) (hts (.methodLink tn_R4 27 tn_y3) tn_wc52) (hts (.instanceMethod tn_y3) tn_wc53) rfl (by decide +kernel) ⟨Nat.le_of_ble_eq_true rfl, Nat.le_of_ble_eq_true rfl⟩) ⟨fun a U g mk q => by obtain ⟨q0, q1, qP, qK, qD⟩ := q; exact ⟨q0, q1, qP, va_K.moved (u := U) (U := U.calling g mk a) (Vm.Alike.refl U.vm) qK, qD⟩, fun U hU hW => ⟨rfl, by rw [hU], by rw [hU]; exact hPc, va_K.moved hW.alike hK, hDc.weaken (fun _ _ _ _ => trivial)⟩⟩ rfl rfl hl.1 rfl (lv_room (Nat.le_of_ble_eq_true rfl)) tn_i4_39 ⟨Nat.le_of_ble_eq_true rfl, Nat.le_of_ble_eq_true rfl⟩) hS (fun q _ h => hFc q h) hFc (fun u39 t H1 locs ht hvm h5 hB hz1 hk1 hS => ?_)
  obtain ⟨hP1, hD1⟩ := hB
  rw [ht] at hP1
  obtain ⟨hP, hD⟩ := va_join (wr := [(h0, .inr (4, [.ref q5, .ref q16, .null, .null, .null, .null, .null, .int 0, .int 0])), (q5, .inr (1, [.ref (u9 0), .ref (u9 1), .ref (u9 2), .int 0, .int 0])), ((u9 0), .inl (ca 0, 40, .inl (fun _ => 0))), ((u9 1), .inl (ca 0, 400, .inl (fun _ => 0))), ((u9 2), .inl (ca 0, 1200, .inl (fun _ => 0))), (q16, .inr (0, [.ref q5, .ref (u24 0), .ref (u24 1), .ref (u24 2), .ref (u24 3), .int 0])), ((u24 0), .inl (ca 0, 400, .inl (fun _ => 0))), ((u24 1), .inl (ca 0, 400, .inl (fun _ => 0))), ((u24 2), .inl (ca 0, 400, .inl (fun _ => 0))), ((u24 3), .inl (ca 0, 400, .inl (fun _ => 0)))]) (w1 := [(q31, .inr (3, [.ref q16, .ref (u39 0), .ref (u39 1), .ref (u39 2), .ref (u39 3), .ref (u39 4), .int 0, .int 0])), ((u39 0), .inl (ca 0, 400, .inl (fun _ => 0))), ((u39 1), .inl (ca 0, 400, .inl (fun _ => 0))), ((u39 2), .inl (ca 0, 400, .inl (fun _ => 0))), ((u39 3), .inl (ca 0, 400, .inl (fun _ => 0))), ((u39 4), .inl (ca 0, 400, .inl (fun _ => 0)))]) hP hD [10] [0, 1, 2, 3, 4, 5, 6, 7, 8, 9] rfl rfl (by decide) (by decide) hk1 hFc hP1 hD1
  generalize H1 = H at hP hS ⊢
  have hP : va_P D tn_cl [(h0, .inr (4, [.ref q5, .ref q16, .null, .null, .null, .null, .null, .int 0, .int 0])), (q5, .inr (1, [.ref (u9 0), .ref (u9 1), .ref (u9 2), .int 0, .int 0])), ((u9 0), .inl (ca 0, 40, .inl (fun _ => 0))), ((u9 1), .inl (ca 0, 400, .inl (fun _ => 0))), ((u9 2), .inl (ca 0, 1200, .inl (fun _ => 0))), (q16, .inr (0, [.ref q5, .ref (u24 0), .ref (u24 1), .ref (u24 2), .ref (u24 3), .int 0])), ((u24 0), .inl (ca 0, 400, .inl (fun _ => 0))), ((u24 1), .inl (ca 0, 400, .inl (fun _ => 0))), ((u24 2), .inl (ca 0, 400, .inl (fun _ => 0))), ((u24 3), .inl (ca 0, 400, .inl (fun _ => 0))), (q31, .inr (3, [.ref q16, .ref (u39 0), .ref (u39 1), .ref (u39 2), .ref (u39 3), .ref (u39 4), .int 0, .int 0])), ((u39 0), .inl (ca 0, 400, .inl (fun _ => 0))), ((u39 1), .inl (ca 0, 400, .inl (fun _ => 0))), ((u39 2), .inl (ca 0, 400, .inl (fun _ => 0))), ((u39 3), .inl (ca 0, 400, .inl (fun _ => 0))), ((u39 4), .inl (ca 0, 400, .inl (fun _ => 0)))] H := hP
  have hD : va_D A [(h0, .inr (4, [.ref q5, .ref q16, .null, .null, .null, .null, .null, .int 0, .int 0])), (q5, .inr (1, [.ref (u9 0), .ref (u9 1), .ref (u9 2), .int 0, .int 0])), ((u9 0), .inl (ca 0, 40, .inl (fun _ => 0))), ((u9 1), .inl (ca 0, 400, .inl (fun _ => 0))), ((u9 2), .inl (ca 0, 1200, .inl (fun _ => 0))), (q16, .inr (0, [.ref q5, .ref (u24 0), .ref (u24 1), .ref (u24 2), .ref (u24 3), .int 0])), ((u24 0), .inl (ca 0, 400, .inl (fun _ => 0))), ((u24 1), .inl (ca 0, 400, .inl (fun _ => 0))), ((u24 2), .inl (ca 0, 400, .inl (fun _ => 0))), ((u24 3), .inl (ca 0, 400, .inl (fun _ => 0))), (q31, .inr (3, [.ref q16, .ref (u39 0), .ref (u39 1), .ref (u39 2), .ref (u39 3), .ref (u39 4), .int 0, .int 0])), ((u39 0), .inl (ca 0, 400, .inl (fun _ => 0))), ((u39 1), .inl (ca 0, 400, .inl (fun _ => 0))), ((u39 2), .inl (ca 0, 400, .inl (fun _ => 0))), ((u39 3), .inl (ca 0, 400, .inl (fun _ => 0))), ((u39 4), .inl (ca 0, 400, .inl (fun _ => 0)))] := hD
  refine W.widen (k := 15) (n := 5259) (Nat.le_of_ble_eq_true rfl) (Nat.le_of_ble_eq_true rfl) ?_
  refine va_putF (D := D) (ci := 4) (v := .ref q31) (ty := .object "TermNet$Walk") (C := tn_R4) (T := tn_T4) (N := 9) hx hb hts tn_iw4 tn_ty4 tn_to4 tn_nm4 hown hK hP hD hS 0 rfl rfl 2 (by decide) (hts (.fieldLink tn_R4 30 tn_R4 "walk" "LTermNet$Walk;") tn_wc54) (fun _ h9 => h9) rfl hin rfl (by decide +kernel) rfl rfl (Nat.le_of_ble_eq_true rfl) tn_i4_42 (fun H locs hP hD hS => ?_)
  have hP : va_P D tn_cl [(h0, .inr (4, [.ref q5, .ref q16, .ref q31, .null, .null, .null, .null, .int 0, .int 0])), (q5, .inr (1, [.ref (u9 0), .ref (u9 1), .ref (u9 2), .int 0, .int 0])), ((u9 0), .inl (ca 0, 40, .inl (fun _ => 0))), ((u9 1), .inl (ca 0, 400, .inl (fun _ => 0))), ((u9 2), .inl (ca 0, 1200, .inl (fun _ => 0))), (q16, .inr (0, [.ref q5, .ref (u24 0), .ref (u24 1), .ref (u24 2), .ref (u24 3), .int 0])), ((u24 0), .inl (ca 0, 400, .inl (fun _ => 0))), ((u24 1), .inl (ca 0, 400, .inl (fun _ => 0))), ((u24 2), .inl (ca 0, 400, .inl (fun _ => 0))), ((u24 3), .inl (ca 0, 400, .inl (fun _ => 0))), (q31, .inr (3, [.ref q16, .ref (u39 0), .ref (u39 1), .ref (u39 2), .ref (u39 3), .ref (u39 4), .int 0, .int 0])), ((u39 0), .inl (ca 0, 400, .inl (fun _ => 0))), ((u39 1), .inl (ca 0, 400, .inl (fun _ => 0))), ((u39 2), .inl (ca 0, 400, .inl (fun _ => 0))), ((u39 3), .inl (ca 0, 400, .inl (fun _ => 0))), ((u39 4), .inl (ca 0, 400, .inl (fun _ => 0)))] H := hP
  have hD : va_D A [(h0, .inr (4, [.ref q5, .ref q16, .ref q31, .null, .null, .null, .null, .int 0, .int 0])), (q5, .inr (1, [.ref (u9 0), .ref (u9 1), .ref (u9 2), .int 0, .int 0])), ((u9 0), .inl (ca 0, 40, .inl (fun _ => 0))), ((u9 1), .inl (ca 0, 400, .inl (fun _ => 0))), ((u9 2), .inl (ca 0, 1200, .inl (fun _ => 0))), (q16, .inr (0, [.ref q5, .ref (u24 0), .ref (u24 1), .ref (u24 2), .ref (u24 3), .int 0])), ((u24 0), .inl (ca 0, 400, .inl (fun _ => 0))), ((u24 1), .inl (ca 0, 400, .inl (fun _ => 0))), ((u24 2), .inl (ca 0, 400, .inl (fun _ => 0))), ((u24 3), .inl (ca 0, 400, .inl (fun _ => 0))), (q31, .inr (3, [.ref q16, .ref (u39 0), .ref (u39 1), .ref (u39 2), .ref (u39 3), .ref (u39 4), .int 0, .int 0])), ((u39 0), .inl (ca 0, 400, .inl (fun _ => 0))), ((u39 1), .inl (ca 0, 400, .inl (fun _ => 0))), ((u39 2), .inl (ca 0, 400, .inl (fun _ => 0))), ((u39 3), .inl (ca 0, 400, .inl (fun _ => 0))), ((u39 4), .inl (ca 0, 400, .inl (fun _ => 0)))] := hD
  refine lv_aload_n hx hb tn_i4_45 rfl (lv_at hl 0 rfl) ?_
  refine va_new (ci := 2) (fs := [.null, .null, .null, .null]) (C := tn_R2) (T := tn_T2) (N := 4) hx hb hts tn_iw2 tn_ty2 tn_to2 hown (hts (.classLink tn_R4 34 tn_R2) tn_wc55) (hts (.instantiable tn_R2 4) tn_wc56) (hts (.initialized tn_R2) tn_wc57) hK hP hD hS hA rfl (by decide) (Nat.le_of_ble_eq_true rfl) (Nat.le_of_ble_eq_true rfl) tn_i4_46 (fun q46 H hP hD hS => ?_)
  have hP : va_P D tn_cl [(h0, .inr (4, [.ref q5, .ref q16, .ref q31, .null, .null, .null, .null, .int 0, .int 0])), (q5, .inr (1, [.ref (u9 0), .ref (u9 1), .ref (u9 2), .int 0, .int 0])), ((u9 0), .inl (ca 0, 40, .inl (fun _ => 0))), ((u9 1), .inl (ca 0, 400, .inl (fun _ => 0))), ((u9 2), .inl (ca 0, 1200, .inl (fun _ => 0))), (q16, .inr (0, [.ref q5, .ref (u24 0), .ref (u24 1), .ref (u24 2), .ref (u24 3), .int 0])), ((u24 0), .inl (ca 0, 400, .inl (fun _ => 0))), ((u24 1), .inl (ca 0, 400, .inl (fun _ => 0))), ((u24 2), .inl (ca 0, 400, .inl (fun _ => 0))), ((u24 3), .inl (ca 0, 400, .inl (fun _ => 0))), (q31, .inr (3, [.ref q16, .ref (u39 0), .ref (u39 1), .ref (u39 2), .ref (u39 3), .ref (u39 4), .int 0, .int 0])), ((u39 0), .inl (ca 0, 400, .inl (fun _ => 0))), ((u39 1), .inl (ca 0, 400, .inl (fun _ => 0))), ((u39 2), .inl (ca 0, 400, .inl (fun _ => 0))), ((u39 3), .inl (ca 0, 400, .inl (fun _ => 0))), ((u39 4), .inl (ca 0, 400, .inl (fun _ => 0))), (q46, .inr (2, [.null, .null, .null, .null]))] H := hP
  have hD : va_D A [(h0, .inr (4, [.ref q5, .ref q16, .ref q31, .null, .null, .null, .null, .int 0, .int 0])), (q5, .inr (1, [.ref (u9 0), .ref (u9 1), .ref (u9 2), .int 0, .int 0])), ((u9 0), .inl (ca 0, 40, .inl (fun _ => 0))), ((u9 1), .inl (ca 0, 400, .inl (fun _ => 0))), ((u9 2), .inl (ca 0, 1200, .inl (fun _ => 0))), (q16, .inr (0, [.ref q5, .ref (u24 0), .ref (u24 1), .ref (u24 2), .ref (u24 3), .int 0])), ((u24 0), .inl (ca 0, 400, .inl (fun _ => 0))), ((u24 1), .inl (ca 0, 400, .inl (fun _ => 0))), ((u24 2), .inl (ca 0, 400, .inl (fun _ => 0))), ((u24 3), .inl (ca 0, 400, .inl (fun _ => 0))), (q31, .inr (3, [.ref q16, .ref (u39 0), .ref (u39 1), .ref (u39 2), .ref (u39 3), .ref (u39 4), .int 0, .int 0])), ((u39 0), .inl (ca 0, 400, .inl (fun _ => 0))), ((u39 1), .inl (ca 0, 400, .inl (fun _ => 0))), ((u39 2), .inl (ca 0, 400, .inl (fun _ => 0))), ((u39 3), .inl (ca 0, 400, .inl (fun _ => 0))), ((u39 4), .inl (ca 0, 400, .inl (fun _ => 0))), (q46, .inr (2, [.null, .null, .null, .null]))] := hD
  refine W.widen (k := 16) (n := 5263) (Nat.le_of_ble_eq_true rfl) (Nat.le_of_ble_eq_true rfl) ?_
  refine lv_dup hx hb tn_i4_49 rfl ?_
  refine lv_aload_n hx hb tn_i4_50 rfl (lv_at hl 0 rfl) ?_
  refine va_get (D := D) (ci := 4) (v := .ref q16) (C := tn_R4) (T := tn_T4) (N := 9) hx hb hts tn_iw4 hown hK hP 0 rfl rfl 1 (by decide) (hts (.fieldLink tn_R4 21 tn_R4 "groups" "LTermNet$Groups;") tn_wc48) (fun x9 h9 => h9) rfl tn_i4_51 ?_
  have hPc := hP.sub (ws' := [(q46, .inr (2, [.null, .null, .null, .null]))]) [16] rfl
  have hDc := hD.sub (ws' := [(q46, .inr (2, [.null, .null, .null, .null]))]) [16] (by decide) rfl
  have hFc := va_free (wc := [(q46, .inr (2, [.null, .null, .null, .null]))]) hD hS hA [16] rfl
  refine va_callv (va_runI (As := [.ref q16]) (rest := [.ref q46, .ref h0]) ⟨hx, hb, hml, hown, hts⟩ (tn_c2_init l D ca q46 q16 H.size) (cwI 1 hts (tn_gi tn_y2_cd) rfl rfl rfl (hts (.initialized tn_R2) tn_wc57) (hts (.methodLink tn_R4 36 tn_y2) tn_wc58) (hts (.instanceMethod tn_y2) tn_wc59) rfl (by decide +kernel) ⟨Nat.le_of_ble_eq_true rfl, Nat.le_of_ble_eq_true rfl⟩) ⟨fun a U g mk q => by obtain ⟨q0, q1, qP, qK, qD⟩ := q; exact ⟨q0, q1, qP, va_K.moved (u := U) (U := U.calling g mk a) (Vm.Alike.refl U.vm) qK, qD⟩, fun U hU hW => ⟨rfl, by rw [hU], by rw [hU]; exact hPc, va_K.moved hW.alike hK, hDc.weaken (fun _ _ _ _ => trivial)⟩⟩ rfl rfl hl.1 rfl (lv_room (Nat.le_of_ble_eq_true rfl)) tn_i4_54 ⟨Nat.le_of_ble_eq_true rfl, Nat.le_of_ble_eq_true rfl⟩) hS (fun q _ h => hFc q h) hFc (fun u54 t H1 locs ht hvm h5 hB hz1 hk1 hS => ?_)
  obtain ⟨hP1, hD1⟩ := hB
  rw [ht] at hP1
  obtain ⟨hP, hD⟩ := va_join (wr := [(h0, .inr (4, [.ref q5, .ref q16, .ref q31, .null, .null, .null, .null, .int 0, .int 0])), (q5, .inr (1, [.ref (u9 0), .ref (u9 1), .ref (u9 2), .int 0, .int 0])), ((u9 0), .inl (ca 0, 40, .inl (fun _ => 0))), ((u9 1), .inl (ca 0, 400, .inl (fun _ => 0))), ((u9 2), .inl (ca 0, 1200, .inl (fun _ => 0))), (q16, .inr (0, [.ref q5, .ref (u24 0), .ref (u24 1), .ref (u24 2), .ref (u24 3), .int 0])), ((u24 0), .inl (ca 0, 400, .inl (fun _ => 0))), ((u24 1), .inl (ca 0, 400, .inl (fun _ => 0))), ((u24 2), .inl (ca 0, 400, .inl (fun _ => 0))), ((u24 3), .inl (ca 0, 400, .inl (fun _ => 0))), (q31, .inr (3, [.ref q16, .ref (u39 0), .ref (u39 1), .ref (u39 2), .ref (u39 3), .ref (u39 4), .int 0, .int 0])), ((u39 0), .inl (ca 0, 400, .inl (fun _ => 0))), ((u39 1), .inl (ca 0, 400, .inl (fun _ => 0))), ((u39 2), .inl (ca 0, 400, .inl (fun _ => 0))), ((u39 3), .inl (ca 0, 400, .inl (fun _ => 0))), ((u39 4), .inl (ca 0, 400, .inl (fun _ => 0)))]) (w1 := [(q46, .inr (2, [.ref q16, .ref (u54 0), .ref (u54 1), .ref (u54 2)])), ((u54 0), .inl (ca 0, 401, .inl (fun _ => 0))), ((u54 1), .inl (ca 0, 400, .inl (fun _ => 0))), ((u54 2), .inl (ca 0, 400, .inl (fun _ => 0)))]) hP hD [16] [0, 1, 2, 3, 4, 5, 6, 7, 8, 9, 10, 11, 12, 13, 14, 15] rfl rfl (by decide) (by decide) hk1 hFc hP1 hD1
  generalize H1 = H at hP hS ⊢
  have hP : va_P D tn_cl [(h0, .inr (4, [.ref q5, .ref q16, .ref q31, .null, .null, .null, .null, .int 0, .int 0])), (q5, .inr (1, [.ref (u9 0), .ref (u9 1), .ref (u9 2), .int 0, .int 0])), ((u9 0), .inl (ca 0, 40, .inl (fun _ => 0))), ((u9 1), .inl (ca 0, 400, .inl (fun _ => 0))), ((u9 2), .inl (ca 0, 1200, .inl (fun _ => 0))), (q16, .inr (0, [.ref q5, .ref (u24 0), .ref (u24 1), .ref (u24 2), .ref (u24 3), .int 0])), ((u24 0), .inl (ca 0, 400, .inl (fun _ => 0))), ((u24 1), .inl (ca 0, 400, .inl (fun _ => 0))), ((u24 2), .inl (ca 0, 400, .inl (fun _ => 0))), ((u24 3), .inl (ca 0, 400, .inl (fun _ => 0))), (q31, .inr (3, [.ref q16, .ref (u39 0), .ref (u39 1), .ref (u39 2), .ref (u39 3), .ref (u39 4), .int 0, .int 0])), ((u39 0), .inl (ca 0, 400, .inl (fun _ => 0))), ((u39 1), .inl (ca 0, 400, .inl (fun _ => 0))), ((u39 2), .inl (ca 0, 400, .inl (fun _ => 0))), ((u39 3), .inl (ca 0, 400, .inl (fun _ => 0))), ((u39 4), .inl (ca 0, 400, .inl (fun _ => 0))), (q46, .inr (2, [.ref q16, .ref (u54 0), .ref (u54 1), .ref (u54 2)])), ((u54 0), .inl (ca 0, 401, .inl (fun _ => 0))), ((u54 1), .inl (ca 0, 400, .inl (fun _ => 0))), ((u54 2), .inl (ca 0, 400, .inl (fun _ => 0)))] H := hP
  have hD : va_D A [(h0, .inr (4, [.ref q5, .ref q16, .ref q31, .null, .null, .null, .null, .int 0, .int 0])), (q5, .inr (1, [.ref (u9 0), .ref (u9 1), .ref (u9 2), .int 0, .int 0])), ((u9 0), .inl (ca 0, 40, .inl (fun _ => 0))), ((u9 1), .inl (ca 0, 400, .inl (fun _ => 0))), ((u9 2), .inl (ca 0, 1200, .inl (fun _ => 0))), (q16, .inr (0, [.ref q5, .ref (u24 0), .ref (u24 1), .ref (u24 2), .ref (u24 3), .int 0])), ((u24 0), .inl (ca 0, 400, .inl (fun _ => 0))), ((u24 1), .inl (ca 0, 400, .inl (fun _ => 0))), ((u24 2), .inl (ca 0, 400, .inl (fun _ => 0))), ((u24 3), .inl (ca 0, 400, .inl (fun _ => 0))), (q31, .inr (3, [.ref q16, .ref (u39 0), .ref (u39 1), .ref (u39 2), .ref (u39 3), .ref (u39 4), .int 0, .int 0])), ((u39 0), .inl (ca 0, 400, .inl (fun _ => 0))), ((u39 1), .inl (ca 0, 400, .inl (fun _ => 0))), ((u39 2), .inl (ca 0, 400, .inl (fun _ => 0))), ((u39 3), .inl (ca 0, 400, .inl (fun _ => 0))), ((u39 4), .inl (ca 0, 400, .inl (fun _ => 0))), (q46, .inr (2, [.ref q16, .ref (u54 0), .ref (u54 1), .ref (u54 2)])), ((u54 0), .inl (ca 0, 401, .inl (fun _ => 0))), ((u54 1), .inl (ca 0, 400, .inl (fun _ => 0))), ((u54 2), .inl (ca 0, 400, .inl (fun _ => 0)))] := hD
  refine W.widen (k := 19) (n := 6464) (Nat.le_of_ble_eq_true rfl) (Nat.le_of_ble_eq_true rfl) ?_
  refine va_putF (D := D) (ci := 4) (v := .ref q46) (ty := .object "TermNet$Twins") (C := tn_R4) (T := tn_T4) (N := 9) hx hb hts tn_iw4 tn_ty4 tn_to4 tn_nm4 hown hK hP hD hS 0 rfl rfl 3 (by decide) (hts (.fieldLink tn_R4 37 tn_R4 "twins" "LTermNet$Twins;") tn_wc60) (fun _ h9 => h9) rfl hin rfl (by decide +kernel) rfl rfl (Nat.le_of_ble_eq_true rfl) tn_i4_57 (fun H locs hP hD hS => ?_)
  have hP : va_P D tn_cl [(h0, .inr (4, [.ref q5, .ref q16, .ref q31, .ref q46, .null, .null, .null, .int 0, .int 0])), (q5, .inr (1, [.ref (u9 0), .ref (u9 1), .ref (u9 2), .int 0, .int 0])), ((u9 0), .inl (ca 0, 40, .inl (fun _ => 0))), ((u9 1), .inl (ca 0, 400, .inl (fun _ => 0))), ((u9 2), .inl (ca 0, 1200, .inl (fun _ => 0))), (q16, .inr (0, [.ref q5, .ref (u24 0), .ref (u24 1), .ref (u24 2), .ref (u24 3), .int 0])), ((u24 0), .inl (ca 0, 400, .inl (fun _ => 0))), ((u24 1), .inl (ca 0, 400, .inl (fun _ => 0))), ((u24 2), .inl (ca 0, 400, .inl (fun _ => 0))), ((u24 3), .inl (ca 0, 400, .inl (fun _ => 0))), (q31, .inr (3, [.ref q16, .ref (u39 0), .ref (u39 1), .ref (u39 2), .ref (u39 3), .ref (u39 4), .int 0, .int 0])), ((u39 0), .inl (ca 0, 400, .inl (fun _ => 0))), ((u39 1), .inl (ca 0, 400, .inl (fun _ => 0))), ((u39 2), .inl (ca 0, 400, .inl (fun _ => 0))), ((u39 3), .inl (ca 0, 400, .inl (fun _ => 0))), ((u39 4), .inl (ca 0, 400, .inl (fun _ => 0))), (q46, .inr (2, [.ref q16, .ref (u54 0), .ref (u54 1), .ref (u54 2)])), ((u54 0), .inl (ca 0, 401, .inl (fun _ => 0))), ((u54 1), .inl (ca 0, 400, .inl (fun _ => 0))), ((u54 2), .inl (ca 0, 400, .inl (fun _ => 0)))] H := hP
  have hD : va_D A [(h0, .inr (4, [.ref q5, .ref q16, .ref q31, .ref q46, .null, .null, .null, .int 0, .int 0])), (q5, .inr (1, [.ref (u9 0), .ref (u9 1), .ref (u9 2), .int 0, .int 0])), ((u9 0), .inl (ca 0, 40, .inl (fun _ => 0))), ((u9 1), .inl (ca 0, 400, .inl (fun _ => 0))), ((u9 2), .inl (ca 0, 1200, .inl (fun _ => 0))), (q16, .inr (0, [.ref q5, .ref (u24 0), .ref (u24 1), .ref (u24 2), .ref (u24 3), .int 0])), ((u24 0), .inl (ca 0, 400, .inl (fun _ => 0))), ((u24 1), .inl (ca 0, 400, .inl (fun _ => 0))), ((u24 2), .inl (ca 0, 400, .inl (fun _ => 0))), ((u24 3), .inl (ca 0, 400, .inl (fun _ => 0))), (q31, .inr (3, [.ref q16, .ref (u39 0), .ref (u39 1), .ref (u39 2), .ref (u39 3), .ref (u39 4), .int 0, .int 0])), ((u39 0), .inl (ca 0, 400, .inl (fun _ => 0))), ((u39 1), .inl (ca 0, 400, .inl (fun _ => 0))), ((u39 2), .inl (ca 0, 400, .inl (fun _ => 0))), ((u39 3), .inl (ca 0, 400, .inl (fun _ => 0))), ((u39 4), .inl (ca 0, 400, .inl (fun _ => 0))), (q46, .inr (2, [.ref q16, .ref (u54 0), .ref (u54 1), .ref (u54 2)])), ((u54 0), .inl (ca 0, 401, .inl (fun _ => 0))), ((u54 1), .inl (ca 0, 400, .inl (fun _ => 0))), ((u54 2), .inl (ca 0, 400, .inl (fun _ => 0)))] := hD
  refine lv_aload_n hx hb tn_i4_60 rfl (lv_at hl 0 rfl) ?_
  refine lv_bipush (v := 20) hx hb tn_i4_61 (by decide) ?_
  refine tn_newI (N := 20) (ca := ca) hx hb hts hK hP hD hS hA (by decide) (by decide) (by decide) (Nat.le_of_ble_eq_true rfl) (Nat.le_of_ble_eq_true rfl) tn_i4_63 (fun q63 H hP hD hS => ?_)
  have hP : va_P D tn_cl [(h0, .inr (4, [.ref q5, .ref q16, .ref q31, .ref q46, .null, .null, .null, .int 0, .int 0])), (q5, .inr (1, [.ref (u9 0), .ref (u9 1), .ref (u9 2), .int 0, .int 0])), ((u9 0), .inl (ca 0, 40, .inl (fun _ => 0))), ((u9 1), .inl (ca 0, 400, .inl (fun _ => 0))), ((u9 2), .inl (ca 0, 1200, .inl (fun _ => 0))), (q16, .inr (0, [.ref q5, .ref (u24 0), .ref (u24 1), .ref (u24 2), .ref (u24 3), .int 0])), ((u24 0), .inl (ca 0, 400, .inl (fun _ => 0))), ((u24 1), .inl (ca 0, 400, .inl (fun _ => 0))), ((u24 2), .inl (ca 0, 400, .inl (fun _ => 0))), ((u24 3), .inl (ca 0, 400, .inl (fun _ => 0))), (q31, .inr (3, [.ref q16, .ref (u39 0), .ref (u39 1), .ref (u39 2), .ref (u39 3), .ref (u39 4), .int 0, .int 0])), ((u39 0), .inl (ca 0, 400, .inl (fun _ => 0))), ((u39 1), .inl (ca 0, 400, .inl (fun _ => 0))), ((u39 2), .inl (ca 0, 400, .inl (fun _ => 0))), ((u39 3), .inl (ca 0, 400, .inl (fun _ => 0))), ((u39 4), .inl (ca 0, 400, .inl (fun _ => 0))), (q46, .inr (2, [.ref q16, .ref (u54 0), .ref (u54 1), .ref (u54 2)])), ((u54 0), .inl (ca 0, 401, .inl (fun _ => 0))), ((u54 1), .inl (ca 0, 400, .inl (fun _ => 0))), ((u54 2), .inl (ca 0, 400, .inl (fun _ => 0))), (q63, .inl (ca 0, 20, .inl (fun _ => 0)))] H := hP
  have hD : va_D A [(h0, .inr (4, [.ref q5, .ref q16, .ref q31, .ref q46, .null, .null, .null, .int 0, .int 0])), (q5, .inr (1, [.ref (u9 0), .ref (u9 1), .ref (u9 2), .int 0, .int 0])), ((u9 0), .inl (ca 0, 40, .inl (fun _ => 0))), ((u9 1), .inl (ca 0, 400, .inl (fun _ => 0))), ((u9 2), .inl (ca 0, 1200, .inl (fun _ => 0))), (q16, .inr (0, [.ref q5, .ref (u24 0), .ref (u24 1), .ref (u24 2), .ref (u24 3), .int 0])), ((u24 0), .inl (ca 0, 400, .inl (fun _ => 0))), ((u24 1), .inl (ca 0, 400, .inl (fun _ => 0))), ((u24 2), .inl (ca 0, 400, .inl (fun _ => 0))), ((u24 3), .inl (ca 0, 400, .inl (fun _ => 0))), (q31, .inr (3, [.ref q16, .ref (u39 0), .ref (u39 1), .ref (u39 2), .ref (u39 3), .ref (u39 4), .int 0, .int 0])), ((u39 0), .inl (ca 0, 400, .inl (fun _ => 0))), ((u39 1), .inl (ca 0, 400, .inl (fun _ => 0))), ((u39 2), .inl (ca 0, 400, .inl (fun _ => 0))), ((u39 3), .inl (ca 0, 400, .inl (fun _ => 0))), ((u39 4), .inl (ca 0, 400, .inl (fun _ => 0))), (q46, .inr (2, [.ref q16, .ref (u54 0), .ref (u54 1), .ref (u54 2)])), ((u54 0), .inl (ca 0, 401, .inl (fun _ => 0))), ((u54 1), .inl (ca 0, 400, .inl (fun _ => 0))), ((u54 2), .inl (ca 0, 400, .inl (fun _ => 0))), (q63, .inl (ca 0, 20, .inl (fun _ => 0)))] := hD
  refine W.widen (k := 20) (n := 6484) (Nat.le_of_ble_eq_true rfl) (Nat.le_of_ble_eq_true rfl) ?_
  refine va_putF (D := D) (ci := 4) (v := .ref q63) (ty := .array .int) (C := tn_R4) (T := tn_T4) (N := 9) hx hb hts tn_iw4 tn_ty4 tn_to4 tn_nm4 hown hK hP hD hS 0 rfl rfl 4 (by decide) (hts (.fieldLink tn_R4 41 tn_R4 "pointTerms" "[I") tn_wc61) (fun _ h9 => h9) rfl hin rfl (by decide +kernel) rfl rfl (Nat.le_of_ble_eq_true rfl) tn_i4_65 (fun H locs hP hD hS => ?_)
  have hP : va_P D tn_cl [(h0, .inr (4, [.ref q5, .ref q16, .ref q31, .ref q46, .ref q63, .null, .null, .int 0, .int 0])), (q5, .inr (1, [.ref (u9 0), .ref (u9 1), .ref (u9 2), .int 0, .int 0])), ((u9 0), .inl (ca 0, 40, .inl (fun _ => 0))), ((u9 1), .inl (ca 0, 400, .inl (fun _ => 0))), ((u9 2), .inl (ca 0, 1200, .inl (fun _ => 0))), (q16, .inr (0, [.ref q5, .ref (u24 0), .ref (u24 1), .ref (u24 2), .ref (u24 3), .int 0])), ((u24 0), .inl (ca 0, 400, .inl (fun _ => 0))), ((u24 1), .inl (ca 0, 400, .inl (fun _ => 0))), ((u24 2), .inl (ca 0, 400, .inl (fun _ => 0))), ((u24 3), .inl (ca 0, 400, .inl (fun _ => 0))), (q31, .inr (3, [.ref q16, .ref (u39 0), .ref (u39 1), .ref (u39 2), .ref (u39 3), .ref (u39 4), .int 0, .int 0])), ((u39 0), .inl (ca 0, 400, .inl (fun _ => 0))), ((u39 1), .inl (ca 0, 400, .inl (fun _ => 0))), ((u39 2), .inl (ca 0, 400, .inl (fun _ => 0))), ((u39 3), .inl (ca 0, 400, .inl (fun _ => 0))), ((u39 4), .inl (ca 0, 400, .inl (fun _ => 0))), (q46, .inr (2, [.ref q16, .ref (u54 0), .ref (u54 1), .ref (u54 2)])), ((u54 0), .inl (ca 0, 401, .inl (fun _ => 0))), ((u54 1), .inl (ca 0, 400, .inl (fun _ => 0))), ((u54 2), .inl (ca 0, 400, .inl (fun _ => 0))), (q63, .inl (ca 0, 20, .inl (fun _ => 0)))] H := hP
  have hD : va_D A [(h0, .inr (4, [.ref q5, .ref q16, .ref q31, .ref q46, .ref q63, .null, .null, .int 0, .int 0])), (q5, .inr (1, [.ref (u9 0), .ref (u9 1), .ref (u9 2), .int 0, .int 0])), ((u9 0), .inl (ca 0, 40, .inl (fun _ => 0))), ((u9 1), .inl (ca 0, 400, .inl (fun _ => 0))), ((u9 2), .inl (ca 0, 1200, .inl (fun _ => 0))), (q16, .inr (0, [.ref q5, .ref (u24 0), .ref (u24 1), .ref (u24 2), .ref (u24 3), .int 0])), ((u24 0), .inl (ca 0, 400, .inl (fun _ => 0))), ((u24 1), .inl (ca 0, 400, .inl (fun _ => 0))), ((u24 2), .inl (ca 0, 400, .inl (fun _ => 0))), ((u24 3), .inl (ca 0, 400, .inl (fun _ => 0))), (q31, .inr (3, [.ref q16, .ref (u39 0), .ref (u39 1), .ref (u39 2), .ref (u39 3), .ref (u39 4), .int 0, .int 0])), ((u39 0), .inl (ca 0, 400, .inl (fun _ => 0))), ((u39 1), .inl (ca 0, 400, .inl (fun _ => 0))), ((u39 2), .inl (ca 0, 400, .inl (fun _ => 0))), ((u39 3), .inl (ca 0, 400, .inl (fun _ => 0))), ((u39 4), .inl (ca 0, 400, .inl (fun _ => 0))), (q46, .inr (2, [.ref q16, .ref (u54 0), .ref (u54 1), .ref (u54 2)])), ((u54 0), .inl (ca 0, 401, .inl (fun _ => 0))), ((u54 1), .inl (ca 0, 400, .inl (fun _ => 0))), ((u54 2), .inl (ca 0, 400, .inl (fun _ => 0))), (q63, .inl (ca 0, 20, .inl (fun _ => 0)))] := hD
  refine lv_aload_n hx hb tn_i4_68 rfl (lv_at hl 0 rfl) ?_
  refine lv_bipush (v := 20) hx hb tn_i4_69 (by decide) ?_
  refine tn_newI (N := 20) (ca := ca) hx hb hts hK hP hD hS hA (by decide) (by decide) (by decide) (Nat.le_of_ble_eq_true rfl) (Nat.le_of_ble_eq_true rfl) tn_i4_71 (fun q71 H hP hD hS => ?_)
  have hP : va_P D tn_cl [(h0, .inr (4, [.ref q5, .ref q16, .ref q31, .ref q46, .ref q63, .null, .null, .int 0, .int 0])), (q5, .inr (1, [.ref (u9 0), .ref (u9 1), .ref (u9 2), .int 0, .int 0])), ((u9 0), .inl (ca 0, 40, .inl (fun _ => 0))), ((u9 1), .inl (ca 0, 400, .inl (fun _ => 0))), ((u9 2), .inl (ca 0, 1200, .inl (fun _ => 0))), (q16, .inr (0, [.ref q5, .ref (u24 0), .ref (u24 1), .ref (u24 2), .ref (u24 3), .int 0])), ((u24 0), .inl (ca 0, 400, .inl (fun _ => 0))), ((u24 1), .inl (ca 0, 400, .inl (fun _ => 0))), ((u24 2), .inl (ca 0, 400, .inl (fun _ => 0))), ((u24 3), .inl (ca 0, 400, .inl (fun _ => 0))), (q31, .inr (3, [.ref q16, .ref (u39 0), .ref (u39 1), .ref (u39 2), .ref (u39 3), .ref (u39 4), .int 0, .int 0])), ((u39 0), .inl (ca 0, 400, .inl (fun _ => 0))), ((u39 1), .inl (ca 0, 400, .inl (fun _ => 0))), ((u39 2), .inl (ca 0, 400, .inl (fun _ => 0))), ((u39 3), .inl (ca 0, 400, .inl (fun _ => 0))), ((u39 4), .inl (ca 0, 400, .inl (fun _ => 0))), (q46, .inr (2, [.ref q16, .ref (u54 0), .ref (u54 1), .ref (u54 2)])), ((u54 0), .inl (ca 0, 401, .inl (fun _ => 0))), ((u54 1), .inl (ca 0, 400, .inl (fun _ => 0))), ((u54 2), .inl (ca 0, 400, .inl (fun _ => 0))), (q63, .inl (ca 0, 20, .inl (fun _ => 0))), (q71, .inl (ca 0, 20, .inl (fun _ => 0)))] H := hP
  have hD : va_D A [(h0, .inr (4, [.ref q5, .ref q16, .ref q31, .ref q46, .ref q63, .null, .null, .int 0, .int 0])), (q5, .inr (1, [.ref (u9 0), .ref (u9 1), .ref (u9 2), .int 0, .int 0])), ((u9 0), .inl (ca 0, 40, .inl (fun _ => 0))), ((u9 1), .inl (ca 0, 400, .inl (fun _ => 0))), ((u9 2), .inl (ca 0, 1200, .inl (fun _ => 0))), (q16, .inr (0, [.ref q5, .ref (u24 0), .ref (u24 1), .ref (u24 2), .ref (u24 3), .int 0])), ((u24 0), .inl (ca 0, 400, .inl (fun _ => 0))), ((u24 1), .inl (ca 0, 400, .inl (fun _ => 0))), ((u24 2), .inl (ca 0, 400, .inl (fun _ => 0))), ((u24 3), .inl (ca 0, 400, .inl (fun _ => 0))), (q31, .inr (3, [.ref q16, .ref (u39 0), .ref (u39 1), .ref (u39 2), .ref (u39 3), .ref (u39 4), .int 0, .int 0])), ((u39 0), .inl (ca 0, 400, .inl (fun _ => 0))), ((u39 1), .inl (ca 0, 400, .inl (fun _ => 0))), ((u39 2), .inl (ca 0, 400, .inl (fun _ => 0))), ((u39 3), .inl (ca 0, 400, .inl (fun _ => 0))), ((u39 4), .inl (ca 0, 400, .inl (fun _ => 0))), (q46, .inr (2, [.ref q16, .ref (u54 0), .ref (u54 1), .ref (u54 2)])), ((u54 0), .inl (ca 0, 401, .inl (fun _ => 0))), ((u54 1), .inl (ca 0, 400, .inl (fun _ => 0))), ((u54 2), .inl (ca 0, 400, .inl (fun _ => 0))), (q63, .inl (ca 0, 20, .inl (fun _ => 0))), (q71, .inl (ca 0, 20, .inl (fun _ => 0)))] := hD
  refine W.widen (k := 21) (n := 6504) (Nat.le_of_ble_eq_true rfl) (Nat.le_of_ble_eq_true rfl) ?_
  refine va_putF (D := D) (ci := 4) (v := .ref q71) (ty := .array .int) (C := tn_R4) (T := tn_T4) (N := 9) hx hb hts tn_iw4 tn_ty4 tn_to4 tn_nm4 hown hK hP hD hS 0 rfl rfl 5 (by decide) (hts (.fieldLink tn_R4 45 tn_R4 "pointMerges" "[I") tn_wc62) (fun _ h9 => h9) rfl hin rfl (by decide +kernel) rfl rfl (Nat.le_of_ble_eq_true rfl) tn_i4_73 (fun H locs hP hD hS => ?_)
  have hP : va_P D tn_cl [(h0, .inr (4, [.ref q5, .ref q16, .ref q31, .ref q46, .ref q63, .ref q71, .null, .int 0, .int 0])), (q5, .inr (1, [.ref (u9 0), .ref (u9 1), .ref (u9 2), .int 0, .int 0])), ((u9 0), .inl (ca 0, 40, .inl (fun _ => 0))), ((u9 1), .inl (ca 0, 400, .inl (fun _ => 0))), ((u9 2), .inl (ca 0, 1200, .inl (fun _ => 0))), (q16, .inr (0, [.ref q5, .ref (u24 0), .ref (u24 1), .ref (u24 2), .ref (u24 3), .int 0])), ((u24 0), .inl (ca 0, 400, .inl (fun _ => 0))), ((u24 1), .inl (ca 0, 400, .inl (fun _ => 0))), ((u24 2), .inl (ca 0, 400, .inl (fun _ => 0))), ((u24 3), .inl (ca 0, 400, .inl (fun _ => 0))), (q31, .inr (3, [.ref q16, .ref (u39 0), .ref (u39 1), .ref (u39 2), .ref (u39 3), .ref (u39 4), .int 0, .int 0])), ((u39 0), .inl (ca 0, 400, .inl (fun _ => 0))), ((u39 1), .inl (ca 0, 400, .inl (fun _ => 0))), ((u39 2), .inl (ca 0, 400, .inl (fun _ => 0))), ((u39 3), .inl (ca 0, 400, .inl (fun _ => 0))), ((u39 4), .inl (ca 0, 400, .inl (fun _ => 0))), (q46, .inr (2, [.ref q16, .ref (u54 0), .ref (u54 1), .ref (u54 2)])), ((u54 0), .inl (ca 0, 401, .inl (fun _ => 0))), ((u54 1), .inl (ca 0, 400, .inl (fun _ => 0))), ((u54 2), .inl (ca 0, 400, .inl (fun _ => 0))), (q63, .inl (ca 0, 20, .inl (fun _ => 0))), (q71, .inl (ca 0, 20, .inl (fun _ => 0)))] H := hP
  have hD : va_D A [(h0, .inr (4, [.ref q5, .ref q16, .ref q31, .ref q46, .ref q63, .ref q71, .null, .int 0, .int 0])), (q5, .inr (1, [.ref (u9 0), .ref (u9 1), .ref (u9 2), .int 0, .int 0])), ((u9 0), .inl (ca 0, 40, .inl (fun _ => 0))), ((u9 1), .inl (ca 0, 400, .inl (fun _ => 0))), ((u9 2), .inl (ca 0, 1200, .inl (fun _ => 0))), (q16, .inr (0, [.ref q5, .ref (u24 0), .ref (u24 1), .ref (u24 2), .ref (u24 3), .int 0])), ((u24 0), .inl (ca 0, 400, .inl (fun _ => 0))), ((u24 1), .inl (ca 0, 400, .inl (fun _ => 0))), ((u24 2), .inl (ca 0, 400, .inl (fun _ => 0))), ((u24 3), .inl (ca 0, 400, .inl (fun _ => 0))), (q31, .inr (3, [.ref q16, .ref (u39 0), .ref (u39 1), .ref (u39 2), .ref (u39 3), .ref (u39 4), .int 0, .int 0])), ((u39 0), .inl (ca 0, 400, .inl (fun _ => 0))), ((u39 1), .inl (ca 0, 400, .inl (fun _ => 0))), ((u39 2), .inl (ca 0, 400, .inl (fun _ => 0))), ((u39 3), .inl (ca 0, 400, .inl (fun _ => 0))), ((u39 4), .inl (ca 0, 400, .inl (fun _ => 0))), (q46, .inr (2, [.ref q16, .ref (u54 0), .ref (u54 1), .ref (u54 2)])), ((u54 0), .inl (ca 0, 401, .inl (fun _ => 0))), ((u54 1), .inl (ca 0, 400, .inl (fun _ => 0))), ((u54 2), .inl (ca 0, 400, .inl (fun _ => 0))), (q63, .inl (ca 0, 20, .inl (fun _ => 0))), (q71, .inl (ca 0, 20, .inl (fun _ => 0)))] := hD
  refine lv_aload_n hx hb tn_i4_76 rfl (lv_at hl 0 rfl) ?_
  refine lv_bipush (v := 20) hx hb tn_i4_77 (by decide) ?_
  refine tn_newI (N := 20) (ca := ca) hx hb hts hK hP hD hS hA (by decide) (by decide) (by decide) (Nat.le_of_ble_eq_true rfl) (Nat.le_of_ble_eq_true rfl) tn_i4_79 (fun q79 H hP hD hS => ?_)
  have hP : va_P D tn_cl [(h0, .inr (4, [.ref q5, .ref q16, .ref q31, .ref q46, .ref q63, .ref q71, .null, .int 0, .int 0])), (q5, .inr (1, [.ref (u9 0), .ref (u9 1), .ref (u9 2), .int 0, .int 0])), ((u9 0), .inl (ca 0, 40, .inl (fun _ => 0))), ((u9 1), .inl (ca 0, 400, .inl (fun _ => 0))), ((u9 2), .inl (ca 0, 1200, .inl (fun _ => 0))), (q16, .inr (0, [.ref q5, .ref (u24 0), .ref (u24 1), .ref (u24 2), .ref (u24 3), .int 0])), ((u24 0), .inl (ca 0, 400, .inl (fun _ => 0))), ((u24 1), .inl (ca 0, 400, .inl (fun _ => 0))), ((u24 2), .inl (ca 0, 400, .inl (fun _ => 0))), ((u24 3), .inl (ca 0, 400, .inl (fun _ => 0))), (q31, .inr (3, [.ref q16, .ref (u39 0), .ref (u39 1), .ref (u39 2), .ref (u39 3), .ref (u39 4), .int 0, .int 0])), ((u39 0), .inl (ca 0, 400, .inl (fun _ => 0))), ((u39 1), .inl (ca 0, 400, .inl (fun _ => 0))), ((u39 2), .inl (ca 0, 400, .inl (fun _ => 0))), ((u39 3), .inl (ca 0, 400, .inl (fun _ => 0))), ((u39 4), .inl (ca 0, 400, .inl (fun _ => 0))), (q46, .inr (2, [.ref q16, .ref (u54 0), .ref (u54 1), .ref (u54 2)])), ((u54 0), .inl (ca 0, 401, .inl (fun _ => 0))), ((u54 1), .inl (ca 0, 400, .inl (fun _ => 0))), ((u54 2), .inl (ca 0, 400, .inl (fun _ => 0))), (q63, .inl (ca 0, 20, .inl (fun _ => 0))), (q71, .inl (ca 0, 20, .inl (fun _ => 0))), (q79, .inl (ca 0, 20, .inl (fun _ => 0)))] H := hP
  have hD : va_D A [(h0, .inr (4, [.ref q5, .ref q16, .ref q31, .ref q46, .ref q63, .ref q71, .null, .int 0, .int 0])), (q5, .inr (1, [.ref (u9 0), .ref (u9 1), .ref (u9 2), .int 0, .int 0])), ((u9 0), .inl (ca 0, 40, .inl (fun _ => 0))), ((u9 1), .inl (ca 0, 400, .inl (fun _ => 0))), ((u9 2), .inl (ca 0, 1200, .inl (fun _ => 0))), (q16, .inr (0, [.ref q5, .ref (u24 0), .ref (u24 1), .ref (u24 2), .ref (u24 3), .int 0])), ((u24 0), .inl (ca 0, 400, .inl (fun _ => 0))), ((u24 1), .inl (ca 0, 400, .inl (fun _ => 0))), ((u24 2), .inl (ca 0, 400, .inl (fun _ => 0))), ((u24 3), .inl (ca 0, 400, .inl (fun _ => 0))), (q31, .inr (3, [.ref q16, .ref (u39 0), .ref (u39 1), .ref (u39 2), .ref (u39 3), .ref (u39 4), .int 0, .int 0])), ((u39 0), .inl (ca 0, 400, .inl (fun _ => 0))), ((u39 1), .inl (ca 0, 400, .inl (fun _ => 0))), ((u39 2), .inl (ca 0, 400, .inl (fun _ => 0))), ((u39 3), .inl (ca 0, 400, .inl (fun _ => 0))), ((u39 4), .inl (ca 0, 400, .inl (fun _ => 0))), (q46, .inr (2, [.ref q16, .ref (u54 0), .ref (u54 1), .ref (u54 2)])), ((u54 0), .inl (ca 0, 401, .inl (fun _ => 0))), ((u54 1), .inl (ca 0, 400, .inl (fun _ => 0))), ((u54 2), .inl (ca 0, 400, .inl (fun _ => 0))), (q63, .inl (ca 0, 20, .inl (fun _ => 0))), (q71, .inl (ca 0, 20, .inl (fun _ => 0))), (q79, .inl (ca 0, 20, .inl (fun _ => 0)))] := hD
  refine W.widen (k := 22) (n := 6524) (Nat.le_of_ble_eq_true rfl) (Nat.le_of_ble_eq_true rfl) ?_
  refine va_putF (D := D) (ci := 4) (v := .ref q79) (ty := .array .int) (C := tn_R4) (T := tn_T4) (N := 9) hx hb hts tn_iw4 tn_ty4 tn_to4 tn_nm4 hown hK hP hD hS 0 rfl rfl 6 (by decide) (hts (.fieldLink tn_R4 48 tn_R4 "pointEquations" "[I") tn_wc63) (fun _ h9 => h9) rfl hin rfl (by decide +kernel) rfl rfl (Nat.le_of_ble_eq_true rfl) tn_i4_81 (fun H locs hP hD hS => ?_)
  have hP : va_P D tn_cl [(h0, .inr (4, [.ref q5, .ref q16, .ref q31, .ref q46, .ref q63, .ref q71, .ref q79, .int 0, .int 0])), (q5, .inr (1, [.ref (u9 0), .ref (u9 1), .ref (u9 2), .int 0, .int 0])), ((u9 0), .inl (ca 0, 40, .inl (fun _ => 0))), ((u9 1), .inl (ca 0, 400, .inl (fun _ => 0))), ((u9 2), .inl (ca 0, 1200, .inl (fun _ => 0))), (q16, .inr (0, [.ref q5, .ref (u24 0), .ref (u24 1), .ref (u24 2), .ref (u24 3), .int 0])), ((u24 0), .inl (ca 0, 400, .inl (fun _ => 0))), ((u24 1), .inl (ca 0, 400, .inl (fun _ => 0))), ((u24 2), .inl (ca 0, 400, .inl (fun _ => 0))), ((u24 3), .inl (ca 0, 400, .inl (fun _ => 0))), (q31, .inr (3, [.ref q16, .ref (u39 0), .ref (u39 1), .ref (u39 2), .ref (u39 3), .ref (u39 4), .int 0, .int 0])), ((u39 0), .inl (ca 0, 400, .inl (fun _ => 0))), ((u39 1), .inl (ca 0, 400, .inl (fun _ => 0))), ((u39 2), .inl (ca 0, 400, .inl (fun _ => 0))), ((u39 3), .inl (ca 0, 400, .inl (fun _ => 0))), ((u39 4), .inl (ca 0, 400, .inl (fun _ => 0))), (q46, .inr (2, [.ref q16, .ref (u54 0), .ref (u54 1), .ref (u54 2)])), ((u54 0), .inl (ca 0, 401, .inl (fun _ => 0))), ((u54 1), .inl (ca 0, 400, .inl (fun _ => 0))), ((u54 2), .inl (ca 0, 400, .inl (fun _ => 0))), (q63, .inl (ca 0, 20, .inl (fun _ => 0))), (q71, .inl (ca 0, 20, .inl (fun _ => 0))), (q79, .inl (ca 0, 20, .inl (fun _ => 0)))] H := hP
  have hD : va_D A [(h0, .inr (4, [.ref q5, .ref q16, .ref q31, .ref q46, .ref q63, .ref q71, .ref q79, .int 0, .int 0])), (q5, .inr (1, [.ref (u9 0), .ref (u9 1), .ref (u9 2), .int 0, .int 0])), ((u9 0), .inl (ca 0, 40, .inl (fun _ => 0))), ((u9 1), .inl (ca 0, 400, .inl (fun _ => 0))), ((u9 2), .inl (ca 0, 1200, .inl (fun _ => 0))), (q16, .inr (0, [.ref q5, .ref (u24 0), .ref (u24 1), .ref (u24 2), .ref (u24 3), .int 0])), ((u24 0), .inl (ca 0, 400, .inl (fun _ => 0))), ((u24 1), .inl (ca 0, 400, .inl (fun _ => 0))), ((u24 2), .inl (ca 0, 400, .inl (fun _ => 0))), ((u24 3), .inl (ca 0, 400, .inl (fun _ => 0))), (q31, .inr (3, [.ref q16, .ref (u39 0), .ref (u39 1), .ref (u39 2), .ref (u39 3), .ref (u39 4), .int 0, .int 0])), ((u39 0), .inl (ca 0, 400, .inl (fun _ => 0))), ((u39 1), .inl (ca 0, 400, .inl (fun _ => 0))), ((u39 2), .inl (ca 0, 400, .inl (fun _ => 0))), ((u39 3), .inl (ca 0, 400, .inl (fun _ => 0))), ((u39 4), .inl (ca 0, 400, .inl (fun _ => 0))), (q46, .inr (2, [.ref q16, .ref (u54 0), .ref (u54 1), .ref (u54 2)])), ((u54 0), .inl (ca 0, 401, .inl (fun _ => 0))), ((u54 1), .inl (ca 0, 400, .inl (fun _ => 0))), ((u54 2), .inl (ca 0, 400, .inl (fun _ => 0))), (q63, .inl (ca 0, 20, .inl (fun _ => 0))), (q71, .inl (ca 0, 20, .inl (fun _ => 0))), (q79, .inl (ca 0, 20, .inl (fun _ => 0)))] := hD
  refine lv_aload_n hx hb tn_i4_84 rfl (lv_at hl 0 rfl) ?_
  refine lv_iconst (v := 0) hx hb tn_i4_85 (by decide) ?_
  refine va_put (D := D) (ci := 4) (v := .int 0) (ty := .int) (C := tn_R4) (T := tn_T4) (N := 9) hx hb hts tn_iw4 tn_ty4 tn_to4 tn_nm4 hown hK hP hD hS 0 rfl rfl 7 (by decide) (hts (.fieldLink tn_R4 51 tn_R4 "points" "I") tn_wc64) (fun _ h9 => h9) rfl (by decide +kernel) rfl rfl (Nat.le_of_ble_eq_true rfl) tn_i4_86 (fun H locs hP hD hS => ?_)
  have hP : va_P D tn_cl [(h0, .inr (4, [.ref q5, .ref q16, .ref q31, .ref q46, .ref q63, .ref q71, .ref q79, .int 0, .int 0])), (q5, .inr (1, [.ref (u9 0), .ref (u9 1), .ref (u9 2), .int 0, .int 0])), ((u9 0), .inl (ca 0, 40, .inl (fun _ => 0))), ((u9 1), .inl (ca 0, 400, .inl (fun _ => 0))), ((u9 2), .inl (ca 0, 1200, .inl (fun _ => 0))), (q16, .inr (0, [.ref q5, .ref (u24 0), .ref (u24 1), .ref (u24 2), .ref (u24 3), .int 0])), ((u24 0), .inl (ca 0, 400, .inl (fun _ => 0))), ((u24 1), .inl (ca 0, 400, .inl (fun _ => 0))), ((u24 2), .inl (ca 0, 400, .inl (fun _ => 0))), ((u24 3), .inl (ca 0, 400, .inl (fun _ => 0))), (q31, .inr (3, [.ref q16, .ref (u39 0), .ref (u39 1), .ref (u39 2), .ref (u39 3), .ref (u39 4), .int 0, .int 0])), ((u39 0), .inl (ca 0, 400, .inl (fun _ => 0))), ((u39 1), .inl (ca 0, 400, .inl (fun _ => 0))), ((u39 2), .inl (ca 0, 400, .inl (fun _ => 0))), ((u39 3), .inl (ca 0, 400, .inl (fun _ => 0))), ((u39 4), .inl (ca 0, 400, .inl (fun _ => 0))), (q46, .inr (2, [.ref q16, .ref (u54 0), .ref (u54 1), .ref (u54 2)])), ((u54 0), .inl (ca 0, 401, .inl (fun _ => 0))), ((u54 1), .inl (ca 0, 400, .inl (fun _ => 0))), ((u54 2), .inl (ca 0, 400, .inl (fun _ => 0))), (q63, .inl (ca 0, 20, .inl (fun _ => 0))), (q71, .inl (ca 0, 20, .inl (fun _ => 0))), (q79, .inl (ca 0, 20, .inl (fun _ => 0)))] H := hP
  have hD : va_D A [(h0, .inr (4, [.ref q5, .ref q16, .ref q31, .ref q46, .ref q63, .ref q71, .ref q79, .int 0, .int 0])), (q5, .inr (1, [.ref (u9 0), .ref (u9 1), .ref (u9 2), .int 0, .int 0])), ((u9 0), .inl (ca 0, 40, .inl (fun _ => 0))), ((u9 1), .inl (ca 0, 400, .inl (fun _ => 0))), ((u9 2), .inl (ca 0, 1200, .inl (fun _ => 0))), (q16, .inr (0, [.ref q5, .ref (u24 0), .ref (u24 1), .ref (u24 2), .ref (u24 3), .int 0])), ((u24 0), .inl (ca 0, 400, .inl (fun _ => 0))), ((u24 1), .inl (ca 0, 400, .inl (fun _ => 0))), ((u24 2), .inl (ca 0, 400, .inl (fun _ => 0))), ((u24 3), .inl (ca 0, 400, .inl (fun _ => 0))), (q31, .inr (3, [.ref q16, .ref (u39 0), .ref (u39 1), .ref (u39 2), .ref (u39 3), .ref (u39 4), .int 0, .int 0])), ((u39 0), .inl (ca 0, 400, .inl (fun _ => 0))), ((u39 1), .inl (ca 0, 400, .inl (fun _ => 0))), ((u39 2), .inl (ca 0, 400, .inl (fun _ => 0))), ((u39 3), .inl (ca 0, 400, .inl (fun _ => 0))), ((u39 4), .inl (ca 0, 400, .inl (fun _ => 0))), (q46, .inr (2, [.ref q16, .ref (u54 0), .ref (u54 1), .ref (u54 2)])), ((u54 0), .inl (ca 0, 401, .inl (fun _ => 0))), ((u54 1), .inl (ca 0, 400, .inl (fun _ => 0))), ((u54 2), .inl (ca 0, 400, .inl (fun _ => 0))), (q63, .inl (ca 0, 20, .inl (fun _ => 0))), (q71, .inl (ca 0, 20, .inl (fun _ => 0))), (q79, .inl (ca 0, 20, .inl (fun _ => 0)))] := hD
  refine lv_aload_n hx hb tn_i4_89 rfl (lv_at hl 0 rfl) ?_
  refine lv_iconst (v := 0) hx hb tn_i4_90 (by decide) ?_
  refine va_put (D := D) (ci := 4) (v := .int 0) (ty := .int) (C := tn_R4) (T := tn_T4) (N := 9) hx hb hts tn_iw4 tn_ty4 tn_to4 tn_nm4 hown hK hP hD hS 0 rfl rfl 8 (by decide) (hts (.fieldLink tn_R4 55 tn_R4 "equations" "I") tn_wc65) (fun _ h9 => h9) rfl (by decide +kernel) rfl rfl (Nat.le_of_ble_eq_true rfl) tn_i4_91 (fun H locs hP hD hS => ?_)
  have hP : va_P D tn_cl [(h0, .inr (4, [.ref q5, .ref q16, .ref q31, .ref q46, .ref q63, .ref q71, .ref q79, .int 0, .int 0])), (q5, .inr (1, [.ref (u9 0), .ref (u9 1), .ref (u9 2), .int 0, .int 0])), ((u9 0), .inl (ca 0, 40, .inl (fun _ => 0))), ((u9 1), .inl (ca 0, 400, .inl (fun _ => 0))), ((u9 2), .inl (ca 0, 1200, .inl (fun _ => 0))), (q16, .inr (0, [.ref q5, .ref (u24 0), .ref (u24 1), .ref (u24 2), .ref (u24 3), .int 0])), ((u24 0), .inl (ca 0, 400, .inl (fun _ => 0))), ((u24 1), .inl (ca 0, 400, .inl (fun _ => 0))), ((u24 2), .inl (ca 0, 400, .inl (fun _ => 0))), ((u24 3), .inl (ca 0, 400, .inl (fun _ => 0))), (q31, .inr (3, [.ref q16, .ref (u39 0), .ref (u39 1), .ref (u39 2), .ref (u39 3), .ref (u39 4), .int 0, .int 0])), ((u39 0), .inl (ca 0, 400, .inl (fun _ => 0))), ((u39 1), .inl (ca 0, 400, .inl (fun _ => 0))), ((u39 2), .inl (ca 0, 400, .inl (fun _ => 0))), ((u39 3), .inl (ca 0, 400, .inl (fun _ => 0))), ((u39 4), .inl (ca 0, 400, .inl (fun _ => 0))), (q46, .inr (2, [.ref q16, .ref (u54 0), .ref (u54 1), .ref (u54 2)])), ((u54 0), .inl (ca 0, 401, .inl (fun _ => 0))), ((u54 1), .inl (ca 0, 400, .inl (fun _ => 0))), ((u54 2), .inl (ca 0, 400, .inl (fun _ => 0))), (q63, .inl (ca 0, 20, .inl (fun _ => 0))), (q71, .inl (ca 0, 20, .inl (fun _ => 0))), (q79, .inl (ca 0, 20, .inl (fun _ => 0)))] H := hP
  have hD : va_D A [(h0, .inr (4, [.ref q5, .ref q16, .ref q31, .ref q46, .ref q63, .ref q71, .ref q79, .int 0, .int 0])), (q5, .inr (1, [.ref (u9 0), .ref (u9 1), .ref (u9 2), .int 0, .int 0])), ((u9 0), .inl (ca 0, 40, .inl (fun _ => 0))), ((u9 1), .inl (ca 0, 400, .inl (fun _ => 0))), ((u9 2), .inl (ca 0, 1200, .inl (fun _ => 0))), (q16, .inr (0, [.ref q5, .ref (u24 0), .ref (u24 1), .ref (u24 2), .ref (u24 3), .int 0])), ((u24 0), .inl (ca 0, 400, .inl (fun _ => 0))), ((u24 1), .inl (ca 0, 400, .inl (fun _ => 0))), ((u24 2), .inl (ca 0, 400, .inl (fun _ => 0))), ((u24 3), .inl (ca 0, 400, .inl (fun _ => 0))), (q31, .inr (3, [.ref q16, .ref (u39 0), .ref (u39 1), .ref (u39 2), .ref (u39 3), .ref (u39 4), .int 0, .int 0])), ((u39 0), .inl (ca 0, 400, .inl (fun _ => 0))), ((u39 1), .inl (ca 0, 400, .inl (fun _ => 0))), ((u39 2), .inl (ca 0, 400, .inl (fun _ => 0))), ((u39 3), .inl (ca 0, 400, .inl (fun _ => 0))), ((u39 4), .inl (ca 0, 400, .inl (fun _ => 0))), (q46, .inr (2, [.ref q16, .ref (u54 0), .ref (u54 1), .ref (u54 2)])), ((u54 0), .inl (ca 0, 401, .inl (fun _ => 0))), ((u54 1), .inl (ca 0, 400, .inl (fun _ => 0))), ((u54 2), .inl (ca 0, 400, .inl (fun _ => 0))), (q63, .inl (ca 0, 20, .inl (fun _ => 0))), (q71, .inl (ca 0, 20, .inl (fun _ => 0))), (q79, .inl (ca 0, 20, .inl (fun _ => 0)))] := hD
  have hP9 : va_P D tn_cl (am_W tn_X (fun k => [h0, q5, q16, q31, q46, q63, q71, q79, (u9 0), (u9 1), (u9 2), (u24 0), (u24 1), (u24 2), (u24 3), (u39 0), (u39 1), (u39 2), (u39 3), (u39 4), (u54 0), (u54 1), (u54 2)].getD k 0) ca tn_z) H := by
    rw [tn_WX]
    exact hP.sub [0, 1, 5, 10, 16, 20, 21, 22, 2, 3, 4, 6, 7, 8, 9, 11, 12, 13, 14, 15, 17, 18, 19] rfl
  have hD9 : va_D A (am_W tn_X (fun k => [h0, q5, q16, q31, q46, q63, q71, q79, (u9 0), (u9 1), (u9 2), (u24 0), (u24 1), (u24 2), (u24 3), (u39 0), (u39 1), (u39 2), (u39 3), (u39 4), (u54 0), (u54 1), (u54 2)].getD k 0) ca tn_z) := by
    rw [tn_WX]
    exact hD.sub [0, 1, 5, 10, 16, 20, 21, 22, 2, 3, 4, 6, 7, 8, 9, 11, 12, 13, 14, 15, 17, 18, 19] (by decide) rfl
  exact W.vret hx hb hr (fun t ht hW => ⟨⟨(fun k => [h0, q5, q16, q31, q46, q63, q71, q79, (u9 0), (u9 1), (u9 2), (u24 0), (u24 1), (u24 2), (u24 3), (u39 0), (u39 1), (u39 2), (u39 3), (u39 4), (u54 0), (u54 1), (u54 2)].getD k 0), rfl, rfl, by rw [ht]; exact hP9, hD9⟩, hS.F ht⟩) hS.2.2 tn_i4_94
theorem tn_y5_cd : Cond.code tn_y5 prog_7_method_1_code 1 none ∈ tn_TS := tn_wc5
theorem tn_i5_0 : decode prog_7_method_1_code 0 = .ok (.aload_n 0, 1) := by decide +kernel
theorem tn_i5_1 : decode prog_7_method_1_code 1 = .ok (.invokespecial 1, 3) := by decide +kernel
theorem tn_i5_4 : decode prog_7_method_1_code 4 = .ok (.aload_n 0, 1) := by decide +kernel
theorem tn_i5_5 : decode prog_7_method_1_code 5 = .ok (.bipush 40, 2) := by decide +kernel
theorem tn_i5_7 : decode prog_7_method_1_code 7 = .ok (.newarray .int, 2) := by decide +kernel
theorem tn_i5_9 : decode prog_7_method_1_code 9 = .ok (.putfield 9, 3) := by decide +kernel
theorem tn_i5_12 : decode prog_7_method_1_code 12 = .ok (.aload_n 0, 1) := by decide +kernel
theorem tn_i5_13 : decode prog_7_method_1_code 13 = .ok (.sipush 400, 3) := by decide +kernel
theorem tn_i5_16 : decode prog_7_method_1_code 16 = .ok (.newarray .int, 2) := by decide +kernel
theorem tn_i5_18 : decode prog_7_method_1_code 18 = .ok (.putfield 13, 3) := by decide +kernel
theorem tn_i5_21 : decode prog_7_method_1_code 21 = .ok (.aload_n 0, 1) := by decide +kernel
theorem tn_i5_22 : decode prog_7_method_1_code 22 = .ok (.sipush 1200, 3) := by decide +kernel
theorem tn_i5_25 : decode prog_7_method_1_code 25 = .ok (.newarray .int, 2) := by decide +kernel
theorem tn_i5_27 : decode prog_7_method_1_code 27 = .ok (.putfield 16, 3) := by decide +kernel
theorem tn_i5_30 : decode prog_7_method_1_code 30 = .ok (.aload_n 0, 1) := by decide +kernel
theorem tn_i5_31 : decode prog_7_method_1_code 31 = .ok (.sipush 400, 3) := by decide +kernel
theorem tn_i5_34 : decode prog_7_method_1_code 34 = .ok (.newarray .int, 2) := by decide +kernel
theorem tn_i5_36 : decode prog_7_method_1_code 36 = .ok (.putfield 19, 3) := by decide +kernel
theorem tn_i5_39 : decode prog_7_method_1_code 39 = .ok (.aload_n 0, 1) := by decide +kernel
theorem tn_i5_40 : decode prog_7_method_1_code 40 = .ok (.sipush 400, 3) := by decide +kernel
theorem tn_i5_43 : decode prog_7_method_1_code 43 = .ok (.newarray .int, 2) := by decide +kernel
theorem tn_i5_45 : decode prog_7_method_1_code 45 = .ok (.putfield 22, 3) := by decide +kernel
theorem tn_i5_48 : decode prog_7_method_1_code 48 = .ok (.aload_n 0, 1) := by decide +kernel
theorem tn_i5_49 : decode prog_7_method_1_code 49 = .ok (.bipush 20, 2) := by decide +kernel
theorem tn_i5_51 : decode prog_7_method_1_code 51 = .ok (.newarray .int, 2) := by decide +kernel
theorem tn_i5_53 : decode prog_7_method_1_code 53 = .ok (.putfield 25, 3) := by decide +kernel
theorem tn_i5_56 : decode prog_7_method_1_code 56 = .ok (.aload_n 0, 1) := by decide +kernel
theorem tn_i5_57 : decode prog_7_method_1_code 57 = .ok (.bipush 20, 2) := by decide +kernel
theorem tn_i5_59 : decode prog_7_method_1_code 59 = .ok (.newarray .int, 2) := by decide +kernel
theorem tn_i5_61 : decode prog_7_method_1_code 61 = .ok (.putfield 28, 3) := by decide +kernel
theorem tn_i5_64 : decode prog_7_method_1_code 64 = .ok (.aload_n 0, 1) := by decide +kernel
theorem tn_i5_65 : decode prog_7_method_1_code 65 = .ok (.sipush 8000, 3) := by decide +kernel
theorem tn_i5_68 : decode prog_7_method_1_code 68 = .ok (.newarray .int, 2) := by decide +kernel
theorem tn_i5_70 : decode prog_7_method_1_code 70 = .ok (.putfield 31, 3) := by decide +kernel
theorem tn_i5_73 : decode prog_7_method_1_code 73 = .ok (.aload_n 0, 1) := by decide +kernel
theorem tn_i5_74 : decode prog_7_method_1_code 74 = .ok (.sipush 400, 3) := by decide +kernel
theorem tn_i5_77 : decode prog_7_method_1_code 77 = .ok (.newarray .int, 2) := by decide +kernel
theorem tn_i5_79 : decode prog_7_method_1_code 79 = .ok (.putfield 34, 3) := by decide +kernel
theorem tn_i5_82 : decode prog_7_method_1_code 82 = .ok (.aload_n 0, 1) := by decide +kernel
theorem tn_i5_83 : decode prog_7_method_1_code 83 = .ok (.sipush 400, 3) := by decide +kernel
theorem tn_i5_86 : decode prog_7_method_1_code 86 = .ok (.newarray .int, 2) := by decide +kernel
theorem tn_i5_88 : decode prog_7_method_1_code 88 = .ok (.putfield 37, 3) := by decide +kernel
theorem tn_i5_91 : decode prog_7_method_1_code 91 = .ok (.aload_n 0, 1) := by decide +kernel
theorem tn_i5_92 : decode prog_7_method_1_code 92 = .ok (.sipush 400, 3) := by decide +kernel
theorem tn_i5_95 : decode prog_7_method_1_code 95 = .ok (.newarray .int, 2) := by decide +kernel
theorem tn_i5_97 : decode prog_7_method_1_code 97 = .ok (.putfield 40, 3) := by decide +kernel
theorem tn_i5_100 : decode prog_7_method_1_code 100 = .ok (.aload_n 0, 1) := by decide +kernel
theorem tn_i5_101 : decode prog_7_method_1_code 101 = .ok (.sipush 400, 3) := by decide +kernel
theorem tn_i5_104 : decode prog_7_method_1_code 104 = .ok (.newarray .boolean, 2) := by decide +kernel
theorem tn_i5_106 : decode prog_7_method_1_code 106 = .ok (.putfield 43, 3) := by decide +kernel
theorem tn_i5_109 : decode prog_7_method_1_code 109 = .ok (.aload_n 0, 1) := by decide +kernel
theorem tn_i5_110 : decode prog_7_method_1_code 110 = .ok (.sipush 400, 3) := by decide +kernel
theorem tn_i5_113 : decode prog_7_method_1_code 113 = .ok (.newarray .boolean, 2) := by decide +kernel
theorem tn_i5_115 : decode prog_7_method_1_code 115 = .ok (.putfield 47, 3) := by decide +kernel
theorem tn_i5_118 : decode prog_7_method_1_code 118 = .ok (.return_, 1) := by decide +kernel
set_option maxHeartbeats 4000000 in
set_option maxRecDepth 100000 in
theorem tn_c5_init (l : Launch) (D : va_G) (ca : Nat → ClassId) (h0 : Nat) (sz : Nat) : Met l tn_y5 (Cond.code tn_y5 prog_7_method_1_code 1 none :: tn_TS) ({ frames := 1, cells := 13, slots := 12480, locals := 12 }) (va_Pc [.ref h0] (fun U => U.heap.size = sz ∧ va_P D tn_cl [(h0, .inr (5, [.null, .null, .null, .int 0, .int 0, .int 0, .int 0, .int 0, .null, .null, .null, .null, .null, .null, .null, .null, .null, .null]))] U.heap ∧ va_K D tn_cl (am_ty ca) U ∧ va_D (fun _ => True) [(h0, .inr (5, [.null, .null, .null, .int 0, .int 0, .int 0, .int 0, .int 0, .null, .null, .null, .null, .null, .null, .null, .null, .null, .null]))])) (va_Qv (fun a : Nat → Nat => a 0 = h0) (fun a t => va_P D tn_cl (am_W tn_Y a ca tn_z) t.heap ∧ va_D (va_A [(h0, .inr (5, [.null, .null, .null, .int 0, .int 0, .int 0, .int 0, .int 0, .null, .null, .null, .null, .null, .null, .null, .null, .null, .null]))] sz) (am_W tn_Y a ca tn_z)) (va_A [(h0, .inr (5, [.null, .null, .null, .int 0, .int 0, .int 0, .int 0, .int 0, .null, .null, .null, .null, .null, .null, .null, .null, .null, .null]))] sz)) 13 12480 (va_A [(h0, .inr (5, [.null, .null, .null, .int 0, .int 0, .int 0, .int 0, .int 0, .null, .null, .null, .null, .null, .null, .null, .null, .null, .null]))] sz) := by
  refine Met.ofW (cc := prog_7_method_1_code) (maxL := 1) (ret := none) (by decide) rfl ?_
  intro p e s m args below meth c s₁ B hml hv
  obtain ⟨rfl, hsz, hP, hK, hD0⟩ := hv
  have hx := B.exec
  have hb := B.bytes
  have hr := B.returns
  have hts : ∀ w ∈ tn_TS, w.before _ s = true := fun w hw => atoms_spec (ws := Cond.code tn_y5 prog_7_method_1_code 1 none :: tn_TS) B.pre w (List.mem_cons_of_mem _ hw)
  have hown : s.vm.findClass tn_R5 = some m.cls := findClass_of_methodNamed B.named
  have hlocks := B.notSynchronized
  have hin : meth.name = "<init>" := (name_of_methodNamed B.named B.method).1
  subst hsz
  have hD := hD0.self (sz := s.heap.size)
  generalize hAe : va_A [(h0, .inr (5, [.null, .null, .null, .int 0, .int 0, .int 0, .int 0, .int 0, .null, .null, .null, .null, .null, .null, .null, .null, .null, .null]))] s.heap.size = A at hD ⊢
  have hA : ∀ q : Nat, s.heap.size ≤ q → A q := fun q h => by rw [← hAe]; exact Or.inr h
  have hS : va_S A s.heap s.heap [] := va_S.rf
  have hl := lv_entry ([.ref h0]) (n := 1) (Nat.le_of_ble_eq_true rfl)
  rw [lg_entry_eq]
  generalize (lg_sl ([.ref h0]) ++ List.replicate (1 - (lg_sl ([.ref h0])).length) Slot.unset).toArray = ls at hl ⊢
  have hl : lv_has ls 1 [(0, .ref h0)] := hl
  refine lv_aload_n hx hb tn_i5_0 rfl (lv_at hl 0 rfl) ?_
  refine W.objInit hx hb hown (hts (.methodLink tn_R5 1 objectInit) tn_wc66) (hts (.instanceMethod objectInit) tn_wc9) (hts (.code objectInit ⟨#[0xb1]⟩ 1 none) tn_wc10) rfl (by rw [hml]; exact hl.1) rfl tn_i5_1 (Nat.le_of_ble_eq_true rfl) (Nat.le_of_ble_eq_true rfl) ?_
  refine W.eq (g2 := F0 m 4 ls []) rfl ?_
  refine lv_aload_n hx hb tn_i5_4 rfl (lv_at hl 0 rfl) ?_
  refine lv_bipush (v := 40) hx hb tn_i5_5 (by decide) ?_
  refine tn_newI (N := 40) (ca := ca) hx hb hts hK hP hD hS hA (by decide) (by decide) (by decide) (Nat.le_of_ble_eq_true rfl) (Nat.le_of_ble_eq_true rfl) tn_i5_7 (fun q7 H hP hD hS => ?_)
  have hP : va_P D tn_cl [(h0, .inr (5, [.null, .null, .null, .int 0, .int 0, .int 0, .int 0, .int 0, .null, .null, .null, .null, .null, .null, .null, .null, .null, .null])), (q7, .inl (ca 0, 40, .inl (fun _ => 0)))] H := hP
  have hD : va_D A [(h0, .inr (5, [.null, .null, .null, .int 0, .int 0, .int 0, .int 0, .int 0, .null, .null, .null, .null, .null, .null, .null, .null, .null, .null])), (q7, .inl (ca 0, 40, .inl (fun _ => 0)))] := hD
  refine W.widen (k := 1) (n := 40) (Nat.le_of_ble_eq_true rfl) (Nat.le_of_ble_eq_true rfl) ?_
  refine va_putF (D := D) (ci := 5) (v := .ref q7) (ty := .array .int) (C := tn_R5) (T := tn_T5) (N := 18) hx hb hts tn_iw5 tn_ty5 tn_to5 tn_nm5 hown hK hP hD hS 0 rfl rfl 0 (by decide) (hts (.fieldLink tn_R5 9 tn_R5 "arity" "[I") tn_wc67) (fun _ h9 => h9) rfl hin rfl (by decide +kernel) rfl rfl (Nat.le_of_ble_eq_true rfl) tn_i5_9 (fun H locs hP hD hS => ?_)
  have hP : va_P D tn_cl [(h0, .inr (5, [.ref q7, .null, .null, .int 0, .int 0, .int 0, .int 0, .int 0, .null, .null, .null, .null, .null, .null, .null, .null, .null, .null])), (q7, .inl (ca 0, 40, .inl (fun _ => 0)))] H := hP
  have hD : va_D A [(h0, .inr (5, [.ref q7, .null, .null, .int 0, .int 0, .int 0, .int 0, .int 0, .null, .null, .null, .null, .null, .null, .null, .null, .null, .null])), (q7, .inl (ca 0, 40, .inl (fun _ => 0)))] := hD
  refine lv_aload_n hx hb tn_i5_12 rfl (lv_at hl 0 rfl) ?_
  refine lv_sipush (v := 400) hx hb tn_i5_13 (by decide) ?_
  refine tn_newI (N := 400) (ca := ca) hx hb hts hK hP hD hS hA (by decide) (by decide) (by decide) (Nat.le_of_ble_eq_true rfl) (Nat.le_of_ble_eq_true rfl) tn_i5_16 (fun q16 H hP hD hS => ?_)
  have hP : va_P D tn_cl [(h0, .inr (5, [.ref q7, .null, .null, .int 0, .int 0, .int 0, .int 0, .int 0, .null, .null, .null, .null, .null, .null, .null, .null, .null, .null])), (q7, .inl (ca 0, 40, .inl (fun _ => 0))), (q16, .inl (ca 0, 400, .inl (fun _ => 0)))] H := hP
  have hD : va_D A [(h0, .inr (5, [.ref q7, .null, .null, .int 0, .int 0, .int 0, .int 0, .int 0, .null, .null, .null, .null, .null, .null, .null, .null, .null, .null])), (q7, .inl (ca 0, 40, .inl (fun _ => 0))), (q16, .inl (ca 0, 400, .inl (fun _ => 0)))] := hD
  refine W.widen (k := 2) (n := 440) (Nat.le_of_ble_eq_true rfl) (Nat.le_of_ble_eq_true rfl) ?_
  refine va_putF (D := D) (ci := 5) (v := .ref q16) (ty := .array .int) (C := tn_R5) (T := tn_T5) (N := 18) hx hb hts tn_iw5 tn_ty5 tn_to5 tn_nm5 hown hK hP hD hS 0 rfl rfl 1 (by decide) (hts (.fieldLink tn_R5 13 tn_R5 "sign" "[I") tn_wc68) (fun _ h9 => h9) rfl hin rfl (by decide +kernel) rfl rfl (Nat.le_of_ble_eq_true rfl) tn_i5_18 (fun H locs hP hD hS => ?_)
  have hP : va_P D tn_cl [(h0, .inr (5, [.ref q7, .ref q16, .null, .int 0, .int 0, .int 0, .int 0, .int 0, .null, .null, .null, .null, .null, .null, .null, .null, .null, .null])), (q7, .inl (ca 0, 40, .inl (fun _ => 0))), (q16, .inl (ca 0, 400, .inl (fun _ => 0)))] H := hP
  have hD : va_D A [(h0, .inr (5, [.ref q7, .ref q16, .null, .int 0, .int 0, .int 0, .int 0, .int 0, .null, .null, .null, .null, .null, .null, .null, .null, .null, .null])), (q7, .inl (ca 0, 40, .inl (fun _ => 0))), (q16, .inl (ca 0, 400, .inl (fun _ => 0)))] := hD
  refine lv_aload_n hx hb tn_i5_21 rfl (lv_at hl 0 rfl) ?_
  refine lv_sipush (v := 1200) hx hb tn_i5_22 (by decide) ?_
  refine tn_newI (N := 1200) (ca := ca) hx hb hts hK hP hD hS hA (by decide) (by decide) (by decide) (Nat.le_of_ble_eq_true rfl) (Nat.le_of_ble_eq_true rfl) tn_i5_25 (fun q25 H hP hD hS => ?_)
  have hP : va_P D tn_cl [(h0, .inr (5, [.ref q7, .ref q16, .null, .int 0, .int 0, .int 0, .int 0, .int 0, .null, .null, .null, .null, .null, .null, .null, .null, .null, .null])), (q7, .inl (ca 0, 40, .inl (fun _ => 0))), (q16, .inl (ca 0, 400, .inl (fun _ => 0))), (q25, .inl (ca 0, 1200, .inl (fun _ => 0)))] H := hP
  have hD : va_D A [(h0, .inr (5, [.ref q7, .ref q16, .null, .int 0, .int 0, .int 0, .int 0, .int 0, .null, .null, .null, .null, .null, .null, .null, .null, .null, .null])), (q7, .inl (ca 0, 40, .inl (fun _ => 0))), (q16, .inl (ca 0, 400, .inl (fun _ => 0))), (q25, .inl (ca 0, 1200, .inl (fun _ => 0)))] := hD
  refine W.widen (k := 3) (n := 1640) (Nat.le_of_ble_eq_true rfl) (Nat.le_of_ble_eq_true rfl) ?_
  refine va_putF (D := D) (ci := 5) (v := .ref q25) (ty := .array .int) (C := tn_R5) (T := tn_T5) (N := 18) hx hb hts tn_iw5 tn_ty5 tn_to5 tn_nm5 hown hK hP hD hS 0 rfl rfl 2 (by decide) (hts (.fieldLink tn_R5 16 tn_R5 "parts" "[I") tn_wc69) (fun _ h9 => h9) rfl hin rfl (by decide +kernel) rfl rfl (Nat.le_of_ble_eq_true rfl) tn_i5_27 (fun H locs hP hD hS => ?_)
  have hP : va_P D tn_cl [(h0, .inr (5, [.ref q7, .ref q16, .ref q25, .int 0, .int 0, .int 0, .int 0, .int 0, .null, .null, .null, .null, .null, .null, .null, .null, .null, .null])), (q7, .inl (ca 0, 40, .inl (fun _ => 0))), (q16, .inl (ca 0, 400, .inl (fun _ => 0))), (q25, .inl (ca 0, 1200, .inl (fun _ => 0)))] H := hP
  have hD : va_D A [(h0, .inr (5, [.ref q7, .ref q16, .ref q25, .int 0, .int 0, .int 0, .int 0, .int 0, .null, .null, .null, .null, .null, .null, .null, .null, .null, .null])), (q7, .inl (ca 0, 40, .inl (fun _ => 0))), (q16, .inl (ca 0, 400, .inl (fun _ => 0))), (q25, .inl (ca 0, 1200, .inl (fun _ => 0)))] := hD
  refine lv_aload_n hx hb tn_i5_30 rfl (lv_at hl 0 rfl) ?_
  refine lv_sipush (v := 400) hx hb tn_i5_31 (by decide) ?_
  refine tn_newI (N := 400) (ca := ca) hx hb hts hK hP hD hS hA (by decide) (by decide) (by decide) (Nat.le_of_ble_eq_true rfl) (Nat.le_of_ble_eq_true rfl) tn_i5_34 (fun q34 H hP hD hS => ?_)
  have hP : va_P D tn_cl [(h0, .inr (5, [.ref q7, .ref q16, .ref q25, .int 0, .int 0, .int 0, .int 0, .int 0, .null, .null, .null, .null, .null, .null, .null, .null, .null, .null])), (q7, .inl (ca 0, 40, .inl (fun _ => 0))), (q16, .inl (ca 0, 400, .inl (fun _ => 0))), (q25, .inl (ca 0, 1200, .inl (fun _ => 0))), (q34, .inl (ca 0, 400, .inl (fun _ => 0)))] H := hP
  have hD : va_D A [(h0, .inr (5, [.ref q7, .ref q16, .ref q25, .int 0, .int 0, .int 0, .int 0, .int 0, .null, .null, .null, .null, .null, .null, .null, .null, .null, .null])), (q7, .inl (ca 0, 40, .inl (fun _ => 0))), (q16, .inl (ca 0, 400, .inl (fun _ => 0))), (q25, .inl (ca 0, 1200, .inl (fun _ => 0))), (q34, .inl (ca 0, 400, .inl (fun _ => 0)))] := hD
  refine W.widen (k := 4) (n := 2040) (Nat.le_of_ble_eq_true rfl) (Nat.le_of_ble_eq_true rfl) ?_
  refine va_putF (D := D) (ci := 5) (v := .ref q34) (ty := .array .int) (C := tn_R5) (T := tn_T5) (N := 18) hx hb hts tn_iw5 tn_ty5 tn_to5 tn_nm5 hown hK hP hD hS 0 rfl rfl 8 (by decide) (hts (.fieldLink tn_R5 19 tn_R5 "least" "[I") tn_wc70) (fun _ h9 => h9) rfl hin rfl (by decide +kernel) rfl rfl (Nat.le_of_ble_eq_true rfl) tn_i5_36 (fun H locs hP hD hS => ?_)
  have hP : va_P D tn_cl [(h0, .inr (5, [.ref q7, .ref q16, .ref q25, .int 0, .int 0, .int 0, .int 0, .int 0, .ref q34, .null, .null, .null, .null, .null, .null, .null, .null, .null])), (q7, .inl (ca 0, 40, .inl (fun _ => 0))), (q16, .inl (ca 0, 400, .inl (fun _ => 0))), (q25, .inl (ca 0, 1200, .inl (fun _ => 0))), (q34, .inl (ca 0, 400, .inl (fun _ => 0)))] H := hP
  have hD : va_D A [(h0, .inr (5, [.ref q7, .ref q16, .ref q25, .int 0, .int 0, .int 0, .int 0, .int 0, .ref q34, .null, .null, .null, .null, .null, .null, .null, .null, .null])), (q7, .inl (ca 0, 40, .inl (fun _ => 0))), (q16, .inl (ca 0, 400, .inl (fun _ => 0))), (q25, .inl (ca 0, 1200, .inl (fun _ => 0))), (q34, .inl (ca 0, 400, .inl (fun _ => 0)))] := hD
  refine lv_aload_n hx hb tn_i5_39 rfl (lv_at hl 0 rfl) ?_
  refine lv_sipush (v := 400) hx hb tn_i5_40 (by decide) ?_
  refine tn_newI (N := 400) (ca := ca) hx hb hts hK hP hD hS hA (by decide) (by decide) (by decide) (Nat.le_of_ble_eq_true rfl) (Nat.le_of_ble_eq_true rfl) tn_i5_43 (fun q43 H hP hD hS => ?_)
  have hP : va_P D tn_cl [(h0, .inr (5, [.ref q7, .ref q16, .ref q25, .int 0, .int 0, .int 0, .int 0, .int 0, .ref q34, .null, .null, .null, .null, .null, .null, .null, .null, .null])), (q7, .inl (ca 0, 40, .inl (fun _ => 0))), (q16, .inl (ca 0, 400, .inl (fun _ => 0))), (q25, .inl (ca 0, 1200, .inl (fun _ => 0))), (q34, .inl (ca 0, 400, .inl (fun _ => 0))), (q43, .inl (ca 0, 400, .inl (fun _ => 0)))] H := hP
  have hD : va_D A [(h0, .inr (5, [.ref q7, .ref q16, .ref q25, .int 0, .int 0, .int 0, .int 0, .int 0, .ref q34, .null, .null, .null, .null, .null, .null, .null, .null, .null])), (q7, .inl (ca 0, 40, .inl (fun _ => 0))), (q16, .inl (ca 0, 400, .inl (fun _ => 0))), (q25, .inl (ca 0, 1200, .inl (fun _ => 0))), (q34, .inl (ca 0, 400, .inl (fun _ => 0))), (q43, .inl (ca 0, 400, .inl (fun _ => 0)))] := hD
  refine W.widen (k := 5) (n := 2440) (Nat.le_of_ble_eq_true rfl) (Nat.le_of_ble_eq_true rfl) ?_
  refine va_putF (D := D) (ci := 5) (v := .ref q43) (ty := .array .int) (C := tn_R5) (T := tn_T5) (N := 18) hx hb hts tn_iw5 tn_ty5 tn_to5 tn_nm5 hown hK hP hD hS 0 rfl rfl 9 (by decide) (hts (.fieldLink tn_R5 22 tn_R5 "tried" "[I") tn_wc71) (fun _ h9 => h9) rfl hin rfl (by decide +kernel) rfl rfl (Nat.le_of_ble_eq_true rfl) tn_i5_45 (fun H locs hP hD hS => ?_)
  have hP : va_P D tn_cl [(h0, .inr (5, [.ref q7, .ref q16, .ref q25, .int 0, .int 0, .int 0, .int 0, .int 0, .ref q34, .ref q43, .null, .null, .null, .null, .null, .null, .null, .null])), (q7, .inl (ca 0, 40, .inl (fun _ => 0))), (q16, .inl (ca 0, 400, .inl (fun _ => 0))), (q25, .inl (ca 0, 1200, .inl (fun _ => 0))), (q34, .inl (ca 0, 400, .inl (fun _ => 0))), (q43, .inl (ca 0, 400, .inl (fun _ => 0)))] H := hP
  have hD : va_D A [(h0, .inr (5, [.ref q7, .ref q16, .ref q25, .int 0, .int 0, .int 0, .int 0, .int 0, .ref q34, .ref q43, .null, .null, .null, .null, .null, .null, .null, .null])), (q7, .inl (ca 0, 40, .inl (fun _ => 0))), (q16, .inl (ca 0, 400, .inl (fun _ => 0))), (q25, .inl (ca 0, 1200, .inl (fun _ => 0))), (q34, .inl (ca 0, 400, .inl (fun _ => 0))), (q43, .inl (ca 0, 400, .inl (fun _ => 0)))] := hD
  refine lv_aload_n hx hb tn_i5_48 rfl (lv_at hl 0 rfl) ?_
  refine lv_bipush (v := 20) hx hb tn_i5_49 (by decide) ?_
  refine tn_newI (N := 20) (ca := ca) hx hb hts hK hP hD hS hA (by decide) (by decide) (by decide) (Nat.le_of_ble_eq_true rfl) (Nat.le_of_ble_eq_true rfl) tn_i5_51 (fun q51 H hP hD hS => ?_)
  have hP : va_P D tn_cl [(h0, .inr (5, [.ref q7, .ref q16, .ref q25, .int 0, .int 0, .int 0, .int 0, .int 0, .ref q34, .ref q43, .null, .null, .null, .null, .null, .null, .null, .null])), (q7, .inl (ca 0, 40, .inl (fun _ => 0))), (q16, .inl (ca 0, 400, .inl (fun _ => 0))), (q25, .inl (ca 0, 1200, .inl (fun _ => 0))), (q34, .inl (ca 0, 400, .inl (fun _ => 0))), (q43, .inl (ca 0, 400, .inl (fun _ => 0))), (q51, .inl (ca 0, 20, .inl (fun _ => 0)))] H := hP
  have hD : va_D A [(h0, .inr (5, [.ref q7, .ref q16, .ref q25, .int 0, .int 0, .int 0, .int 0, .int 0, .ref q34, .ref q43, .null, .null, .null, .null, .null, .null, .null, .null])), (q7, .inl (ca 0, 40, .inl (fun _ => 0))), (q16, .inl (ca 0, 400, .inl (fun _ => 0))), (q25, .inl (ca 0, 1200, .inl (fun _ => 0))), (q34, .inl (ca 0, 400, .inl (fun _ => 0))), (q43, .inl (ca 0, 400, .inl (fun _ => 0))), (q51, .inl (ca 0, 20, .inl (fun _ => 0)))] := hD
  refine W.widen (k := 6) (n := 2460) (Nat.le_of_ble_eq_true rfl) (Nat.le_of_ble_eq_true rfl) ?_
  refine va_putF (D := D) (ci := 5) (v := .ref q51) (ty := .array .int) (C := tn_R5) (T := tn_T5) (N := 18) hx hb hts tn_iw5 tn_ty5 tn_to5 tn_nm5 hown hK hP hD hS 0 rfl rfl 10 (by decide) (hts (.fieldLink tn_R5 25 tn_R5 "hadTerms" "[I") tn_wc72) (fun _ h9 => h9) rfl hin rfl (by decide +kernel) rfl rfl (Nat.le_of_ble_eq_true rfl) tn_i5_53 (fun H locs hP hD hS => ?_)
  have hP : va_P D tn_cl [(h0, .inr (5, [.ref q7, .ref q16, .ref q25, .int 0, .int 0, .int 0, .int 0, .int 0, .ref q34, .ref q43, .ref q51, .null, .null, .null, .null, .null, .null, .null])), (q7, .inl (ca 0, 40, .inl (fun _ => 0))), (q16, .inl (ca 0, 400, .inl (fun _ => 0))), (q25, .inl (ca 0, 1200, .inl (fun _ => 0))), (q34, .inl (ca 0, 400, .inl (fun _ => 0))), (q43, .inl (ca 0, 400, .inl (fun _ => 0))), (q51, .inl (ca 0, 20, .inl (fun _ => 0)))] H := hP
  have hD : va_D A [(h0, .inr (5, [.ref q7, .ref q16, .ref q25, .int 0, .int 0, .int 0, .int 0, .int 0, .ref q34, .ref q43, .ref q51, .null, .null, .null, .null, .null, .null, .null])), (q7, .inl (ca 0, 40, .inl (fun _ => 0))), (q16, .inl (ca 0, 400, .inl (fun _ => 0))), (q25, .inl (ca 0, 1200, .inl (fun _ => 0))), (q34, .inl (ca 0, 400, .inl (fun _ => 0))), (q43, .inl (ca 0, 400, .inl (fun _ => 0))), (q51, .inl (ca 0, 20, .inl (fun _ => 0)))] := hD
  refine lv_aload_n hx hb tn_i5_56 rfl (lv_at hl 0 rfl) ?_
  refine lv_bipush (v := 20) hx hb tn_i5_57 (by decide) ?_
  refine tn_newI (N := 20) (ca := ca) hx hb hts hK hP hD hS hA (by decide) (by decide) (by decide) (Nat.le_of_ble_eq_true rfl) (Nat.le_of_ble_eq_true rfl) tn_i5_59 (fun q59 H hP hD hS => ?_)
  have hP : va_P D tn_cl [(h0, .inr (5, [.ref q7, .ref q16, .ref q25, .int 0, .int 0, .int 0, .int 0, .int 0, .ref q34, .ref q43, .ref q51, .null, .null, .null, .null, .null, .null, .null])), (q7, .inl (ca 0, 40, .inl (fun _ => 0))), (q16, .inl (ca 0, 400, .inl (fun _ => 0))), (q25, .inl (ca 0, 1200, .inl (fun _ => 0))), (q34, .inl (ca 0, 400, .inl (fun _ => 0))), (q43, .inl (ca 0, 400, .inl (fun _ => 0))), (q51, .inl (ca 0, 20, .inl (fun _ => 0))), (q59, .inl (ca 0, 20, .inl (fun _ => 0)))] H := hP
  have hD : va_D A [(h0, .inr (5, [.ref q7, .ref q16, .ref q25, .int 0, .int 0, .int 0, .int 0, .int 0, .ref q34, .ref q43, .ref q51, .null, .null, .null, .null, .null, .null, .null])), (q7, .inl (ca 0, 40, .inl (fun _ => 0))), (q16, .inl (ca 0, 400, .inl (fun _ => 0))), (q25, .inl (ca 0, 1200, .inl (fun _ => 0))), (q34, .inl (ca 0, 400, .inl (fun _ => 0))), (q43, .inl (ca 0, 400, .inl (fun _ => 0))), (q51, .inl (ca 0, 20, .inl (fun _ => 0))), (q59, .inl (ca 0, 20, .inl (fun _ => 0)))] := hD
  refine W.widen (k := 7) (n := 2480) (Nat.le_of_ble_eq_true rfl) (Nat.le_of_ble_eq_true rfl) ?_
  refine va_putF (D := D) (ci := 5) (v := .ref q59) (ty := .array .int) (C := tn_R5) (T := tn_T5) (N := 18) hx hb hts tn_iw5 tn_ty5 tn_to5 tn_nm5 hown hK hP hD hS 0 rfl rfl 11 (by decide) (hts (.fieldLink tn_R5 28 tn_R5 "hadEquations" "[I") tn_wc73) (fun _ h9 => h9) rfl hin rfl (by decide +kernel) rfl rfl (Nat.le_of_ble_eq_true rfl) tn_i5_61 (fun H locs hP hD hS => ?_)
  have hP : va_P D tn_cl [(h0, .inr (5, [.ref q7, .ref q16, .ref q25, .int 0, .int 0, .int 0, .int 0, .int 0, .ref q34, .ref q43, .ref q51, .ref q59, .null, .null, .null, .null, .null, .null])), (q7, .inl (ca 0, 40, .inl (fun _ => 0))), (q16, .inl (ca 0, 400, .inl (fun _ => 0))), (q25, .inl (ca 0, 1200, .inl (fun _ => 0))), (q34, .inl (ca 0, 400, .inl (fun _ => 0))), (q43, .inl (ca 0, 400, .inl (fun _ => 0))), (q51, .inl (ca 0, 20, .inl (fun _ => 0))), (q59, .inl (ca 0, 20, .inl (fun _ => 0)))] H := hP
  have hD : va_D A [(h0, .inr (5, [.ref q7, .ref q16, .ref q25, .int 0, .int 0, .int 0, .int 0, .int 0, .ref q34, .ref q43, .ref q51, .ref q59, .null, .null, .null, .null, .null, .null])), (q7, .inl (ca 0, 40, .inl (fun _ => 0))), (q16, .inl (ca 0, 400, .inl (fun _ => 0))), (q25, .inl (ca 0, 1200, .inl (fun _ => 0))), (q34, .inl (ca 0, 400, .inl (fun _ => 0))), (q43, .inl (ca 0, 400, .inl (fun _ => 0))), (q51, .inl (ca 0, 20, .inl (fun _ => 0))), (q59, .inl (ca 0, 20, .inl (fun _ => 0)))] := hD
  refine lv_aload_n hx hb tn_i5_64 rfl (lv_at hl 0 rfl) ?_
  refine lv_sipush (v := 8000) hx hb tn_i5_65 (by decide) ?_
  refine tn_newI (N := 8000) (ca := ca) hx hb hts hK hP hD hS hA (by decide) (by decide) (by decide) (Nat.le_of_ble_eq_true rfl) (Nat.le_of_ble_eq_true rfl) tn_i5_68 (fun q68 H hP hD hS => ?_)
  have hP : va_P D tn_cl [(h0, .inr (5, [.ref q7, .ref q16, .ref q25, .int 0, .int 0, .int 0, .int 0, .int 0, .ref q34, .ref q43, .ref q51, .ref q59, .null, .null, .null, .null, .null, .null])), (q7, .inl (ca 0, 40, .inl (fun _ => 0))), (q16, .inl (ca 0, 400, .inl (fun _ => 0))), (q25, .inl (ca 0, 1200, .inl (fun _ => 0))), (q34, .inl (ca 0, 400, .inl (fun _ => 0))), (q43, .inl (ca 0, 400, .inl (fun _ => 0))), (q51, .inl (ca 0, 20, .inl (fun _ => 0))), (q59, .inl (ca 0, 20, .inl (fun _ => 0))), (q68, .inl (ca 0, 8000, .inl (fun _ => 0)))] H := hP
  have hD : va_D A [(h0, .inr (5, [.ref q7, .ref q16, .ref q25, .int 0, .int 0, .int 0, .int 0, .int 0, .ref q34, .ref q43, .ref q51, .ref q59, .null, .null, .null, .null, .null, .null])), (q7, .inl (ca 0, 40, .inl (fun _ => 0))), (q16, .inl (ca 0, 400, .inl (fun _ => 0))), (q25, .inl (ca 0, 1200, .inl (fun _ => 0))), (q34, .inl (ca 0, 400, .inl (fun _ => 0))), (q43, .inl (ca 0, 400, .inl (fun _ => 0))), (q51, .inl (ca 0, 20, .inl (fun _ => 0))), (q59, .inl (ca 0, 20, .inl (fun _ => 0))), (q68, .inl (ca 0, 8000, .inl (fun _ => 0)))] := hD
  refine W.widen (k := 8) (n := 10480) (Nat.le_of_ble_eq_true rfl) (Nat.le_of_ble_eq_true rfl) ?_
  refine va_putF (D := D) (ci := 5) (v := .ref q68) (ty := .array .int) (C := tn_R5) (T := tn_T5) (N := 18) hx hb hts tn_iw5 tn_ty5 tn_to5 tn_nm5 hown hK hP hD hS 0 rfl rfl 12 (by decide) (hts (.fieldLink tn_R5 31 tn_R5 "had" "[I") tn_wc74) (fun _ h9 => h9) rfl hin rfl (by decide +kernel) rfl rfl (Nat.le_of_ble_eq_true rfl) tn_i5_70 (fun H locs hP hD hS => ?_)
  have hP : va_P D tn_cl [(h0, .inr (5, [.ref q7, .ref q16, .ref q25, .int 0, .int 0, .int 0, .int 0, .int 0, .ref q34, .ref q43, .ref q51, .ref q59, .ref q68, .null, .null, .null, .null, .null])), (q7, .inl (ca 0, 40, .inl (fun _ => 0))), (q16, .inl (ca 0, 400, .inl (fun _ => 0))), (q25, .inl (ca 0, 1200, .inl (fun _ => 0))), (q34, .inl (ca 0, 400, .inl (fun _ => 0))), (q43, .inl (ca 0, 400, .inl (fun _ => 0))), (q51, .inl (ca 0, 20, .inl (fun _ => 0))), (q59, .inl (ca 0, 20, .inl (fun _ => 0))), (q68, .inl (ca 0, 8000, .inl (fun _ => 0)))] H := hP
  have hD : va_D A [(h0, .inr (5, [.ref q7, .ref q16, .ref q25, .int 0, .int 0, .int 0, .int 0, .int 0, .ref q34, .ref q43, .ref q51, .ref q59, .ref q68, .null, .null, .null, .null, .null])), (q7, .inl (ca 0, 40, .inl (fun _ => 0))), (q16, .inl (ca 0, 400, .inl (fun _ => 0))), (q25, .inl (ca 0, 1200, .inl (fun _ => 0))), (q34, .inl (ca 0, 400, .inl (fun _ => 0))), (q43, .inl (ca 0, 400, .inl (fun _ => 0))), (q51, .inl (ca 0, 20, .inl (fun _ => 0))), (q59, .inl (ca 0, 20, .inl (fun _ => 0))), (q68, .inl (ca 0, 8000, .inl (fun _ => 0)))] := hD
  refine lv_aload_n hx hb tn_i5_73 rfl (lv_at hl 0 rfl) ?_
  refine lv_sipush (v := 400) hx hb tn_i5_74 (by decide) ?_
  refine tn_newI (N := 400) (ca := ca) hx hb hts hK hP hD hS hA (by decide) (by decide) (by decide) (Nat.le_of_ble_eq_true rfl) (Nat.le_of_ble_eq_true rfl) tn_i5_77 (fun q77 H hP hD hS => ?_)
  have hP : va_P D tn_cl [(h0, .inr (5, [.ref q7, .ref q16, .ref q25, .int 0, .int 0, .int 0, .int 0, .int 0, .ref q34, .ref q43, .ref q51, .ref q59, .ref q68, .null, .null, .null, .null, .null])), (q7, .inl (ca 0, 40, .inl (fun _ => 0))), (q16, .inl (ca 0, 400, .inl (fun _ => 0))), (q25, .inl (ca 0, 1200, .inl (fun _ => 0))), (q34, .inl (ca 0, 400, .inl (fun _ => 0))), (q43, .inl (ca 0, 400, .inl (fun _ => 0))), (q51, .inl (ca 0, 20, .inl (fun _ => 0))), (q59, .inl (ca 0, 20, .inl (fun _ => 0))), (q68, .inl (ca 0, 8000, .inl (fun _ => 0))), (q77, .inl (ca 0, 400, .inl (fun _ => 0)))] H := hP
  have hD : va_D A [(h0, .inr (5, [.ref q7, .ref q16, .ref q25, .int 0, .int 0, .int 0, .int 0, .int 0, .ref q34, .ref q43, .ref q51, .ref q59, .ref q68, .null, .null, .null, .null, .null])), (q7, .inl (ca 0, 40, .inl (fun _ => 0))), (q16, .inl (ca 0, 400, .inl (fun _ => 0))), (q25, .inl (ca 0, 1200, .inl (fun _ => 0))), (q34, .inl (ca 0, 400, .inl (fun _ => 0))), (q43, .inl (ca 0, 400, .inl (fun _ => 0))), (q51, .inl (ca 0, 20, .inl (fun _ => 0))), (q59, .inl (ca 0, 20, .inl (fun _ => 0))), (q68, .inl (ca 0, 8000, .inl (fun _ => 0))), (q77, .inl (ca 0, 400, .inl (fun _ => 0)))] := hD
  refine W.widen (k := 9) (n := 10880) (Nat.le_of_ble_eq_true rfl) (Nat.le_of_ble_eq_true rfl) ?_
  refine va_putF (D := D) (ci := 5) (v := .ref q77) (ty := .array .int) (C := tn_R5) (T := tn_T5) (N := 18) hx hb hts tn_iw5 tn_ty5 tn_to5 tn_nm5 hown hK hP hD hS 0 rfl rfl 13 (by decide) (hts (.fieldLink tn_R5 34 tn_R5 "known" "[I") tn_wc75) (fun _ h9 => h9) rfl hin rfl (by decide +kernel) rfl rfl (Nat.le_of_ble_eq_true rfl) tn_i5_79 (fun H locs hP hD hS => ?_)
  have hP : va_P D tn_cl [(h0, .inr (5, [.ref q7, .ref q16, .ref q25, .int 0, .int 0, .int 0, .int 0, .int 0, .ref q34, .ref q43, .ref q51, .ref q59, .ref q68, .ref q77, .null, .null, .null, .null])), (q7, .inl (ca 0, 40, .inl (fun _ => 0))), (q16, .inl (ca 0, 400, .inl (fun _ => 0))), (q25, .inl (ca 0, 1200, .inl (fun _ => 0))), (q34, .inl (ca 0, 400, .inl (fun _ => 0))), (q43, .inl (ca 0, 400, .inl (fun _ => 0))), (q51, .inl (ca 0, 20, .inl (fun _ => 0))), (q59, .inl (ca 0, 20, .inl (fun _ => 0))), (q68, .inl (ca 0, 8000, .inl (fun _ => 0))), (q77, .inl (ca 0, 400, .inl (fun _ => 0)))] H := hP
  have hD : va_D A [(h0, .inr (5, [.ref q7, .ref q16, .ref q25, .int 0, .int 0, .int 0, .int 0, .int 0, .ref q34, .ref q43, .ref q51, .ref q59, .ref q68, .ref q77, .null, .null, .null, .null])), (q7, .inl (ca 0, 40, .inl (fun _ => 0))), (q16, .inl (ca 0, 400, .inl (fun _ => 0))), (q25, .inl (ca 0, 1200, .inl (fun _ => 0))), (q34, .inl (ca 0, 400, .inl (fun _ => 0))), (q43, .inl (ca 0, 400, .inl (fun _ => 0))), (q51, .inl (ca 0, 20, .inl (fun _ => 0))), (q59, .inl (ca 0, 20, .inl (fun _ => 0))), (q68, .inl (ca 0, 8000, .inl (fun _ => 0))), (q77, .inl (ca 0, 400, .inl (fun _ => 0)))] := hD
  refine lv_aload_n hx hb tn_i5_82 rfl (lv_at hl 0 rfl) ?_
  refine lv_sipush (v := 400) hx hb tn_i5_83 (by decide) ?_
  refine tn_newI (N := 400) (ca := ca) hx hb hts hK hP hD hS hA (by decide) (by decide) (by decide) (Nat.le_of_ble_eq_true rfl) (Nat.le_of_ble_eq_true rfl) tn_i5_86 (fun q86 H hP hD hS => ?_)
  have hP : va_P D tn_cl [(h0, .inr (5, [.ref q7, .ref q16, .ref q25, .int 0, .int 0, .int 0, .int 0, .int 0, .ref q34, .ref q43, .ref q51, .ref q59, .ref q68, .ref q77, .null, .null, .null, .null])), (q7, .inl (ca 0, 40, .inl (fun _ => 0))), (q16, .inl (ca 0, 400, .inl (fun _ => 0))), (q25, .inl (ca 0, 1200, .inl (fun _ => 0))), (q34, .inl (ca 0, 400, .inl (fun _ => 0))), (q43, .inl (ca 0, 400, .inl (fun _ => 0))), (q51, .inl (ca 0, 20, .inl (fun _ => 0))), (q59, .inl (ca 0, 20, .inl (fun _ => 0))), (q68, .inl (ca 0, 8000, .inl (fun _ => 0))), (q77, .inl (ca 0, 400, .inl (fun _ => 0))), (q86, .inl (ca 0, 400, .inl (fun _ => 0)))] H := hP
  have hD : va_D A [(h0, .inr (5, [.ref q7, .ref q16, .ref q25, .int 0, .int 0, .int 0, .int 0, .int 0, .ref q34, .ref q43, .ref q51, .ref q59, .ref q68, .ref q77, .null, .null, .null, .null])), (q7, .inl (ca 0, 40, .inl (fun _ => 0))), (q16, .inl (ca 0, 400, .inl (fun _ => 0))), (q25, .inl (ca 0, 1200, .inl (fun _ => 0))), (q34, .inl (ca 0, 400, .inl (fun _ => 0))), (q43, .inl (ca 0, 400, .inl (fun _ => 0))), (q51, .inl (ca 0, 20, .inl (fun _ => 0))), (q59, .inl (ca 0, 20, .inl (fun _ => 0))), (q68, .inl (ca 0, 8000, .inl (fun _ => 0))), (q77, .inl (ca 0, 400, .inl (fun _ => 0))), (q86, .inl (ca 0, 400, .inl (fun _ => 0)))] := hD
  refine W.widen (k := 10) (n := 11280) (Nat.le_of_ble_eq_true rfl) (Nat.le_of_ble_eq_true rfl) ?_
  refine va_putF (D := D) (ci := 5) (v := .ref q86) (ty := .array .int) (C := tn_R5) (T := tn_T5) (N := 18) hx hb hts tn_iw5 tn_ty5 tn_to5 tn_nm5 hown hK hP hD hS 0 rfl rfl 14 (by decide) (hts (.fieldLink tn_R5 37 tn_R5 "sizes" "[I") tn_wc76) (fun _ h9 => h9) rfl hin rfl (by decide +kernel) rfl rfl (Nat.le_of_ble_eq_true rfl) tn_i5_88 (fun H locs hP hD hS => ?_)
  have hP : va_P D tn_cl [(h0, .inr (5, [.ref q7, .ref q16, .ref q25, .int 0, .int 0, .int 0, .int 0, .int 0, .ref q34, .ref q43, .ref q51, .ref q59, .ref q68, .ref q77, .ref q86, .null, .null, .null])), (q7, .inl (ca 0, 40, .inl (fun _ => 0))), (q16, .inl (ca 0, 400, .inl (fun _ => 0))), (q25, .inl (ca 0, 1200, .inl (fun _ => 0))), (q34, .inl (ca 0, 400, .inl (fun _ => 0))), (q43, .inl (ca 0, 400, .inl (fun _ => 0))), (q51, .inl (ca 0, 20, .inl (fun _ => 0))), (q59, .inl (ca 0, 20, .inl (fun _ => 0))), (q68, .inl (ca 0, 8000, .inl (fun _ => 0))), (q77, .inl (ca 0, 400, .inl (fun _ => 0))), (q86, .inl (ca 0, 400, .inl (fun _ => 0)))] H := hP
  have hD : va_D A [(h0, .inr (5, [.ref q7, .ref q16, .ref q25, .int 0, .int 0, .int 0, .int 0, .int 0, .ref q34, .ref q43, .ref q51, .ref q59, .ref q68, .ref q77, .ref q86, .null, .null, .null])), (q7, .inl (ca 0, 40, .inl (fun _ => 0))), (q16, .inl (ca 0, 400, .inl (fun _ => 0))), (q25, .inl (ca 0, 1200, .inl (fun _ => 0))), (q34, .inl (ca 0, 400, .inl (fun _ => 0))), (q43, .inl (ca 0, 400, .inl (fun _ => 0))), (q51, .inl (ca 0, 20, .inl (fun _ => 0))), (q59, .inl (ca 0, 20, .inl (fun _ => 0))), (q68, .inl (ca 0, 8000, .inl (fun _ => 0))), (q77, .inl (ca 0, 400, .inl (fun _ => 0))), (q86, .inl (ca 0, 400, .inl (fun _ => 0)))] := hD
  refine lv_aload_n hx hb tn_i5_91 rfl (lv_at hl 0 rfl) ?_
  refine lv_sipush (v := 400) hx hb tn_i5_92 (by decide) ?_
  refine tn_newI (N := 400) (ca := ca) hx hb hts hK hP hD hS hA (by decide) (by decide) (by decide) (Nat.le_of_ble_eq_true rfl) (Nat.le_of_ble_eq_true rfl) tn_i5_95 (fun q95 H hP hD hS => ?_)
  have hP : va_P D tn_cl [(h0, .inr (5, [.ref q7, .ref q16, .ref q25, .int 0, .int 0, .int 0, .int 0, .int 0, .ref q34, .ref q43, .ref q51, .ref q59, .ref q68, .ref q77, .ref q86, .null, .null, .null])), (q7, .inl (ca 0, 40, .inl (fun _ => 0))), (q16, .inl (ca 0, 400, .inl (fun _ => 0))), (q25, .inl (ca 0, 1200, .inl (fun _ => 0))), (q34, .inl (ca 0, 400, .inl (fun _ => 0))), (q43, .inl (ca 0, 400, .inl (fun _ => 0))), (q51, .inl (ca 0, 20, .inl (fun _ => 0))), (q59, .inl (ca 0, 20, .inl (fun _ => 0))), (q68, .inl (ca 0, 8000, .inl (fun _ => 0))), (q77, .inl (ca 0, 400, .inl (fun _ => 0))), (q86, .inl (ca 0, 400, .inl (fun _ => 0))), (q95, .inl (ca 0, 400, .inl (fun _ => 0)))] H := hP
  have hD : va_D A [(h0, .inr (5, [.ref q7, .ref q16, .ref q25, .int 0, .int 0, .int 0, .int 0, .int 0, .ref q34, .ref q43, .ref q51, .ref q59, .ref q68, .ref q77, .ref q86, .null, .null, .null])), (q7, .inl (ca 0, 40, .inl (fun _ => 0))), (q16, .inl (ca 0, 400, .inl (fun _ => 0))), (q25, .inl (ca 0, 1200, .inl (fun _ => 0))), (q34, .inl (ca 0, 400, .inl (fun _ => 0))), (q43, .inl (ca 0, 400, .inl (fun _ => 0))), (q51, .inl (ca 0, 20, .inl (fun _ => 0))), (q59, .inl (ca 0, 20, .inl (fun _ => 0))), (q68, .inl (ca 0, 8000, .inl (fun _ => 0))), (q77, .inl (ca 0, 400, .inl (fun _ => 0))), (q86, .inl (ca 0, 400, .inl (fun _ => 0))), (q95, .inl (ca 0, 400, .inl (fun _ => 0)))] := hD
  refine W.widen (k := 11) (n := 11680) (Nat.le_of_ble_eq_true rfl) (Nat.le_of_ble_eq_true rfl) ?_
  refine va_putF (D := D) (ci := 5) (v := .ref q95) (ty := .array .int) (C := tn_R5) (T := tn_T5) (N := 18) hx hb hts tn_iw5 tn_ty5 tn_to5 tn_nm5 hown hK hP hD hS 0 rfl rfl 15 (by decide) (hts (.fieldLink tn_R5 40 tn_R5 "depths" "[I") tn_wc77) (fun _ h9 => h9) rfl hin rfl (by decide +kernel) rfl rfl (Nat.le_of_ble_eq_true rfl) tn_i5_97 (fun H locs hP hD hS => ?_)
  have hP : va_P D tn_cl [(h0, .inr (5, [.ref q7, .ref q16, .ref q25, .int 0, .int 0, .int 0, .int 0, .int 0, .ref q34, .ref q43, .ref q51, .ref q59, .ref q68, .ref q77, .ref q86, .ref q95, .null, .null])), (q7, .inl (ca 0, 40, .inl (fun _ => 0))), (q16, .inl (ca 0, 400, .inl (fun _ => 0))), (q25, .inl (ca 0, 1200, .inl (fun _ => 0))), (q34, .inl (ca 0, 400, .inl (fun _ => 0))), (q43, .inl (ca 0, 400, .inl (fun _ => 0))), (q51, .inl (ca 0, 20, .inl (fun _ => 0))), (q59, .inl (ca 0, 20, .inl (fun _ => 0))), (q68, .inl (ca 0, 8000, .inl (fun _ => 0))), (q77, .inl (ca 0, 400, .inl (fun _ => 0))), (q86, .inl (ca 0, 400, .inl (fun _ => 0))), (q95, .inl (ca 0, 400, .inl (fun _ => 0)))] H := hP
  have hD : va_D A [(h0, .inr (5, [.ref q7, .ref q16, .ref q25, .int 0, .int 0, .int 0, .int 0, .int 0, .ref q34, .ref q43, .ref q51, .ref q59, .ref q68, .ref q77, .ref q86, .ref q95, .null, .null])), (q7, .inl (ca 0, 40, .inl (fun _ => 0))), (q16, .inl (ca 0, 400, .inl (fun _ => 0))), (q25, .inl (ca 0, 1200, .inl (fun _ => 0))), (q34, .inl (ca 0, 400, .inl (fun _ => 0))), (q43, .inl (ca 0, 400, .inl (fun _ => 0))), (q51, .inl (ca 0, 20, .inl (fun _ => 0))), (q59, .inl (ca 0, 20, .inl (fun _ => 0))), (q68, .inl (ca 0, 8000, .inl (fun _ => 0))), (q77, .inl (ca 0, 400, .inl (fun _ => 0))), (q86, .inl (ca 0, 400, .inl (fun _ => 0))), (q95, .inl (ca 0, 400, .inl (fun _ => 0)))] := hD
  refine lv_aload_n hx hb tn_i5_100 rfl (lv_at hl 0 rfl) ?_
  refine lv_sipush (v := 400) hx hb tn_i5_101 (by decide) ?_
  refine tn_newB (N := 400) (ca := ca) hx hb hts hK hP hD hS hA (by decide) (by decide) (by decide) (Nat.le_of_ble_eq_true rfl) (Nat.le_of_ble_eq_true rfl) tn_i5_104 (fun q104 H hP hD hS => ?_)
  have hP : va_P D tn_cl [(h0, .inr (5, [.ref q7, .ref q16, .ref q25, .int 0, .int 0, .int 0, .int 0, .int 0, .ref q34, .ref q43, .ref q51, .ref q59, .ref q68, .ref q77, .ref q86, .ref q95, .null, .null])), (q7, .inl (ca 0, 40, .inl (fun _ => 0))), (q16, .inl (ca 0, 400, .inl (fun _ => 0))), (q25, .inl (ca 0, 1200, .inl (fun _ => 0))), (q34, .inl (ca 0, 400, .inl (fun _ => 0))), (q43, .inl (ca 0, 400, .inl (fun _ => 0))), (q51, .inl (ca 0, 20, .inl (fun _ => 0))), (q59, .inl (ca 0, 20, .inl (fun _ => 0))), (q68, .inl (ca 0, 8000, .inl (fun _ => 0))), (q77, .inl (ca 0, 400, .inl (fun _ => 0))), (q86, .inl (ca 0, 400, .inl (fun _ => 0))), (q95, .inl (ca 0, 400, .inl (fun _ => 0))), (q104, .inl (ca 1, 400, .inl (fun _ => 0)))] H := hP
  have hD : va_D A [(h0, .inr (5, [.ref q7, .ref q16, .ref q25, .int 0, .int 0, .int 0, .int 0, .int 0, .ref q34, .ref q43, .ref q51, .ref q59, .ref q68, .ref q77, .ref q86, .ref q95, .null, .null])), (q7, .inl (ca 0, 40, .inl (fun _ => 0))), (q16, .inl (ca 0, 400, .inl (fun _ => 0))), (q25, .inl (ca 0, 1200, .inl (fun _ => 0))), (q34, .inl (ca 0, 400, .inl (fun _ => 0))), (q43, .inl (ca 0, 400, .inl (fun _ => 0))), (q51, .inl (ca 0, 20, .inl (fun _ => 0))), (q59, .inl (ca 0, 20, .inl (fun _ => 0))), (q68, .inl (ca 0, 8000, .inl (fun _ => 0))), (q77, .inl (ca 0, 400, .inl (fun _ => 0))), (q86, .inl (ca 0, 400, .inl (fun _ => 0))), (q95, .inl (ca 0, 400, .inl (fun _ => 0))), (q104, .inl (ca 1, 400, .inl (fun _ => 0)))] := hD
  refine W.widen (k := 12) (n := 12080) (Nat.le_of_ble_eq_true rfl) (Nat.le_of_ble_eq_true rfl) ?_
  refine va_putF (D := D) (ci := 5) (v := .ref q104) (ty := .array .boolean) (C := tn_R5) (T := tn_T5) (N := 18) hx hb hts tn_iw5 tn_ty5 tn_to5 tn_nm5 hown hK hP hD hS 0 rfl rfl 16 (by decide) (hts (.fieldLink tn_R5 43 tn_R5 "ready" "[Z") tn_wc78) (fun _ h9 => h9) rfl hin rfl (by decide +kernel) rfl rfl (Nat.le_of_ble_eq_true rfl) tn_i5_106 (fun H locs hP hD hS => ?_)
  have hP : va_P D tn_cl [(h0, .inr (5, [.ref q7, .ref q16, .ref q25, .int 0, .int 0, .int 0, .int 0, .int 0, .ref q34, .ref q43, .ref q51, .ref q59, .ref q68, .ref q77, .ref q86, .ref q95, .ref q104, .null])), (q7, .inl (ca 0, 40, .inl (fun _ => 0))), (q16, .inl (ca 0, 400, .inl (fun _ => 0))), (q25, .inl (ca 0, 1200, .inl (fun _ => 0))), (q34, .inl (ca 0, 400, .inl (fun _ => 0))), (q43, .inl (ca 0, 400, .inl (fun _ => 0))), (q51, .inl (ca 0, 20, .inl (fun _ => 0))), (q59, .inl (ca 0, 20, .inl (fun _ => 0))), (q68, .inl (ca 0, 8000, .inl (fun _ => 0))), (q77, .inl (ca 0, 400, .inl (fun _ => 0))), (q86, .inl (ca 0, 400, .inl (fun _ => 0))), (q95, .inl (ca 0, 400, .inl (fun _ => 0))), (q104, .inl (ca 1, 400, .inl (fun _ => 0)))] H := hP
  have hD : va_D A [(h0, .inr (5, [.ref q7, .ref q16, .ref q25, .int 0, .int 0, .int 0, .int 0, .int 0, .ref q34, .ref q43, .ref q51, .ref q59, .ref q68, .ref q77, .ref q86, .ref q95, .ref q104, .null])), (q7, .inl (ca 0, 40, .inl (fun _ => 0))), (q16, .inl (ca 0, 400, .inl (fun _ => 0))), (q25, .inl (ca 0, 1200, .inl (fun _ => 0))), (q34, .inl (ca 0, 400, .inl (fun _ => 0))), (q43, .inl (ca 0, 400, .inl (fun _ => 0))), (q51, .inl (ca 0, 20, .inl (fun _ => 0))), (q59, .inl (ca 0, 20, .inl (fun _ => 0))), (q68, .inl (ca 0, 8000, .inl (fun _ => 0))), (q77, .inl (ca 0, 400, .inl (fun _ => 0))), (q86, .inl (ca 0, 400, .inl (fun _ => 0))), (q95, .inl (ca 0, 400, .inl (fun _ => 0))), (q104, .inl (ca 1, 400, .inl (fun _ => 0)))] := hD
  refine lv_aload_n hx hb tn_i5_109 rfl (lv_at hl 0 rfl) ?_
  refine lv_sipush (v := 400) hx hb tn_i5_110 (by decide) ?_
  refine tn_newB (N := 400) (ca := ca) hx hb hts hK hP hD hS hA (by decide) (by decide) (by decide) (Nat.le_of_ble_eq_true rfl) (Nat.le_of_ble_eq_true rfl) tn_i5_113 (fun q113 H hP hD hS => ?_)
  have hP : va_P D tn_cl [(h0, .inr (5, [.ref q7, .ref q16, .ref q25, .int 0, .int 0, .int 0, .int 0, .int 0, .ref q34, .ref q43, .ref q51, .ref q59, .ref q68, .ref q77, .ref q86, .ref q95, .ref q104, .null])), (q7, .inl (ca 0, 40, .inl (fun _ => 0))), (q16, .inl (ca 0, 400, .inl (fun _ => 0))), (q25, .inl (ca 0, 1200, .inl (fun _ => 0))), (q34, .inl (ca 0, 400, .inl (fun _ => 0))), (q43, .inl (ca 0, 400, .inl (fun _ => 0))), (q51, .inl (ca 0, 20, .inl (fun _ => 0))), (q59, .inl (ca 0, 20, .inl (fun _ => 0))), (q68, .inl (ca 0, 8000, .inl (fun _ => 0))), (q77, .inl (ca 0, 400, .inl (fun _ => 0))), (q86, .inl (ca 0, 400, .inl (fun _ => 0))), (q95, .inl (ca 0, 400, .inl (fun _ => 0))), (q104, .inl (ca 1, 400, .inl (fun _ => 0))), (q113, .inl (ca 1, 400, .inl (fun _ => 0)))] H := hP
  have hD : va_D A [(h0, .inr (5, [.ref q7, .ref q16, .ref q25, .int 0, .int 0, .int 0, .int 0, .int 0, .ref q34, .ref q43, .ref q51, .ref q59, .ref q68, .ref q77, .ref q86, .ref q95, .ref q104, .null])), (q7, .inl (ca 0, 40, .inl (fun _ => 0))), (q16, .inl (ca 0, 400, .inl (fun _ => 0))), (q25, .inl (ca 0, 1200, .inl (fun _ => 0))), (q34, .inl (ca 0, 400, .inl (fun _ => 0))), (q43, .inl (ca 0, 400, .inl (fun _ => 0))), (q51, .inl (ca 0, 20, .inl (fun _ => 0))), (q59, .inl (ca 0, 20, .inl (fun _ => 0))), (q68, .inl (ca 0, 8000, .inl (fun _ => 0))), (q77, .inl (ca 0, 400, .inl (fun _ => 0))), (q86, .inl (ca 0, 400, .inl (fun _ => 0))), (q95, .inl (ca 0, 400, .inl (fun _ => 0))), (q104, .inl (ca 1, 400, .inl (fun _ => 0))), (q113, .inl (ca 1, 400, .inl (fun _ => 0)))] := hD
  refine W.widen (k := 13) (n := 12480) (Nat.le_of_ble_eq_true rfl) (Nat.le_of_ble_eq_true rfl) ?_
  refine va_putF (D := D) (ci := 5) (v := .ref q113) (ty := .array .boolean) (C := tn_R5) (T := tn_T5) (N := 18) hx hb hts tn_iw5 tn_ty5 tn_to5 tn_nm5 hown hK hP hD hS 0 rfl rfl 17 (by decide) (hts (.fieldLink tn_R5 47 tn_R5 "in" "[Z") tn_wc79) (fun _ h9 => h9) rfl hin rfl (by decide +kernel) rfl rfl (Nat.le_of_ble_eq_true rfl) tn_i5_115 (fun H locs hP hD hS => ?_)
  have hP : va_P D tn_cl [(h0, .inr (5, [.ref q7, .ref q16, .ref q25, .int 0, .int 0, .int 0, .int 0, .int 0, .ref q34, .ref q43, .ref q51, .ref q59, .ref q68, .ref q77, .ref q86, .ref q95, .ref q104, .ref q113])), (q7, .inl (ca 0, 40, .inl (fun _ => 0))), (q16, .inl (ca 0, 400, .inl (fun _ => 0))), (q25, .inl (ca 0, 1200, .inl (fun _ => 0))), (q34, .inl (ca 0, 400, .inl (fun _ => 0))), (q43, .inl (ca 0, 400, .inl (fun _ => 0))), (q51, .inl (ca 0, 20, .inl (fun _ => 0))), (q59, .inl (ca 0, 20, .inl (fun _ => 0))), (q68, .inl (ca 0, 8000, .inl (fun _ => 0))), (q77, .inl (ca 0, 400, .inl (fun _ => 0))), (q86, .inl (ca 0, 400, .inl (fun _ => 0))), (q95, .inl (ca 0, 400, .inl (fun _ => 0))), (q104, .inl (ca 1, 400, .inl (fun _ => 0))), (q113, .inl (ca 1, 400, .inl (fun _ => 0)))] H := hP
  have hD : va_D A [(h0, .inr (5, [.ref q7, .ref q16, .ref q25, .int 0, .int 0, .int 0, .int 0, .int 0, .ref q34, .ref q43, .ref q51, .ref q59, .ref q68, .ref q77, .ref q86, .ref q95, .ref q104, .ref q113])), (q7, .inl (ca 0, 40, .inl (fun _ => 0))), (q16, .inl (ca 0, 400, .inl (fun _ => 0))), (q25, .inl (ca 0, 1200, .inl (fun _ => 0))), (q34, .inl (ca 0, 400, .inl (fun _ => 0))), (q43, .inl (ca 0, 400, .inl (fun _ => 0))), (q51, .inl (ca 0, 20, .inl (fun _ => 0))), (q59, .inl (ca 0, 20, .inl (fun _ => 0))), (q68, .inl (ca 0, 8000, .inl (fun _ => 0))), (q77, .inl (ca 0, 400, .inl (fun _ => 0))), (q86, .inl (ca 0, 400, .inl (fun _ => 0))), (q95, .inl (ca 0, 400, .inl (fun _ => 0))), (q104, .inl (ca 1, 400, .inl (fun _ => 0))), (q113, .inl (ca 1, 400, .inl (fun _ => 0)))] := hD
  have hP9 : va_P D tn_cl (am_W tn_Y (fun k => [h0, q7, q16, q25, q34, q43, q51, q59, q68, q77, q86, q95, q104, q113].getD k 0) ca tn_z) H := by
    rw [tn_WY]
    exact hP.sub [0, 1, 2, 3, 4, 5, 6, 7, 8, 9, 10, 11, 12, 13] rfl
  have hD9 : va_D A (am_W tn_Y (fun k => [h0, q7, q16, q25, q34, q43, q51, q59, q68, q77, q86, q95, q104, q113].getD k 0) ca tn_z) := by
    rw [tn_WY]
    exact hD.sub [0, 1, 2, 3, 4, 5, 6, 7, 8, 9, 10, 11, 12, 13] (by decide) rfl
  exact W.vret hx hb hr (fun t ht hW => ⟨⟨(fun k => [h0, q7, q16, q25, q34, q43, q51, q59, q68, q77, q86, q95, q104, q113].getD k 0), rfl, rfl, by rw [ht]; exact hP9, hD9⟩, hS.F ht⟩) hS.2.2 tn_i5_118
