/-! TABLES of the abstract machine for this system, laid by a program (wip/whole/mk04.py) out of the Statement's words. Classes: 0 Groups, 1 Told, 2 Twins, 3 Walk, 4 TermNet, 5 TermNetModel, 6 Math, 7 Arrays. -/
theorem tn_lk {β : Type} {k : Nat × Nat} {v : β} : ∀ {l : List ((Nat × Nat) × β)}, l.lookup k = some v → (k, v) ∈ l
  | [], h => by simp at h
  | (a, b) :: l, h => by
    simp only [List.lookup] at h
    split at h
    · rename_i e
      cases h
      have := eq_of_beq e
      subst this
      exact List.mem_cons_self
    · exact List.mem_cons_of_mem _ (tn_lk h)
def tn_TS : List Cond := lw_tbl.filter goodWord
theorem tn_in {w : Cond} (i : Nat) (h : lw_tbl[i]? = some w) (g : goodWord w = true) : w ∈ tn_TS := List.mem_filter.mpr ⟨List.mem_of_getElem? h, g⟩
def tn_R0 : String := "TermNet$Groups"
def tn_T0 : u_T := fun k => match k with
  | 0 => ("TermNet$Groups", "told", "LTermNet$Told;", true)
  | 1 => ("TermNet$Groups", "leader", "[I", true)
  | 2 => ("TermNet$Groups", "ring", "[I", true)
  | 3 => ("TermNet$Groups", "shape", "[I", true)
  | 4 => ("TermNet$Groups", "trail", "[I", true)
  | _ => ("TermNet$Groups", "merges", "I", false)
def tn_ty0 : Nat → FieldType := fun k => match k with
  | 0 => .object "TermNet$Told"
  | 1 => .array .int
  | 2 => .array .int
  | 3 => .array .int
  | 4 => .array .int
  | _ => .int
theorem tn_nm0 : ∀ a, a < 6 → ∀ b, b < 6 → a ≠ b → (tn_T0 a).2.1 ≠ (tn_T0 b).2.1 := by decide +kernel
theorem tn_to0 : ∀ k, k < 6 → parseFieldDescriptor (tn_T0 k).2.2.1 = some (tn_ty0 k) := by decide +kernel
theorem tn_iw0 : ∀ w ∈ u_ws tn_R0 tn_T0 6, w ∈ tn_TS := fun w h => List.mem_filter.mpr ⟨(by decide +kernel : ∀ w ∈ u_ws tn_R0 tn_T0 6, w ∈ lw_tbl) w h, (by decide +kernel : ∀ w ∈ u_ws tn_R0 tn_T0 6, goodWord w = true) w h⟩
def tn_R1 : String := "TermNet$Told"
def tn_T1 : u_T := fun k => match k with
  | 0 => ("TermNet$Told", "partsOfSign", "[I", true)
  | 1 => ("TermNet$Told", "signOf", "[I", true)
  | 2 => ("TermNet$Told", "parts", "[I", true)
  | 3 => ("TermNet$Told", "signs", "I", false)
  | _ => ("TermNet$Told", "terms", "I", false)
def tn_ty1 : Nat → FieldType := fun k => match k with
  | 0 => .array .int
  | 1 => .array .int
  | 2 => .array .int
  | 3 => .int
  | _ => .int
theorem tn_nm1 : ∀ a, a < 5 → ∀ b, b < 5 → a ≠ b → (tn_T1 a).2.1 ≠ (tn_T1 b).2.1 := by decide +kernel
theorem tn_to1 : ∀ k, k < 5 → parseFieldDescriptor (tn_T1 k).2.2.1 = some (tn_ty1 k) := by decide +kernel
theorem tn_iw1 : ∀ w ∈ u_ws tn_R1 tn_T1 5, w ∈ tn_TS := fun w h => List.mem_filter.mpr ⟨(by decide +kernel : ∀ w ∈ u_ws tn_R1 tn_T1 5, w ∈ lw_tbl) w h, (by decide +kernel : ∀ w ∈ u_ws tn_R1 tn_T1 5, goodWord w = true) w h⟩
def tn_R2 : String := "TermNet$Twins"
def tn_T2 : u_T := fun k => match k with
  | 0 => ("TermNet$Twins", "groups", "LTermNet$Groups;", true)
  | 1 => ("TermNet$Twins", "first", "[I", true)
  | 2 => ("TermNet$Twins", "next", "[I", true)
  | _ => ("TermNet$Twins", "print", "[I", true)
def tn_ty2 : Nat → FieldType := fun k => match k with
  | 0 => .object "TermNet$Groups"
  | 1 => .array .int
  | 2 => .array .int
  | _ => .array .int
theorem tn_nm2 : ∀ a, a < 4 → ∀ b, b < 4 → a ≠ b → (tn_T2 a).2.1 ≠ (tn_T2 b).2.1 := by decide +kernel
theorem tn_to2 : ∀ k, k < 4 → parseFieldDescriptor (tn_T2 k).2.2.1 = some (tn_ty2 k) := by decide +kernel
theorem tn_iw2 : ∀ w ∈ u_ws tn_R2 tn_T2 4, w ∈ tn_TS := fun w h => List.mem_filter.mpr ⟨(by decide +kernel : ∀ w ∈ u_ws tn_R2 tn_T2 4, w ∈ lw_tbl) w h, (by decide +kernel : ∀ w ∈ u_ws tn_R2 tn_T2 4, goodWord w = true) w h⟩
def tn_R3 : String := "TermNet$Walk"
def tn_T3 : u_T := fun k => match k with
  | 0 => ("TermNet$Walk", "groups", "LTermNet$Groups;", true)
  | 1 => ("TermNet$Walk", "state", "[I", true)
  | 2 => ("TermNet$Walk", "partsTried", "[I", true)
  | 3 => ("TermNet$Walk", "path", "[I", true)
  | 4 => ("TermNet$Walk", "order", "[I", true)
  | 5 => ("TermNet$Walk", "value", "[I", true)
  | 6 => ("TermNet$Walk", "pathLength", "I", false)
  | _ => ("TermNet$Walk", "ordered", "I", false)
def tn_ty3 : Nat → FieldType := fun k => match k with
  | 0 => .object "TermNet$Groups"
  | 1 => .array .int
  | 2 => .array .int
  | 3 => .array .int
  | 4 => .array .int
  | 5 => .array .int
  | 6 => .int
  | _ => .int
theorem tn_nm3 : ∀ a, a < 8 → ∀ b, b < 8 → a ≠ b → (tn_T3 a).2.1 ≠ (tn_T3 b).2.1 := by decide +kernel
theorem tn_to3 : ∀ k, k < 8 → parseFieldDescriptor (tn_T3 k).2.2.1 = some (tn_ty3 k) := by decide +kernel
theorem tn_iw3 : ∀ w ∈ u_ws tn_R3 tn_T3 8, w ∈ tn_TS := fun w h => List.mem_filter.mpr ⟨(by decide +kernel : ∀ w ∈ u_ws tn_R3 tn_T3 8, w ∈ lw_tbl) w h, (by decide +kernel : ∀ w ∈ u_ws tn_R3 tn_T3 8, goodWord w = true) w h⟩
def tn_R4 : String := "TermNet"
def tn_T4 : u_T := fun k => match k with
  | 0 => ("TermNet", "told", "LTermNet$Told;", true)
  | 1 => ("TermNet", "groups", "LTermNet$Groups;", true)
  | 2 => ("TermNet", "walk", "LTermNet$Walk;", true)
  | 3 => ("TermNet", "twins", "LTermNet$Twins;", true)
  | 4 => ("TermNet", "pointTerms", "[I", true)
  | 5 => ("TermNet", "pointMerges", "[I", true)
  | 6 => ("TermNet", "pointEquations", "[I", true)
  | 7 => ("TermNet", "points", "I", false)
  | _ => ("TermNet", "equations", "I", false)
def tn_ty4 : Nat → FieldType := fun k => match k with
  | 0 => .object "TermNet$Told"
  | 1 => .object "TermNet$Groups"
  | 2 => .object "TermNet$Walk"
  | 3 => .object "TermNet$Twins"
  | 4 => .array .int
  | 5 => .array .int
  | 6 => .array .int
  | 7 => .int
  | _ => .int
theorem tn_nm4 : ∀ a, a < 9 → ∀ b, b < 9 → a ≠ b → (tn_T4 a).2.1 ≠ (tn_T4 b).2.1 := by decide +kernel
theorem tn_to4 : ∀ k, k < 9 → parseFieldDescriptor (tn_T4 k).2.2.1 = some (tn_ty4 k) := by decide +kernel
theorem tn_iw4 : ∀ w ∈ u_ws tn_R4 tn_T4 9, w ∈ tn_TS := fun w h => List.mem_filter.mpr ⟨(by decide +kernel : ∀ w ∈ u_ws tn_R4 tn_T4 9, w ∈ lw_tbl) w h, (by decide +kernel : ∀ w ∈ u_ws tn_R4 tn_T4 9, goodWord w = true) w h⟩
def tn_R5 : String := "TermNetModel"
def tn_T5 : u_T := fun k => match k with
  | 0 => ("TermNetModel", "arity", "[I", true)
  | 1 => ("TermNetModel", "sign", "[I", true)
  | 2 => ("TermNetModel", "parts", "[I", true)
  | 3 => ("TermNetModel", "signs", "I", false)
  | 4 => ("TermNetModel", "terms", "I", false)
  | 5 => ("TermNetModel", "points", "I", false)
  | 6 => ("TermNetModel", "equations", "I", false)
  | 7 => ("TermNetModel", "thrown", "I", false)
  | 8 => ("TermNetModel", "least", "[I", true)
  | 9 => ("TermNetModel", "tried", "[I", true)
  | 10 => ("TermNetModel", "hadTerms", "[I", true)
  | 11 => ("TermNetModel", "hadEquations", "[I", true)
  | 12 => ("TermNetModel", "had", "[I", true)
  | 13 => ("TermNetModel", "known", "[I", true)
  | 14 => ("TermNetModel", "sizes", "[I", true)
  | 15 => ("TermNetModel", "depths", "[I", true)
  | 16 => ("TermNetModel", "ready", "[Z", true)
  | _ => ("TermNetModel", "in", "[Z", true)
def tn_ty5 : Nat → FieldType := fun k => match k with
  | 0 => .array .int
  | 1 => .array .int
  | 2 => .array .int
  | 3 => .int
  | 4 => .int
  | 5 => .int
  | 6 => .int
  | 7 => .int
  | 8 => .array .int
  | 9 => .array .int
  | 10 => .array .int
  | 11 => .array .int
  | 12 => .array .int
  | 13 => .array .int
  | 14 => .array .int
  | 15 => .array .int
  | 16 => .array .boolean
  | _ => .array .boolean
theorem tn_nm5 : ∀ a, a < 18 → ∀ b, b < 18 → a ≠ b → (tn_T5 a).2.1 ≠ (tn_T5 b).2.1 := by decide +kernel
theorem tn_to5 : ∀ k, k < 18 → parseFieldDescriptor (tn_T5 k).2.2.1 = some (tn_ty5 k) := by decide +kernel
theorem tn_iw5 : ∀ w ∈ u_ws tn_R5 tn_T5 18, w ∈ tn_TS := fun w h => List.mem_filter.mpr ⟨(by decide +kernel : ∀ w ∈ u_ws tn_R5 tn_T5 18, w ∈ lw_tbl) w h, (by decide +kernel : ∀ w ∈ u_ws tn_R5 tn_T5 18, goodWord w = true) w h⟩
def tn_R6 : String := "java/lang/Math"
def tn_R7 : String := "java/util/Arrays"
abbrev tn_cl : List vw_C := [(tn_R0, tn_T0, 6), (tn_R1, tn_T1, 5), (tn_R2, tn_T2, 4), (tn_R3, tn_T3, 8), (tn_R4, tn_T4, 9), (tn_R5, tn_T5, 18)]
def tn_cn : Nat → String := fun c => match c with
  | 0 => tn_R0
  | 1 => tn_R1
  | 2 => tn_R2
  | 3 => tn_R3
  | 4 => tn_R4
  | 5 => tn_R5
  | 6 => tn_R6
  | _ => tn_R7
def tn_NS : List Cond := [.fieldLinkNest "TermNet$Groups" 32 "TermNet$Told" "signOf" "[I" "TermNet", .fieldLinkNest "TermNet$Twins" 67 "TermNet$Told" "signOf" "[I" "TermNet", .fieldLinkNest "TermNet" 134 "TermNet$Told" "signOf" "[I" "TermNet", .fieldLinkNest "TermNet" 65 "TermNet$Told" "signs" "I" "TermNet", .fieldLinkNest "TermNet" 115 "TermNet$Told" "terms" "I" "TermNet", .fieldLinkNest "TermNet$Groups" 48 "TermNet$Told" "terms" "I" "TermNet", .fieldLinkNest "TermNet$Twins" 63 "TermNet$Groups" "told" "LTermNet$Told;" "TermNet", .fieldLinkNest "TermNet" 104 "TermNet$Groups" "merges" "I" "TermNet", .fieldLinkNest "TermNet$Twins" 37 "TermNet$Walk" "order" "[I" "TermNet", .fieldLinkNest "TermNet$Twins" 31 "TermNet$Walk" "ordered" "I" "TermNet"]
theorem tn_NS_warm : ∀ w ∈ tn_NS, ∀ {u U : State}, u.WarmedH U.vm → va_Nw w u → va_Nw w U := by
  intro w hw u U hW h
  simp only [tn_NS, List.mem_cons, List.not_mem_nil, or_false] at hw
  rcases hw with rfl | rfl | rfl | rfl | rfl | rfl | rfl | rfl | rfl | rfl <;> exact va_Nw.warmF hW h
theorem tn_NS_in : ∀ w ∈ tn_NS, w ∈ lw_tbl := by decide +kernel
/-- 0: TermNet$Groups.knownGroups()I -/
def tn_m0 : am_M := (⟨tn_R0, "knownGroups", "()I"⟩, prog_2_method_8_code, 3, (some .int), 0, { frames := 0, cells := 0, slots := 0, locals := 0 })
/-- 1: TermNet$Groups.found(I)V -/
def tn_m1 : am_M := (⟨tn_R0, "found", "(I)V"⟩, prog_2_method_2_code, 2, none, 0, { frames := 0, cells := 0, slots := 0, locals := 0 })
/-- 2: TermNet$Groups.joinToTwin(I)V -/
def tn_m2 : am_M := (⟨tn_R0, "joinToTwin", "(I)V"⟩, prog_2_method_16_code, 3, none, 0, { frames := 2, cells := 0, slots := 0, locals := 48 })
/-- 3: TermNet$Groups.areTwins(II)Z -/
def tn_m3 : am_M := (⟨tn_R0, "areTwins", "(II)Z"⟩, prog_2_method_17_code, 4, (some .boolean), 0, { frames := 1, cells := 0, slots := 0, locals := 22 })
/-- 4: TermNet$Groups.join(II)V -/
def tn_m4 : am_M := (⟨tn_R0, "join", "(II)V"⟩, prog_2_method_9_code, 5, none, 0, { frames := 1, cells := 0, slots := 0, locals := 24 })
/-- 5: TermNet$Groups.leadRing(II)V -/
def tn_m5 : am_M := (⟨tn_R0, "leadRing", "(II)V"⟩, prog_2_method_14_code, 5, none, 0, { frames := 0, cells := 0, slots := 0, locals := 0 })
/-- 6: TermNet$Groups.swapLinks(II)V -/
def tn_m6 : am_M := (⟨tn_R0, "swapLinks", "(II)V"⟩, prog_2_method_15_code, 4, none, 0, { frames := 0, cells := 0, slots := 0, locals := 0 })
/-- 7: TermNet$Groups.settle(I)Z -/
def tn_m7 : am_M := (⟨tn_R0, "settle", "(I)Z"⟩, prog_2_method_10_code, 3, (some .boolean), 0, { frames := 3, cells := 0, slots := 0, locals := 72 })
/-- 8: TermNet$Groups.joinParts(I)Z -/
def tn_m8 : am_M := (⟨tn_R0, "joinParts", "(I)Z"⟩, prog_2_method_11_code, 5, (some .boolean), 0, { frames := 2, cells := 0, slots := 0, locals := 48 })
/-- 9: TermNet$Groups.shapeOf(I)I -/
def tn_m9 : am_M := (⟨tn_R0, "shapeOf", "(I)I"⟩, prog_2_method_4_code, 2, (some .int), 0, { frames := 0, cells := 0, slots := 0, locals := 0 })
/-- 10: TermNet$Groups.leaderOf(I)I -/
def tn_m10 : am_M := (⟨tn_R0, "leaderOf", "(I)I"⟩, prog_2_method_3_code, 2, (some .int), 0, { frames := 0, cells := 0, slots := 0, locals := 0 })
/-- 11: TermNet$Groups.partsOf(I)I -/
def tn_m11 : am_M := (⟨tn_R0, "partsOf", "(I)I"⟩, prog_2_method_6_code, 3, (some .int), 0, { frames := 1, cells := 0, slots := 0, locals := 21 })
/-- 12: TermNet$Groups.partLeader(II)I -/
def tn_m12 : am_M := (⟨tn_R0, "partLeader", "(II)I"⟩, prog_2_method_7_code, 3, (some .int), 0, { frames := 1, cells := 0, slots := 0, locals := 22 })
/-- 13: TermNet$Groups.undoTo(I)V -/
def tn_m13 : am_M := (⟨tn_R0, "undoTo", "(I)V"⟩, prog_2_method_12_code, 3, none, 0, { frames := 2, cells := 0, slots := 0, locals := 46 })
/-- 14: TermNet$Groups.undo(I)V -/
def tn_m14 : am_M := (⟨tn_R0, "undo", "(I)V"⟩, prog_2_method_13_code, 3, none, 0, { frames := 1, cells := 0, slots := 0, locals := 24 })
/-- 15: TermNet$Groups.isKnown(I)Z -/
def tn_m15 : am_M := (⟨tn_R0, "isKnown", "(I)Z"⟩, prog_2_method_5_code, 2, (some .boolean), 0, { frames := 1, cells := 0, slots := 0, locals := 21 })
/-- 16: TermNet$Told.addSign(I)I -/
def tn_m16 : am_M := (⟨tn_R1, "addSign", "(I)I"⟩, prog_3_method_4_code, 2, (some .int), 1, { frames := 0, cells := 0, slots := 0, locals := 0 })
/-- 17: TermNet$Told.addUnknown()I -/
def tn_m17 : am_M := (⟨tn_R1, "addUnknown", "()I"⟩, prog_3_method_5_code, 1, (some .int), 1, { frames := 0, cells := 0, slots := 0, locals := 0 })
/-- 18: TermNet$Told.canBeTerm(IIII)Z -/
def tn_m18 : am_M := (⟨tn_R1, "canBeTerm", "(IIII)Z"⟩, prog_3_method_3_code, 6, (some .boolean), 1, { frames := 1, cells := 0, slots := 0, locals := 21 })
/-- 19: TermNet$Told.isTerm(I)Z -/
def tn_m19 : am_M := (⟨tn_R1, "isTerm", "(I)Z"⟩, prog_3_method_2_code, 2, (some .boolean), 1, { frames := 0, cells := 0, slots := 0, locals := 0 })
/-- 20: TermNet$Told.addTerm(IIII)I -/
def tn_m20 : am_M := (⟨tn_R1, "addTerm", "(IIII)I"⟩, prog_3_method_6_code, 5, (some .int), 1, { frames := 0, cells := 0, slots := 0, locals := 0 })
/-- 21: TermNet$Told.partsOfTerm(I)I -/
def tn_m21 : am_M := (⟨tn_R1, "partsOfTerm", "(I)I"⟩, prog_3_method_7_code, 2, (some .int), 1, { frames := 0, cells := 0, slots := 0, locals := 0 })
/-- 22: TermNet$Told.partOfTerm(II)I -/
def tn_m22 : am_M := (⟨tn_R1, "partOfTerm", "(II)I"⟩, prog_3_method_8_code, 3, (some .int), 1, { frames := 0, cells := 0, slots := 0, locals := 0 })
/-- 23: TermNet$Twins.joinAll(LTermNet$Walk;)V -/
def tn_m23 : am_M := (⟨tn_R2, "joinAll", "(LTermNet$Walk;)V"⟩, prog_4_method_2_code, 4, none, 2, { frames := 3, cells := 0, slots := 0, locals := 72 })
/-- 24: TermNet$Twins.printOf(I)I -/
def tn_m24 : am_M := (⟨tn_R2, "printOf", "(I)I"⟩, prog_4_method_3_code, 4, (some .int), 2, { frames := 2, cells := 0, slots := 0, locals := 44 })
/-- 25: TermNet$Twins.joinOrKeep(II)V -/
def tn_m25 : am_M := (⟨tn_R2, "joinOrKeep", "(II)V"⟩, prog_4_method_4_code, 5, none, 2, { frames := 2, cells := 0, slots := 0, locals := 48 })
/-- 26: TermNet$Walk.overAll(I)Z -/
def tn_m26 : am_M := (⟨tn_R3, "overAll", "(I)Z"⟩, prog_5_method_2_code, 3, (some .boolean), 3, { frames := 4, cells := 0, slots := 0, locals := 88 })
/-- 27: TermNet$Walk.begin()V -/
def tn_m27 : am_M := (⟨tn_R3, "begin", "()V"⟩, prog_5_method_10_code, 1, none, 3, { frames := 1, cells := 0, slots := 0, locals := 23 })
/-- 28: TermNet$Walk.reach(I)Z -/
def tn_m28 : am_M := (⟨tn_R3, "reach", "(I)Z"⟩, prog_5_method_11_code, 4, (some .boolean), 3, { frames := 3, cells := 0, slots := 0, locals := 65 })
/-- 29: TermNet$Walk.enter(I)Z -/
def tn_m29 : am_M := (⟨tn_R3, "enter", "(I)Z"⟩, prog_5_method_13_code, 2, (some .boolean), 3, { frames := 0, cells := 0, slots := 0, locals := 0 })
/-- 30: TermNet$Walk.goOn(I)Z -/
def tn_m30 : am_M := (⟨tn_R3, "goOn", "(I)Z"⟩, prog_5_method_12_code, 2, (some .boolean), 3, { frames := 2, cells := 0, slots := 0, locals := 44 })
/-- 31: TermNet$Walk.sizeBelow(I)I -/
def tn_m31 : am_M := (⟨tn_R3, "sizeBelow", "(I)I"⟩, prog_5_method_3_code, 3, (some .int), 3, { frames := 5, cells := 0, slots := 0, locals := 109 })
/-- 32: TermNet$Walk.overTree(I)V -/
def tn_m32 : am_M := (⟨tn_R3, "overTree", "(I)V"⟩, prog_5_method_9_code, 2, none, 3, { frames := 4, cells := 0, slots := 0, locals := 88 })
/-- 33: TermNet$Walk.sizeOver(I)I -/
def tn_m33 : am_M := (⟨tn_R3, "sizeOver", "(I)I"⟩, prog_5_method_4_code, 5, (some .int), 3, { frames := 2, cells := 0, slots := 0, locals := 44 })
/-- 34: TermNet$Walk.depthBelow(I)I -/
def tn_m34 : am_M := (⟨tn_R3, "depthBelow", "(I)I"⟩, prog_5_method_5_code, 3, (some .int), 3, { frames := 5, cells := 0, slots := 0, locals := 109 })
/-- 35: TermNet$Walk.depthOver(I)I -/
def tn_m35 : am_M := (⟨tn_R3, "depthOver", "(I)I"⟩, prog_5_method_6_code, 4, (some .int), 3, { frames := 2, cells := 0, slots := 0, locals := 44 })
/-- 36: TermNet$Walk.findsBelow(II)Z -/
def tn_m36 : am_M := (⟨tn_R3, "findsBelow", "(II)Z"⟩, prog_5_method_8_code, 3, (some .boolean), 3, { frames := 5, cells := 0, slots := 0, locals := 109 })
/-- 37: TermNet$Walk.unknownsBelow(I)I -/
def tn_m37 : am_M := (⟨tn_R3, "unknownsBelow", "(I)I"⟩, prog_5_method_7_code, 4, (some .int), 3, { frames := 5, cells := 0, slots := 0, locals := 109 })
/-- 38: TermNet.count(I)I -/
def tn_m38 : am_M := (⟨tn_R4, "count", "(I)I"⟩, prog_1_method_16_code, 2, (some .int), 4, { frames := 1, cells := 0, slots := 0, locals := 22 })
/-- 39: TermNet.sign(I)I -/
def tn_m39 : am_M := (⟨tn_R4, "sign", "(I)I"⟩, prog_1_method_2_code, 2, (some .int), 4, { frames := 6, cells := 1, slots := 6, locals := 90 })
/-- 40: TermNet.unknown()I -/
def tn_m40 : am_M := (⟨tn_R4, "unknown", "()I"⟩, prog_1_method_3_code, 2, (some .int), 4, { frames := 7, cells := 1, slots := 6, locals := 110 })
/-- 41: TermNet.refuseWhenFull()V -/
def tn_m41 : am_M := (⟨tn_R4, "refuseWhenFull", "()V"⟩, prog_1_method_18_code, 1, none, 4, { frames := 6, cells := 1, slots := 6, locals := 90 })
/-- 42: TermNet.term(IIII)I -/
def tn_m42 : am_M := (⟨tn_R4, "term", "(IIII)I"⟩, prog_1_method_4_code, 6, (some .int), 4, { frames := 7, cells := 1, slots := 6, locals := 110 })
/-- 43: TermNet.equal(II)Z -/
def tn_m43 : am_M := (⟨tn_R4, "equal", "(II)Z"⟩, prog_1_method_5_code, 4, (some .boolean), 4, { frames := 7, cells := 2, slots := 12, locals := 111 })
/-- 44: TermNet.refuseUnlessTerm(I)V -/
def tn_m44 : am_M := (⟨tn_R4, "refuseUnlessTerm", "(I)V"⟩, prog_1_method_17_code, 2, none, 4, { frames := 6, cells := 1, slots := 6, locals := 90 })
/-- 45: TermNet.same(II)Z -/
def tn_m45 : am_M := (⟨tn_R4, "same", "(II)Z"⟩, prog_1_method_6_code, 3, (some .boolean), 4, { frames := 7, cells := 2, slots := 12, locals := 111 })
/-- 46: TermNet.top(I)I -/
def tn_m46 : am_M := (⟨tn_R4, "top", "(I)I"⟩, prog_1_method_7_code, 2, (some .int), 4, { frames := 7, cells := 1, slots := 6, locals := 111 })
/-- 47: TermNet.part(II)I -/
def tn_m47 : am_M := (⟨tn_R4, "part", "(II)I"⟩, prog_1_method_8_code, 3, (some .int), 4, { frames := 7, cells := 2, slots := 12, locals := 111 })
/-- 48: TermNet.least(I)I -/
def tn_m48 : am_M := (⟨tn_R4, "least", "(I)I"⟩, prog_1_method_9_code, 2, (some .int), 4, { frames := 7, cells := 1, slots := 6, locals := 111 })
/-- 49: TermNet.size(I)I -/
def tn_m49 : am_M := (⟨tn_R4, "size", "(I)I"⟩, prog_1_method_10_code, 2, (some .int), 4, { frames := 7, cells := 1, slots := 6, locals := 131 })
/-- 50: TermNet.depth(I)I -/
def tn_m50 : am_M := (⟨tn_R4, "depth", "(I)I"⟩, prog_1_method_11_code, 2, (some .int), 4, { frames := 7, cells := 1, slots := 6, locals := 131 })
/-- 51: TermNet.inside(II)Z -/
def tn_m51 : am_M := (⟨tn_R4, "inside", "(II)Z"⟩, prog_1_method_12_code, 3, (some .boolean), 4, { frames := 7, cells := 2, slots := 12, locals := 131 })
/-- 52: TermNet.unknowns(I)I -/
def tn_m52 : am_M := (⟨tn_R4, "unknowns", "(I)I"⟩, prog_1_method_13_code, 2, (some .int), 4, { frames := 7, cells := 1, slots := 6, locals := 132 })
/-- 53: TermNet.mark()I -/
def tn_m53 : am_M := (⟨tn_R4, "mark", "()I"⟩, prog_1_method_14_code, 1, (some .int), 4, { frames := 6, cells := 1, slots := 6, locals := 90 })
/-- 54: TermNet.back()I -/
def tn_m54 : am_M := (⟨tn_R4, "back", "()I"⟩, prog_1_method_15_code, 1, (some .int), 4, { frames := 6, cells := 1, slots := 6, locals := 90 })
/-- 55: TermNetModel.thrown()I -/
def tn_m55 : am_M := (⟨tn_R5, "thrown", "()I"⟩, prog_7_method_2_code, 1, (some .int), 5, { frames := 0, cells := 0, slots := 0, locals := 0 })
/-- 56: TermNetModel.sign(I)I -/
def tn_m56 : am_M := (⟨tn_R5, "sign", "(I)I"⟩, prog_7_method_4_code, 2, (some .int), 5, { frames := 0, cells := 0, slots := 0, locals := 0 })
/-- 57: TermNetModel.unknown()I -/
def tn_m57 : am_M := (⟨tn_R5, "unknown", "()I"⟩, prog_7_method_6_code, 1, (some .int), 5, { frames := 3, cells := 0, slots := 0, locals := 77 })
/-- 58: TermNetModel.add(IIII)I -/
def tn_m58 : am_M := (⟨tn_R5, "add", "(IIII)I"⟩, prog_7_method_5_code, 6, (some .int), 5, { frames := 2, cells := 0, slots := 0, locals := 52 })
/-- 59: TermNetModel.close([I)Z -/
def tn_m59 : am_M := (⟨tn_R5, "close", "([I)Z"⟩, prog_7_method_9_code, 7, (some .boolean), 5, { frames := 1, cells := 0, slots := 0, locals := 26 })
/-- 60: TermNetModel.join([III)V -/
def tn_m60 : am_M := (⟨tn_R5, "join", "([III)V"⟩, prog_7_method_8_code, 7, none, 5, { frames := 0, cells := 0, slots := 0, locals := 0 })
/-- 61: TermNetModel.term(IIII)I -/
def tn_m61 : am_M := (⟨tn_R5, "term", "(IIII)I"⟩, prog_7_method_7_code, 6, (some .int), 5, { frames := 3, cells := 0, slots := 0, locals := 77 })
/-- 62: TermNetModel.isTerm(I)Z -/
def tn_m62 : am_M := (⟨tn_R5, "isTerm", "(I)Z"⟩, prog_7_method_3_code, 2, (some .boolean), 5, { frames := 0, cells := 0, slots := 0, locals := 0 })
/-- 63: TermNetModel.equal(II)Z -/
def tn_m63 : am_M := (⟨tn_R5, "equal", "(II)Z"⟩, prog_7_method_11_code, 4, (some .boolean), 5, { frames := 2, cells := 0, slots := 0, locals := 52 })
/-- 64: TermNetModel.look([I)Z -/
def tn_m64 : am_M := (⟨tn_R5, "look", "([I)Z"⟩, prog_7_method_10_code, 12, (some .boolean), 5, { frames := 0, cells := 0, slots := 0, locals := 0 })
/-- 65: TermNetModel.same(II)Z -/
def tn_m65 : am_M := (⟨tn_R5, "same", "(II)Z"⟩, prog_7_method_12_code, 3, (some .boolean), 5, { frames := 1, cells := 0, slots := 0, locals := 21 })
/-- 66: TermNetModel.top(I)I -/
def tn_m66 : am_M := (⟨tn_R5, "top", "(I)I"⟩, prog_7_method_13_code, 4, (some .int), 5, { frames := 1, cells := 0, slots := 0, locals := 31 })
/-- 67: TermNetModel.part(II)I -/
def tn_m67 : am_M := (⟨tn_R5, "part", "(II)I"⟩, prog_7_method_14_code, 5, (some .int), 5, { frames := 1, cells := 0, slots := 0, locals := 31 })
/-- 68: TermNetModel.least(I)I -/
def tn_m68 : am_M := (⟨tn_R5, "least", "(I)I"⟩, prog_7_method_15_code, 2, (some .int), 5, { frames := 1, cells := 0, slots := 0, locals := 21 })
/-- 69: TermNetModel.size(I)I -/
def tn_m69 : am_M := (⟨tn_R5, "size", "(I)I"⟩, prog_7_method_16_code, 3, (some .int), 5, { frames := 1, cells := 0, slots := 0, locals := 31 })
/-- 70: TermNetModel.depth(I)I -/
def tn_m70 : am_M := (⟨tn_R5, "depth", "(I)I"⟩, prog_7_method_17_code, 3, (some .int), 5, { frames := 1, cells := 0, slots := 0, locals := 31 })
/-- 71: TermNetModel.inside(II)Z -/
def tn_m71 : am_M := (⟨tn_R5, "inside", "(II)Z"⟩, prog_7_method_19_code, 3, (some .boolean), 5, { frames := 2, cells := 0, slots := 0, locals := 58 })
/-- 72: TermNetModel.go(I)V -/
def tn_m72 : am_M := (⟨tn_R5, "go", "(I)V"⟩, prog_7_method_18_code, 8, none, 5, { frames := 1, cells := 0, slots := 0, locals := 31 })
/-- 73: TermNetModel.unknowns(I)I -/
def tn_m73 : am_M := (⟨tn_R5, "unknowns", "(I)I"⟩, prog_7_method_20_code, 4, (some .int), 5, { frames := 2, cells := 0, slots := 0, locals := 58 })
/-- 74: TermNetModel.mark()I -/
def tn_m74 : am_M := (⟨tn_R5, "mark", "()I"⟩, prog_7_method_21_code, 2, (some .int), 5, { frames := 0, cells := 0, slots := 0, locals := 0 })
/-- 75: TermNetModel.back()I -/
def tn_m75 : am_M := (⟨tn_R5, "back", "()I"⟩, prog_7_method_22_code, 2, (some .int), 5, { frames := 0, cells := 0, slots := 0, locals := 0 })
/-- 76: TermNetModel.count(I)I -/
def tn_m76 : am_M := (⟨tn_R5, "count", "(I)I"⟩, prog_7_method_23_code, 6, (some .int), 5, { frames := 1, cells := 0, slots := 0, locals := 31 })
/-- 77: java/lang/Math.floorMod(II)I -/
def tn_m77 : am_M := (⟨tn_R6, "floorMod", "(II)I"⟩, prog_11_method_50_code, 3, (some .int), 6, { frames := 0, cells := 0, slots := 0, locals := 0 })
/-- 78: java/util/Arrays.fill([II)V -/
def tn_m78 : am_M := (⟨tn_R7, "fill", "([II)V"⟩, prog_15_method_103_code, 4, none, 7, { frames := 0, cells := 0, slots := 0, locals := 0 })
def tn_M : List am_M := [tn_m0, tn_m1, tn_m2, tn_m3, tn_m4, tn_m5, tn_m6, tn_m7, tn_m8, tn_m9, tn_m10, tn_m11, tn_m12, tn_m13, tn_m14, tn_m15, tn_m16, tn_m17, tn_m18, tn_m19, tn_m20, tn_m21, tn_m22, tn_m23, tn_m24, tn_m25, tn_m26, tn_m27, tn_m28, tn_m29, tn_m30, tn_m31, tn_m32, tn_m33, tn_m34, tn_m35, tn_m36, tn_m37, tn_m38, tn_m39, tn_m40, tn_m41, tn_m42, tn_m43, tn_m44, tn_m45, tn_m46, tn_m47, tn_m48, tn_m49, tn_m50, tn_m51, tn_m52, tn_m53, tn_m54, tn_m55, tn_m56, tn_m57, tn_m58, tn_m59, tn_m60, tn_m61, tn_m62, tn_m63, tn_m64, tn_m65, tn_m66, tn_m67, tn_m68, tn_m69, tn_m70, tn_m71, tn_m72, tn_m73, tn_m74, tn_m75, tn_m76, tn_m77, tn_m78]
def tn_fl : List ((Nat × Nat) × (Nat × Nat)) := [((0, 15), (0, 2)), ((0, 18), (0, 3)), ((0, 21), (0, 4)), ((0, 24), (0, 5)), ((0, 28), (0, 0)), ((0, 32), (1, 1)), ((0, 48), (1, 4)), ((0, 9), (0, 1)), ((1, 15), (1, 1)), ((1, 18), (1, 2)), ((1, 21), (1, 3)), ((1, 25), (1, 4)), ((1, 9), (1, 0)), ((2, 11), (2, 1)), ((2, 15), (2, 2)), ((2, 18), (2, 3)), ((2, 21), (2, 0)), ((2, 31), (3, 7)), ((2, 37), (3, 4)), ((2, 63), (0, 0)), ((2, 67), (1, 1)), ((3, 15), (3, 2)), ((3, 18), (3, 3)), ((3, 21), (3, 4)), ((3, 24), (3, 5)), ((3, 27), (3, 6)), ((3, 31), (3, 7)), ((3, 34), (3, 0)), ((3, 9), (3, 1)), ((4, 10), (4, 0)), ((4, 104), (0, 5)), ((4, 115), (1, 4)), ((4, 134), (1, 1)), ((4, 21), (4, 1)), ((4, 30), (4, 2)), ((4, 37), (4, 3)), ((4, 41), (4, 4)), ((4, 45), (4, 5)), ((4, 48), (4, 6)), ((4, 51), (4, 7)), ((4, 55), (4, 8)), ((4, 65), (1, 3)), ((5, 13), (5, 1)), ((5, 16), (5, 2)), ((5, 19), (5, 8)), ((5, 22), (5, 9)), ((5, 25), (5, 10)), ((5, 28), (5, 11)), ((5, 31), (5, 12)), ((5, 34), (5, 13)), ((5, 37), (5, 14)), ((5, 40), (5, 15)), ((5, 43), (5, 16)), ((5, 47), (5, 17)), ((5, 50), (5, 7)), ((5, 54), (5, 4)), ((5, 57), (5, 3)), ((5, 80), (5, 6)), ((5, 87), (5, 5)), ((5, 9), (5, 0))]
def tn_ca : List ((Nat × Nat) × (Nat × Nat × Nat)) := [((2, 70), (0, 4, 2)), ((2, 77), (0, 3, 2)), ((3, 41), (0, 21, 1)), ((3, 44), (0, 22, 2)), ((4, 51), (4, 0, 0)), ((4, 56), (3, 0, 0)), ((4, 59), (0, 5, 2)), ((4, 63), (0, 6, 2)), ((7, 66), (0, 8, 1)), ((8, 37), (0, 9, 1)), ((8, 41), (0, 21, 1)), ((8, 44), (0, 22, 2)), ((8, 70), (0, 4, 2)), ((11, 37), (0, 9, 1)), ((11, 41), (0, 21, 1)), ((12, 37), (0, 9, 1)), ((12, 44), (0, 22, 2)), ((13, 73), (0, 14, 1)), ((14, 59), (0, 5, 2)), ((14, 63), (0, 6, 2)), ((15, 37), (0, 9, 1)), ((18, 28), (0, 19, 1)), ((23, 25), (2, 78, 2)), ((23, 40), (0, 24, 1)), ((23, 44), (0, 15, 1)), ((23, 50), (0, 9, 1)), ((23, 53), (2, 77, 2)), ((23, 59), (0, 25, 2)), ((24, 44), (0, 15, 1)), ((24, 50), (0, 9, 1)), ((24, 72), (0, 11, 1)), ((24, 76), (0, 12, 2)), ((25, 79), (0, 3, 2)), ((25, 83), (0, 4, 2)), ((26, 38), (0, 27, 0)), ((26, 41), (0, 10, 1)), ((26, 47), (0, 28, 1)), ((27, 82), (2, 78, 2)), ((28, 88), (0, 29, 1)), ((28, 91), (0, 30, 1)), ((30, 58), (0, 11, 1)), ((30, 61), (0, 12, 2)), ((30, 88), (0, 29, 1)), ((31, 41), (0, 10, 1)), ((31, 51), (0, 32, 1)), ((31, 55), (0, 33, 1)), ((32, 38), (0, 27, 0)), ((32, 41), (0, 10, 1)), ((32, 47), (0, 28, 1)), ((33, 58), (0, 11, 1)), ((33, 61), (0, 12, 2)), ((33, 67), (5, 0, 0)), ((34, 41), (0, 10, 1)), ((34, 51), (0, 32, 1)), ((34, 73), (0, 35, 1)), ((35, 58), (0, 11, 1)), ((35, 61), (0, 12, 2)), ((35, 76), (3, 0, 0)), ((36, 41), (0, 10, 1)), ((36, 51), (0, 32, 1)), ((37, 51), (0, 32, 1)), ((37, 79), (0, 15, 1)), ((38, 169), (0, 0, 0)), ((39, 73), (0, 16, 1)), ((40, 77), (0, 41, 0)), ((40, 80), (0, 17, 0)), ((40, 84), (0, 1, 1)), ((42, 77), (0, 41, 0)), ((42, 84), (0, 1, 1)), ((42, 88), (0, 18, 4)), ((42, 94), (0, 20, 4)), ((42, 98), (0, 2, 1)), ((43, 101), (0, 44, 1)), ((43, 107), (0, 4, 2)), ((43, 111), (0, 7, 1)), ((43, 118), (0, 26, 1)), ((43, 121), (0, 13, 1)), ((43, 124), (0, 23, 1)), ((44, 172), (0, 19, 1)), ((45, 101), (0, 44, 1)), ((45, 128), (0, 10, 1)), ((46, 101), (0, 44, 1)), ((46, 131), (0, 15, 1)), ((46, 137), (0, 9, 1)), ((47, 101), (0, 44, 1)), ((47, 140), (0, 11, 1)), ((47, 148), (0, 12, 2)), ((48, 101), (0, 44, 1)), ((48, 128), (0, 10, 1)), ((49, 101), (0, 44, 1)), ((49, 152), (0, 31, 1)), ((50, 101), (0, 44, 1)), ((50, 155), (0, 34, 1)), ((51, 101), (0, 44, 1)), ((51, 131), (0, 15, 1)), ((51, 158), (0, 36, 2)), ((52, 101), (0, 44, 1)), ((52, 162), (0, 37, 1)), ((54, 121), (0, 13, 1)), ((57, 64), (0, 58, 4)), ((58, 60), (0, 59, 1)), ((59, 72), (0, 60, 3)), ((61, 64), (0, 58, 4)), ((61, 68), (0, 62, 1)), ((63, 60), (0, 59, 1)), ((63, 68), (0, 62, 1)), ((63, 72), (0, 60, 3)), ((63, 77), (0, 64, 1)), ((65, 68), (0, 62, 1)), ((66, 68), (0, 62, 1)), ((66, 77), (0, 64, 1)), ((67, 68), (0, 62, 1)), ((67, 77), (0, 64, 1)), ((68, 68), (0, 62, 1)), ((69, 68), (0, 62, 1)), ((69, 77), (0, 64, 1)), ((70, 68), (0, 62, 1)), ((70, 77), (0, 64, 1)), ((71, 68), (0, 62, 1)), ((71, 83), (0, 72, 1)), ((72, 77), (0, 64, 1)), ((73, 68), (0, 62, 1)), ((73, 83), (0, 72, 1)), ((76, 77), (0, 64, 1))]
def tn_ki : List ((Nat × Nat) × Int32) := [((2, 75), 1000003), ((5, 76), 1000000000)]
def tn_kl : List ((Nat × Nat) × Int64) := [((3, 65), 1000000000)]
def tn_tw : List ((Nat × Nat) × String) := [((39, 9), "java/lang/IllegalArgumentException"), ((39, 31), "java/lang/IndexOutOfBoundsException"), ((41, 13), "java/lang/IndexOutOfBoundsException"), ((42, 15), "java/lang/IllegalArgumentException"), ((44, 11), "java/lang/IllegalArgumentException"), ((47, 21), "java/util/NoSuchElementException"), ((53, 9), "java/lang/IndexOutOfBoundsException"), ((54, 7), "java/util/NoSuchElementException")]
def tn_G : am_G := (tn_M, tn_fl, tn_ca, tn_ki, tn_kl, tn_tw)
def tn_okM (M : am_M) : Prop := (plainFor M.1 = true ∧ Cond.code M.1 M.2.1 M.2.2.1 M.2.2.2.1 ∈ tn_TS ∧ Cond.initialized M.1.cls ∈ tn_TS ∧ (M.1.cls ≠ "java/lang/invoke/MethodHandle" ∧ M.1.cls ≠ "java/lang/invoke/VarHandle") ∧ M.2.2.2.2.2.slots = 6 * M.2.2.2.2.2.cells) ∧ M.1.cls = tn_cn M.2.2.2.2.1
theorem tn_o0 : tn_okM tn_m0 := ⟨⟨by decide +kernel, tn_in 188 (by decide +kernel) (by decide +kernel), tn_in 25 (by decide +kernel) (by decide +kernel), by decide +kernel, rfl⟩, rfl⟩
theorem tn_o1 : tn_okM tn_m1 := ⟨⟨by decide +kernel, tn_in 305 (by decide +kernel) (by decide +kernel), tn_in 25 (by decide +kernel) (by decide +kernel), by decide +kernel, rfl⟩, rfl⟩
theorem tn_o2 : tn_okM tn_m2 := ⟨⟨by decide +kernel, tn_in 329 (by decide +kernel) (by decide +kernel), tn_in 25 (by decide +kernel) (by decide +kernel), by decide +kernel, rfl⟩, rfl⟩
theorem tn_o3 : tn_okM tn_m3 := ⟨⟨by decide +kernel, tn_in 333 (by decide +kernel) (by decide +kernel), tn_in 25 (by decide +kernel) (by decide +kernel), by decide +kernel, rfl⟩, rfl⟩
theorem tn_o4 : tn_okM tn_m4 := ⟨⟨by decide +kernel, tn_in 345 (by decide +kernel) (by decide +kernel), tn_in 25 (by decide +kernel) (by decide +kernel), by decide +kernel, rfl⟩, rfl⟩
theorem tn_o5 : tn_okM tn_m5 := ⟨⟨by decide +kernel, tn_in 355 (by decide +kernel) (by decide +kernel), tn_in 25 (by decide +kernel) (by decide +kernel), by decide +kernel, rfl⟩, rfl⟩
theorem tn_o6 : tn_okM tn_m6 := ⟨⟨by decide +kernel, tn_in 359 (by decide +kernel) (by decide +kernel), tn_in 25 (by decide +kernel) (by decide +kernel), by decide +kernel, rfl⟩, rfl⟩
theorem tn_o7 : tn_okM tn_m7 := ⟨⟨by decide +kernel, tn_in 377 (by decide +kernel) (by decide +kernel), tn_in 25 (by decide +kernel) (by decide +kernel), by decide +kernel, rfl⟩, rfl⟩
theorem tn_o8 : tn_okM tn_m8 := ⟨⟨by decide +kernel, tn_in 381 (by decide +kernel) (by decide +kernel), tn_in 25 (by decide +kernel) (by decide +kernel), by decide +kernel, rfl⟩, rfl⟩
theorem tn_o9 : tn_okM tn_m9 := ⟨⟨by decide +kernel, tn_in 385 (by decide +kernel) (by decide +kernel), tn_in 25 (by decide +kernel) (by decide +kernel), by decide +kernel, rfl⟩, rfl⟩
theorem tn_o10 : tn_okM tn_m10 := ⟨⟨by decide +kernel, tn_in 400 (by decide +kernel) (by decide +kernel), tn_in 25 (by decide +kernel) (by decide +kernel), by decide +kernel, rfl⟩, rfl⟩
theorem tn_o11 : tn_okM tn_m11 := ⟨⟨by decide +kernel, tn_in 416 (by decide +kernel) (by decide +kernel), tn_in 25 (by decide +kernel) (by decide +kernel), by decide +kernel, rfl⟩, rfl⟩
theorem tn_o12 : tn_okM tn_m12 := ⟨⟨by decide +kernel, tn_in 420 (by decide +kernel) (by decide +kernel), tn_in 25 (by decide +kernel) (by decide +kernel), by decide +kernel, rfl⟩, rfl⟩
theorem tn_o13 : tn_okM tn_m13 := ⟨⟨by decide +kernel, tn_in 424 (by decide +kernel) (by decide +kernel), tn_in 25 (by decide +kernel) (by decide +kernel), by decide +kernel, rfl⟩, rfl⟩
theorem tn_o14 : tn_okM tn_m14 := ⟨⟨by decide +kernel, tn_in 428 (by decide +kernel) (by decide +kernel), tn_in 25 (by decide +kernel) (by decide +kernel), by decide +kernel, rfl⟩, rfl⟩
theorem tn_o15 : tn_okM tn_m15 := ⟨⟨by decide +kernel, tn_in 441 (by decide +kernel) (by decide +kernel), tn_in 25 (by decide +kernel) (by decide +kernel), by decide +kernel, rfl⟩, rfl⟩
theorem tn_o16 : tn_okM tn_m16 := ⟨⟨by decide +kernel, tn_in 285 (by decide +kernel) (by decide +kernel), tn_in 24 (by decide +kernel) (by decide +kernel), by decide +kernel, rfl⟩, rfl⟩
theorem tn_o17 : tn_okM tn_m17 := ⟨⟨by decide +kernel, tn_in 301 (by decide +kernel) (by decide +kernel), tn_in 24 (by decide +kernel) (by decide +kernel), by decide +kernel, rfl⟩, rfl⟩
theorem tn_o18 : tn_okM tn_m18 := ⟨⟨by decide +kernel, tn_in 316 (by decide +kernel) (by decide +kernel), tn_in 24 (by decide +kernel) (by decide +kernel), by decide +kernel, rfl⟩, rfl⟩
theorem tn_o19 : tn_okM tn_m19 := ⟨⟨by decide +kernel, tn_in 320 (by decide +kernel) (by decide +kernel), tn_in 24 (by decide +kernel) (by decide +kernel), by decide +kernel, rfl⟩, rfl⟩
theorem tn_o20 : tn_okM tn_m20 := ⟨⟨by decide +kernel, tn_in 325 (by decide +kernel) (by decide +kernel), tn_in 24 (by decide +kernel) (by decide +kernel), by decide +kernel, rfl⟩, rfl⟩
theorem tn_o21 : tn_okM tn_m21 := ⟨⟨by decide +kernel, tn_in 337 (by decide +kernel) (by decide +kernel), tn_in 24 (by decide +kernel) (by decide +kernel), by decide +kernel, rfl⟩, rfl⟩
theorem tn_o22 : tn_okM tn_m22 := ⟨⟨by decide +kernel, tn_in 341 (by decide +kernel) (by decide +kernel), tn_in 24 (by decide +kernel) (by decide +kernel), by decide +kernel, rfl⟩, rfl⟩
theorem tn_o23 : tn_okM tn_m23 := ⟨⟨by decide +kernel, tn_in 432 (by decide +kernel) (by decide +kernel), tn_in 27 (by decide +kernel) (by decide +kernel), by decide +kernel, rfl⟩, rfl⟩
theorem tn_o24 : tn_okM tn_m24 := ⟨⟨by decide +kernel, tn_in 437 (by decide +kernel) (by decide +kernel), tn_in 27 (by decide +kernel) (by decide +kernel), by decide +kernel, rfl⟩, rfl⟩
theorem tn_o25 : tn_okM tn_m25 := ⟨⟨by decide +kernel, tn_in 452 (by decide +kernel) (by decide +kernel), tn_in 27 (by decide +kernel) (by decide +kernel), by decide +kernel, rfl⟩, rfl⟩
theorem tn_o26 : tn_okM tn_m26 := ⟨⟨by decide +kernel, tn_in 389 (by decide +kernel) (by decide +kernel), tn_in 26 (by decide +kernel) (by decide +kernel), by decide +kernel, rfl⟩, rfl⟩
theorem tn_o27 : tn_okM tn_m27 := ⟨⟨by decide +kernel, tn_in 393 (by decide +kernel) (by decide +kernel), tn_in 26 (by decide +kernel) (by decide +kernel), by decide +kernel, rfl⟩, rfl⟩
theorem tn_o28 : tn_okM tn_m28 := ⟨⟨by decide +kernel, tn_in 404 (by decide +kernel) (by decide +kernel), tn_in 26 (by decide +kernel) (by decide +kernel), by decide +kernel, rfl⟩, rfl⟩
theorem tn_o29 : tn_okM tn_m29 := ⟨⟨by decide +kernel, tn_in 408 (by decide +kernel) (by decide +kernel), tn_in 26 (by decide +kernel) (by decide +kernel), by decide +kernel, rfl⟩, rfl⟩
theorem tn_o30 : tn_okM tn_m30 := ⟨⟨by decide +kernel, tn_in 412 (by decide +kernel) (by decide +kernel), tn_in 26 (by decide +kernel) (by decide +kernel), by decide +kernel, rfl⟩, rfl⟩
theorem tn_o31 : tn_okM tn_m31 := ⟨⟨by decide +kernel, tn_in 515 (by decide +kernel) (by decide +kernel), tn_in 26 (by decide +kernel) (by decide +kernel), by decide +kernel, rfl⟩, rfl⟩
theorem tn_o32 : tn_okM tn_m32 := ⟨⟨by decide +kernel, tn_in 519 (by decide +kernel) (by decide +kernel), tn_in 26 (by decide +kernel) (by decide +kernel), by decide +kernel, rfl⟩, rfl⟩
theorem tn_o33 : tn_okM tn_m33 := ⟨⟨by decide +kernel, tn_in 523 (by decide +kernel) (by decide +kernel), tn_in 26 (by decide +kernel) (by decide +kernel), by decide +kernel, rfl⟩, rfl⟩
theorem tn_o34 : tn_okM tn_m34 := ⟨⟨by decide +kernel, tn_in 538 (by decide +kernel) (by decide +kernel), tn_in 26 (by decide +kernel) (by decide +kernel), by decide +kernel, rfl⟩, rfl⟩
theorem tn_o35 : tn_okM tn_m35 := ⟨⟨by decide +kernel, tn_in 542 (by decide +kernel) (by decide +kernel), tn_in 26 (by decide +kernel) (by decide +kernel), by decide +kernel, rfl⟩, rfl⟩
theorem tn_o36 : tn_okM tn_m36 := ⟨⟨by decide +kernel, tn_in 554 (by decide +kernel) (by decide +kernel), tn_in 26 (by decide +kernel) (by decide +kernel), by decide +kernel, rfl⟩, rfl⟩
theorem tn_o37 : tn_okM tn_m37 := ⟨⟨by decide +kernel, tn_in 565 (by decide +kernel) (by decide +kernel), tn_in 26 (by decide +kernel) (by decide +kernel), by decide +kernel, rfl⟩, rfl⟩
theorem tn_o38 : tn_okM tn_m38 := ⟨⟨by decide +kernel, tn_in 184 (by decide +kernel) (by decide +kernel), tn_in 23 (by decide +kernel) (by decide +kernel), by decide +kernel, rfl⟩, rfl⟩
theorem tn_o39 : tn_okM tn_m39 := ⟨⟨by decide +kernel, tn_in 197 (by decide +kernel) (by decide +kernel), tn_in 23 (by decide +kernel) (by decide +kernel), by decide +kernel, rfl⟩, rfl⟩
theorem tn_o40 : tn_okM tn_m40 := ⟨⟨by decide +kernel, tn_in 292 (by decide +kernel) (by decide +kernel), tn_in 23 (by decide +kernel) (by decide +kernel), by decide +kernel, rfl⟩, rfl⟩
theorem tn_o41 : tn_okM tn_m41 := ⟨⟨by decide +kernel, tn_in 296 (by decide +kernel) (by decide +kernel), tn_in 23 (by decide +kernel) (by decide +kernel), by decide +kernel, rfl⟩, rfl⟩
theorem tn_o42 : tn_okM tn_m42 := ⟨⟨by decide +kernel, tn_in 312 (by decide +kernel) (by decide +kernel), tn_in 23 (by decide +kernel) (by decide +kernel), by decide +kernel, rfl⟩, rfl⟩
theorem tn_o43 : tn_okM tn_m43 := ⟨⟨by decide +kernel, tn_in 366 (by decide +kernel) (by decide +kernel), tn_in 23 (by decide +kernel) (by decide +kernel), by decide +kernel, rfl⟩, rfl⟩
theorem tn_o44 : tn_okM tn_m44 := ⟨⟨by decide +kernel, tn_in 370 (by decide +kernel) (by decide +kernel), tn_in 23 (by decide +kernel) (by decide +kernel), by decide +kernel, rfl⟩, rfl⟩
theorem tn_o45 : tn_okM tn_m45 := ⟨⟨by decide +kernel, tn_in 461 (by decide +kernel) (by decide +kernel), tn_in 23 (by decide +kernel) (by decide +kernel), by decide +kernel, rfl⟩, rfl⟩
theorem tn_o46 : tn_okM tn_m46 := ⟨⟨by decide +kernel, tn_in 469 (by decide +kernel) (by decide +kernel), tn_in 23 (by decide +kernel) (by decide +kernel), by decide +kernel, rfl⟩, rfl⟩
theorem tn_o47 : tn_okM tn_m47 := ⟨⟨by decide +kernel, tn_in 479 (by decide +kernel) (by decide +kernel), tn_in 23 (by decide +kernel) (by decide +kernel), by decide +kernel, rfl⟩, rfl⟩
theorem tn_o48 : tn_okM tn_m48 := ⟨⟨by decide +kernel, tn_in 504 (by decide +kernel) (by decide +kernel), tn_in 23 (by decide +kernel) (by decide +kernel), by decide +kernel, rfl⟩, rfl⟩
theorem tn_o49 : tn_okM tn_m49 := ⟨⟨by decide +kernel, tn_in 511 (by decide +kernel) (by decide +kernel), tn_in 23 (by decide +kernel) (by decide +kernel), by decide +kernel, rfl⟩, rfl⟩
theorem tn_o50 : tn_okM tn_m50 := ⟨⟨by decide +kernel, tn_in 534 (by decide +kernel) (by decide +kernel), tn_in 23 (by decide +kernel) (by decide +kernel), by decide +kernel, rfl⟩, rfl⟩
theorem tn_o51 : tn_okM tn_m51 := ⟨⟨by decide +kernel, tn_in 550 (by decide +kernel) (by decide +kernel), tn_in 23 (by decide +kernel) (by decide +kernel), by decide +kernel, rfl⟩, rfl⟩
theorem tn_o52 : tn_okM tn_m52 := ⟨⟨by decide +kernel, tn_in 561 (by decide +kernel) (by decide +kernel), tn_in 23 (by decide +kernel) (by decide +kernel), by decide +kernel, rfl⟩, rfl⟩
theorem tn_o53 : tn_okM tn_m53 := ⟨⟨by decide +kernel, tn_in 573 (by decide +kernel) (by decide +kernel), tn_in 23 (by decide +kernel) (by decide +kernel), by decide +kernel, rfl⟩, rfl⟩
theorem tn_o54 : tn_okM tn_m54 := ⟨⟨by decide +kernel, tn_in 581 (by decide +kernel) (by decide +kernel), tn_in 23 (by decide +kernel) (by decide +kernel), by decide +kernel, rfl⟩, rfl⟩
theorem tn_o55 : tn_okM tn_m55 := ⟨⟨by decide +kernel, tn_in 648 (by decide +kernel) (by decide +kernel), tn_in 28 (by decide +kernel) (by decide +kernel), by decide +kernel, rfl⟩, rfl⟩
theorem tn_o56 : tn_okM tn_m56 := ⟨⟨by decide +kernel, tn_in 652 (by decide +kernel) (by decide +kernel), tn_in 28 (by decide +kernel) (by decide +kernel), by decide +kernel, rfl⟩, rfl⟩
theorem tn_o57 : tn_okM tn_m57 := ⟨⟨by decide +kernel, tn_in 656 (by decide +kernel) (by decide +kernel), tn_in 28 (by decide +kernel) (by decide +kernel), by decide +kernel, rfl⟩, rfl⟩
theorem tn_o58 : tn_okM tn_m58 := ⟨⟨by decide +kernel, tn_in 660 (by decide +kernel) (by decide +kernel), tn_in 28 (by decide +kernel) (by decide +kernel), by decide +kernel, rfl⟩, rfl⟩
theorem tn_o59 : tn_okM tn_m59 := ⟨⟨by decide +kernel, tn_in 664 (by decide +kernel) (by decide +kernel), tn_in 28 (by decide +kernel) (by decide +kernel), by decide +kernel, rfl⟩, rfl⟩
theorem tn_o60 : tn_okM tn_m60 := ⟨⟨by decide +kernel, tn_in 668 (by decide +kernel) (by decide +kernel), tn_in 28 (by decide +kernel) (by decide +kernel), by decide +kernel, rfl⟩, rfl⟩
theorem tn_o61 : tn_okM tn_m61 := ⟨⟨by decide +kernel, tn_in 672 (by decide +kernel) (by decide +kernel), tn_in 28 (by decide +kernel) (by decide +kernel), by decide +kernel, rfl⟩, rfl⟩
theorem tn_o62 : tn_okM tn_m62 := ⟨⟨by decide +kernel, tn_in 676 (by decide +kernel) (by decide +kernel), tn_in 28 (by decide +kernel) (by decide +kernel), by decide +kernel, rfl⟩, rfl⟩
theorem tn_o63 : tn_okM tn_m63 := ⟨⟨by decide +kernel, tn_in 680 (by decide +kernel) (by decide +kernel), tn_in 28 (by decide +kernel) (by decide +kernel), by decide +kernel, rfl⟩, rfl⟩
theorem tn_o64 : tn_okM tn_m64 := ⟨⟨by decide +kernel, tn_in 684 (by decide +kernel) (by decide +kernel), tn_in 28 (by decide +kernel) (by decide +kernel), by decide +kernel, rfl⟩, rfl⟩
theorem tn_o65 : tn_okM tn_m65 := ⟨⟨by decide +kernel, tn_in 689 (by decide +kernel) (by decide +kernel), tn_in 28 (by decide +kernel) (by decide +kernel), by decide +kernel, rfl⟩, rfl⟩
theorem tn_o66 : tn_okM tn_m66 := ⟨⟨by decide +kernel, tn_in 693 (by decide +kernel) (by decide +kernel), tn_in 28 (by decide +kernel) (by decide +kernel), by decide +kernel, rfl⟩, rfl⟩
theorem tn_o67 : tn_okM tn_m67 := ⟨⟨by decide +kernel, tn_in 697 (by decide +kernel) (by decide +kernel), tn_in 28 (by decide +kernel) (by decide +kernel), by decide +kernel, rfl⟩, rfl⟩
theorem tn_o68 : tn_okM tn_m68 := ⟨⟨by decide +kernel, tn_in 701 (by decide +kernel) (by decide +kernel), tn_in 28 (by decide +kernel) (by decide +kernel), by decide +kernel, rfl⟩, rfl⟩
theorem tn_o69 : tn_okM tn_m69 := ⟨⟨by decide +kernel, tn_in 705 (by decide +kernel) (by decide +kernel), tn_in 28 (by decide +kernel) (by decide +kernel), by decide +kernel, rfl⟩, rfl⟩
theorem tn_o70 : tn_okM tn_m70 := ⟨⟨by decide +kernel, tn_in 709 (by decide +kernel) (by decide +kernel), tn_in 28 (by decide +kernel) (by decide +kernel), by decide +kernel, rfl⟩, rfl⟩
theorem tn_o71 : tn_okM tn_m71 := ⟨⟨by decide +kernel, tn_in 713 (by decide +kernel) (by decide +kernel), tn_in 28 (by decide +kernel) (by decide +kernel), by decide +kernel, rfl⟩, rfl⟩
theorem tn_o72 : tn_okM tn_m72 := ⟨⟨by decide +kernel, tn_in 717 (by decide +kernel) (by decide +kernel), tn_in 28 (by decide +kernel) (by decide +kernel), by decide +kernel, rfl⟩, rfl⟩
theorem tn_o73 : tn_okM tn_m73 := ⟨⟨by decide +kernel, tn_in 721 (by decide +kernel) (by decide +kernel), tn_in 28 (by decide +kernel) (by decide +kernel), by decide +kernel, rfl⟩, rfl⟩
theorem tn_o74 : tn_okM tn_m74 := ⟨⟨by decide +kernel, tn_in 725 (by decide +kernel) (by decide +kernel), tn_in 28 (by decide +kernel) (by decide +kernel), by decide +kernel, rfl⟩, rfl⟩
theorem tn_o75 : tn_okM tn_m75 := ⟨⟨by decide +kernel, tn_in 729 (by decide +kernel) (by decide +kernel), tn_in 28 (by decide +kernel) (by decide +kernel), by decide +kernel, rfl⟩, rfl⟩
theorem tn_o76 : tn_okM tn_m76 := ⟨⟨by decide +kernel, tn_in 733 (by decide +kernel) (by decide +kernel), tn_in 28 (by decide +kernel) (by decide +kernel), by decide +kernel, rfl⟩, rfl⟩
theorem tn_o77 : tn_okM tn_m77 := ⟨⟨by decide +kernel, tn_in 448 (by decide +kernel) (by decide +kernel), tn_in 34 (by decide +kernel) (by decide +kernel), by decide +kernel, rfl⟩, rfl⟩
theorem tn_o78 : tn_okM tn_m78 := ⟨⟨by decide +kernel, tn_in 396 (by decide +kernel) (by decide +kernel), tn_in 35 (by decide +kernel) (by decide +kernel), by decide +kernel, rfl⟩, rfl⟩
set_option maxRecDepth 20000 in
theorem tn_oM : ∀ M ∈ tn_M, tn_okM M := List.forall_mem_cons.mpr ⟨tn_o0, List.forall_mem_cons.mpr ⟨tn_o1, List.forall_mem_cons.mpr ⟨tn_o2, List.forall_mem_cons.mpr ⟨tn_o3, List.forall_mem_cons.mpr ⟨tn_o4, List.forall_mem_cons.mpr ⟨tn_o5, List.forall_mem_cons.mpr ⟨tn_o6, List.forall_mem_cons.mpr ⟨tn_o7, List.forall_mem_cons.mpr ⟨tn_o8, List.forall_mem_cons.mpr ⟨tn_o9, List.forall_mem_cons.mpr ⟨tn_o10, List.forall_mem_cons.mpr ⟨tn_o11, List.forall_mem_cons.mpr ⟨tn_o12, List.forall_mem_cons.mpr ⟨tn_o13, List.forall_mem_cons.mpr ⟨tn_o14, List.forall_mem_cons.mpr ⟨tn_o15, List.forall_mem_cons.mpr ⟨tn_o16, List.forall_mem_cons.mpr ⟨tn_o17, List.forall_mem_cons.mpr ⟨tn_o18, List.forall_mem_cons.mpr ⟨tn_o19, List.forall_mem_cons.mpr ⟨tn_o20, List.forall_mem_cons.mpr ⟨tn_o21, List.forall_mem_cons.mpr ⟨tn_o22, List.forall_mem_cons.mpr ⟨tn_o23, List.forall_mem_cons.mpr ⟨tn_o24, List.forall_mem_cons.mpr ⟨tn_o25, List.forall_mem_cons.mpr ⟨tn_o26, List.forall_mem_cons.mpr ⟨tn_o27, List.forall_mem_cons.mpr ⟨tn_o28, List.forall_mem_cons.mpr ⟨tn_o29, List.forall_mem_cons.mpr ⟨tn_o30, List.forall_mem_cons.mpr ⟨tn_o31, List.forall_mem_cons.mpr ⟨tn_o32, List.forall_mem_cons.mpr ⟨tn_o33, List.forall_mem_cons.mpr ⟨tn_o34, List.forall_mem_cons.mpr ⟨tn_o35, List.forall_mem_cons.mpr ⟨tn_o36, List.forall_mem_cons.mpr ⟨tn_o37, List.forall_mem_cons.mpr ⟨tn_o38, List.forall_mem_cons.mpr ⟨tn_o39, List.forall_mem_cons.mpr ⟨tn_o40, List.forall_mem_cons.mpr ⟨tn_o41, List.forall_mem_cons.mpr ⟨tn_o42, List.forall_mem_cons.mpr ⟨tn_o43, List.forall_mem_cons.mpr ⟨tn_o44, List.forall_mem_cons.mpr ⟨tn_o45, List.forall_mem_cons.mpr ⟨tn_o46, List.forall_mem_cons.mpr ⟨tn_o47, List.forall_mem_cons.mpr ⟨tn_o48, List.forall_mem_cons.mpr ⟨tn_o49, List.forall_mem_cons.mpr ⟨tn_o50, List.forall_mem_cons.mpr ⟨tn_o51, List.forall_mem_cons.mpr ⟨tn_o52, List.forall_mem_cons.mpr ⟨tn_o53, List.forall_mem_cons.mpr ⟨tn_o54, List.forall_mem_cons.mpr ⟨tn_o55, List.forall_mem_cons.mpr ⟨tn_o56, List.forall_mem_cons.mpr ⟨tn_o57, List.forall_mem_cons.mpr ⟨tn_o58, List.forall_mem_cons.mpr ⟨tn_o59, List.forall_mem_cons.mpr ⟨tn_o60, List.forall_mem_cons.mpr ⟨tn_o61, List.forall_mem_cons.mpr ⟨tn_o62, List.forall_mem_cons.mpr ⟨tn_o63, List.forall_mem_cons.mpr ⟨tn_o64, List.forall_mem_cons.mpr ⟨tn_o65, List.forall_mem_cons.mpr ⟨tn_o66, List.forall_mem_cons.mpr ⟨tn_o67, List.forall_mem_cons.mpr ⟨tn_o68, List.forall_mem_cons.mpr ⟨tn_o69, List.forall_mem_cons.mpr ⟨tn_o70, List.forall_mem_cons.mpr ⟨tn_o71, List.forall_mem_cons.mpr ⟨tn_o72, List.forall_mem_cons.mpr ⟨tn_o73, List.forall_mem_cons.mpr ⟨tn_o74, List.forall_mem_cons.mpr ⟨tn_o75, List.forall_mem_cons.mpr ⟨tn_o76, List.forall_mem_cons.mpr ⟨tn_o77, List.forall_mem_cons.mpr ⟨tn_o78, fun _ h => absurd h List.not_mem_nil⟩⟩⟩⟩⟩⟩⟩⟩⟩⟩⟩⟩⟩⟩⟩⟩⟩⟩⟩⟩⟩⟩⟩⟩⟩⟩⟩⟩⟩⟩⟩⟩⟩⟩⟩⟩⟩⟩⟩⟩⟩⟩⟩⟩⟩⟩⟩⟩⟩⟩⟩⟩⟩⟩⟩⟩⟩⟩⟩⟩⟩⟩⟩⟩⟩⟩⟩⟩⟩⟩⟩⟩⟩⟩⟩⟩⟩⟩⟩
theorem tn_mM {μ : Nat} {M : am_M} (h : am_m tn_G μ = some M) : tn_okM M := tn_oM M (List.mem_of_getElem? h)
def tn_okF (q : (Nat × Nat) × (Nat × Nat)) : Prop := ∃ (C : String) (T : u_T) (N : Nat) (ty : Nat → FieldType), tn_cl[q.2.1]? = some (C, T, N) ∧ q.2.2 < N ∧ (T q.2.2).1 = C ∧ (∀ w ∈ u_ws C T N, w ∈ tn_TS) ∧ (∀ j, j < N → parseFieldDescriptor (T j).2.2.1 = some (ty j)) ∧ (∀ a, a < N → ∀ b, b < N → a ≠ b → (T a).2.1 ≠ (T b).2.1) ∧
    (Cond.fieldLink (tn_cn q.1.1) q.1.2 C (T q.2.2).2.1 (T q.2.2).2.2.1 ∈ tn_TS ∨ ∃ host, Cond.fieldLinkNest (tn_cn q.1.1) q.1.2 C (T q.2.2).2.1 (T q.2.2).2.2.1 host ∈ tn_NS)
theorem tn_f0 : tn_okF ((0, 15), (0, 2)) := ⟨tn_R0, tn_T0, 6, tn_ty0, rfl, by decide, rfl, tn_iw0, tn_to0, tn_nm0, Or.inl (tn_in 83 (by decide +kernel) (by decide +kernel))⟩
theorem tn_f1 : tn_okF ((0, 18), (0, 3)) := ⟨tn_R0, tn_T0, 6, tn_ty0, rfl, by decide, rfl, tn_iw0, tn_to0, tn_nm0, Or.inl (tn_in 84 (by decide +kernel) (by decide +kernel))⟩
theorem tn_f2 : tn_okF ((0, 21), (0, 4)) := ⟨tn_R0, tn_T0, 6, tn_ty0, rfl, by decide, rfl, tn_iw0, tn_to0, tn_nm0, Or.inl (tn_in 85 (by decide +kernel) (by decide +kernel))⟩
theorem tn_f3 : tn_okF ((0, 24), (0, 5)) := ⟨tn_R0, tn_T0, 6, tn_ty0, rfl, by decide, rfl, tn_iw0, tn_to0, tn_nm0, Or.inl (tn_in 86 (by decide +kernel) (by decide +kernel))⟩
theorem tn_f4 : tn_okF ((0, 28), (0, 0)) := ⟨tn_R0, tn_T0, 6, tn_ty0, rfl, by decide, rfl, tn_iw0, tn_to0, tn_nm0, Or.inl (tn_in 80 (by decide +kernel) (by decide +kernel))⟩
theorem tn_f5 : tn_okF ((0, 32), (1, 1)) := ⟨tn_R1, tn_T1, 5, tn_ty1, rfl, by decide, rfl, tn_iw1, tn_to1, tn_nm1, Or.inr ⟨"TermNet", by decide +kernel⟩⟩
theorem tn_f6 : tn_okF ((0, 48), (1, 4)) := ⟨tn_R1, tn_T1, 5, tn_ty1, rfl, by decide, rfl, tn_iw1, tn_to1, tn_nm1, Or.inr ⟨"TermNet", by decide +kernel⟩⟩
theorem tn_f7 : tn_okF ((0, 9), (0, 1)) := ⟨tn_R0, tn_T0, 6, tn_ty0, rfl, by decide, rfl, tn_iw0, tn_to0, tn_nm0, Or.inl (tn_in 82 (by decide +kernel) (by decide +kernel))⟩
theorem tn_f8 : tn_okF ((1, 15), (1, 1)) := ⟨tn_R1, tn_T1, 5, tn_ty1, rfl, by decide, rfl, tn_iw1, tn_to1, tn_nm1, Or.inl (tn_in 52 (by decide +kernel) (by decide +kernel))⟩
theorem tn_f9 : tn_okF ((1, 18), (1, 2)) := ⟨tn_R1, tn_T1, 5, tn_ty1, rfl, by decide, rfl, tn_iw1, tn_to1, tn_nm1, Or.inl (tn_in 56 (by decide +kernel) (by decide +kernel))⟩
theorem tn_f10 : tn_okF ((1, 21), (1, 3)) := ⟨tn_R1, tn_T1, 5, tn_ty1, rfl, by decide, rfl, tn_iw1, tn_to1, tn_nm1, Or.inl (tn_in 57 (by decide +kernel) (by decide +kernel))⟩
theorem tn_f11 : tn_okF ((1, 25), (1, 4)) := ⟨tn_R1, tn_T1, 5, tn_ty1, rfl, by decide, rfl, tn_iw1, tn_to1, tn_nm1, Or.inl (tn_in 59 (by decide +kernel) (by decide +kernel))⟩
theorem tn_f12 : tn_okF ((1, 9), (1, 0)) := ⟨tn_R1, tn_T1, 5, tn_ty1, rfl, by decide, rfl, tn_iw1, tn_to1, tn_nm1, Or.inl (tn_in 51 (by decide +kernel) (by decide +kernel))⟩
theorem tn_f13 : tn_okF ((2, 11), (2, 1)) := ⟨tn_R2, tn_T2, 4, tn_ty2, rfl, by decide, rfl, tn_iw2, tn_to2, tn_nm2, Or.inl (tn_in 141 (by decide +kernel) (by decide +kernel))⟩
theorem tn_f14 : tn_okF ((2, 15), (2, 2)) := ⟨tn_R2, tn_T2, 4, tn_ty2, rfl, by decide, rfl, tn_iw2, tn_to2, tn_nm2, Or.inl (tn_in 142 (by decide +kernel) (by decide +kernel))⟩
theorem tn_f15 : tn_okF ((2, 18), (2, 3)) := ⟨tn_R2, tn_T2, 4, tn_ty2, rfl, by decide, rfl, tn_iw2, tn_to2, tn_nm2, Or.inl (tn_in 143 (by decide +kernel) (by decide +kernel))⟩
theorem tn_f16 : tn_okF ((2, 21), (2, 0)) := ⟨tn_R2, tn_T2, 4, tn_ty2, rfl, by decide, rfl, tn_iw2, tn_to2, tn_nm2, Or.inl (tn_in 140 (by decide +kernel) (by decide +kernel))⟩
theorem tn_f17 : tn_okF ((2, 31), (3, 7)) := ⟨tn_R3, tn_T3, 8, tn_ty3, rfl, by decide, rfl, tn_iw3, tn_to3, tn_nm3, Or.inr ⟨"TermNet", by decide +kernel⟩⟩
theorem tn_f18 : tn_okF ((2, 37), (3, 4)) := ⟨tn_R3, tn_T3, 8, tn_ty3, rfl, by decide, rfl, tn_iw3, tn_to3, tn_nm3, Or.inr ⟨"TermNet", by decide +kernel⟩⟩
theorem tn_f19 : tn_okF ((2, 63), (0, 0)) := ⟨tn_R0, tn_T0, 6, tn_ty0, rfl, by decide, rfl, tn_iw0, tn_to0, tn_nm0, Or.inr ⟨"TermNet", by decide +kernel⟩⟩
theorem tn_f20 : tn_okF ((2, 67), (1, 1)) := ⟨tn_R1, tn_T1, 5, tn_ty1, rfl, by decide, rfl, tn_iw1, tn_to1, tn_nm1, Or.inr ⟨"TermNet", by decide +kernel⟩⟩
theorem tn_f21 : tn_okF ((3, 15), (3, 2)) := ⟨tn_R3, tn_T3, 8, tn_ty3, rfl, by decide, rfl, tn_iw3, tn_to3, tn_nm3, Or.inl (tn_in 109 (by decide +kernel) (by decide +kernel))⟩
theorem tn_f22 : tn_okF ((3, 18), (3, 3)) := ⟨tn_R3, tn_T3, 8, tn_ty3, rfl, by decide, rfl, tn_iw3, tn_to3, tn_nm3, Or.inl (tn_in 110 (by decide +kernel) (by decide +kernel))⟩
theorem tn_f23 : tn_okF ((3, 21), (3, 4)) := ⟨tn_R3, tn_T3, 8, tn_ty3, rfl, by decide, rfl, tn_iw3, tn_to3, tn_nm3, Or.inl (tn_in 111 (by decide +kernel) (by decide +kernel))⟩
theorem tn_f24 : tn_okF ((3, 24), (3, 5)) := ⟨tn_R3, tn_T3, 8, tn_ty3, rfl, by decide, rfl, tn_iw3, tn_to3, tn_nm3, Or.inl (tn_in 113 (by decide +kernel) (by decide +kernel))⟩
theorem tn_f25 : tn_okF ((3, 27), (3, 6)) := ⟨tn_R3, tn_T3, 8, tn_ty3, rfl, by decide, rfl, tn_iw3, tn_to3, tn_nm3, Or.inl (tn_in 114 (by decide +kernel) (by decide +kernel))⟩
theorem tn_f26 : tn_okF ((3, 31), (3, 7)) := ⟨tn_R3, tn_T3, 8, tn_ty3, rfl, by decide, rfl, tn_iw3, tn_to3, tn_nm3, Or.inl (tn_in 115 (by decide +kernel) (by decide +kernel))⟩
theorem tn_f27 : tn_okF ((3, 34), (3, 0)) := ⟨tn_R3, tn_T3, 8, tn_ty3, rfl, by decide, rfl, tn_iw3, tn_to3, tn_nm3, Or.inl (tn_in 107 (by decide +kernel) (by decide +kernel))⟩
theorem tn_f28 : tn_okF ((3, 9), (3, 1)) := ⟨tn_R3, tn_T3, 8, tn_ty3, rfl, by decide, rfl, tn_iw3, tn_to3, tn_nm3, Or.inl (tn_in 108 (by decide +kernel) (by decide +kernel))⟩
theorem tn_f29 : tn_okF ((4, 10), (4, 0)) := ⟨tn_R4, tn_T4, 9, tn_ty4, rfl, by decide, rfl, tn_iw4, tn_to4, tn_nm4, Or.inl (tn_in 153 (by decide +kernel) (by decide +kernel))⟩
theorem tn_f30 : tn_okF ((4, 104), (0, 5)) := ⟨tn_R0, tn_T0, 6, tn_ty0, rfl, by decide, rfl, tn_iw0, tn_to0, tn_nm0, Or.inr ⟨"TermNet", by decide +kernel⟩⟩
theorem tn_f31 : tn_okF ((4, 115), (1, 4)) := ⟨tn_R1, tn_T1, 5, tn_ty1, rfl, by decide, rfl, tn_iw1, tn_to1, tn_nm1, Or.inr ⟨"TermNet", by decide +kernel⟩⟩
theorem tn_f32 : tn_okF ((4, 134), (1, 1)) := ⟨tn_R1, tn_T1, 5, tn_ty1, rfl, by decide, rfl, tn_iw1, tn_to1, tn_nm1, Or.inr ⟨"TermNet", by decide +kernel⟩⟩
theorem tn_f33 : tn_okF ((4, 21), (4, 1)) := ⟨tn_R4, tn_T4, 9, tn_ty4, rfl, by decide, rfl, tn_iw4, tn_to4, tn_nm4, Or.inl (tn_in 154 (by decide +kernel) (by decide +kernel))⟩
theorem tn_f34 : tn_okF ((4, 30), (4, 2)) := ⟨tn_R4, tn_T4, 9, tn_ty4, rfl, by decide, rfl, tn_iw4, tn_to4, tn_nm4, Or.inl (tn_in 155 (by decide +kernel) (by decide +kernel))⟩
theorem tn_f35 : tn_okF ((4, 37), (4, 3)) := ⟨tn_R4, tn_T4, 9, tn_ty4, rfl, by decide, rfl, tn_iw4, tn_to4, tn_nm4, Or.inl (tn_in 156 (by decide +kernel) (by decide +kernel))⟩
theorem tn_f36 : tn_okF ((4, 41), (4, 4)) := ⟨tn_R4, tn_T4, 9, tn_ty4, rfl, by decide, rfl, tn_iw4, tn_to4, tn_nm4, Or.inl (tn_in 157 (by decide +kernel) (by decide +kernel))⟩
theorem tn_f37 : tn_okF ((4, 45), (4, 5)) := ⟨tn_R4, tn_T4, 9, tn_ty4, rfl, by decide, rfl, tn_iw4, tn_to4, tn_nm4, Or.inl (tn_in 158 (by decide +kernel) (by decide +kernel))⟩
theorem tn_f38 : tn_okF ((4, 48), (4, 6)) := ⟨tn_R4, tn_T4, 9, tn_ty4, rfl, by decide, rfl, tn_iw4, tn_to4, tn_nm4, Or.inl (tn_in 159 (by decide +kernel) (by decide +kernel))⟩
theorem tn_f39 : tn_okF ((4, 51), (4, 7)) := ⟨tn_R4, tn_T4, 9, tn_ty4, rfl, by decide, rfl, tn_iw4, tn_to4, tn_nm4, Or.inl (tn_in 160 (by decide +kernel) (by decide +kernel))⟩
theorem tn_f40 : tn_okF ((4, 55), (4, 8)) := ⟨tn_R4, tn_T4, 9, tn_ty4, rfl, by decide, rfl, tn_iw4, tn_to4, tn_nm4, Or.inl (tn_in 161 (by decide +kernel) (by decide +kernel))⟩
theorem tn_f41 : tn_okF ((4, 65), (1, 3)) := ⟨tn_R1, tn_T1, 5, tn_ty1, rfl, by decide, rfl, tn_iw1, tn_to1, tn_nm1, Or.inr ⟨"TermNet", by decide +kernel⟩⟩
theorem tn_f42 : tn_okF ((5, 13), (5, 1)) := ⟨tn_R5, tn_T5, 18, tn_ty5, rfl, by decide, rfl, tn_iw5, tn_to5, tn_nm5, Or.inl (tn_in 590 (by decide +kernel) (by decide +kernel))⟩
theorem tn_f43 : tn_okF ((5, 16), (5, 2)) := ⟨tn_R5, tn_T5, 18, tn_ty5, rfl, by decide, rfl, tn_iw5, tn_to5, tn_nm5, Or.inl (tn_in 591 (by decide +kernel) (by decide +kernel))⟩
theorem tn_f44 : tn_okF ((5, 19), (5, 8)) := ⟨tn_R5, tn_T5, 18, tn_ty5, rfl, by decide, rfl, tn_iw5, tn_to5, tn_nm5, Or.inl (tn_in 597 (by decide +kernel) (by decide +kernel))⟩
theorem tn_f45 : tn_okF ((5, 22), (5, 9)) := ⟨tn_R5, tn_T5, 18, tn_ty5, rfl, by decide, rfl, tn_iw5, tn_to5, tn_nm5, Or.inl (tn_in 598 (by decide +kernel) (by decide +kernel))⟩
theorem tn_f46 : tn_okF ((5, 25), (5, 10)) := ⟨tn_R5, tn_T5, 18, tn_ty5, rfl, by decide, rfl, tn_iw5, tn_to5, tn_nm5, Or.inl (tn_in 599 (by decide +kernel) (by decide +kernel))⟩
theorem tn_f47 : tn_okF ((5, 28), (5, 11)) := ⟨tn_R5, tn_T5, 18, tn_ty5, rfl, by decide, rfl, tn_iw5, tn_to5, tn_nm5, Or.inl (tn_in 600 (by decide +kernel) (by decide +kernel))⟩
theorem tn_f48 : tn_okF ((5, 31), (5, 12)) := ⟨tn_R5, tn_T5, 18, tn_ty5, rfl, by decide, rfl, tn_iw5, tn_to5, tn_nm5, Or.inl (tn_in 601 (by decide +kernel) (by decide +kernel))⟩
theorem tn_f49 : tn_okF ((5, 34), (5, 13)) := ⟨tn_R5, tn_T5, 18, tn_ty5, rfl, by decide, rfl, tn_iw5, tn_to5, tn_nm5, Or.inl (tn_in 602 (by decide +kernel) (by decide +kernel))⟩
theorem tn_f50 : tn_okF ((5, 37), (5, 14)) := ⟨tn_R5, tn_T5, 18, tn_ty5, rfl, by decide, rfl, tn_iw5, tn_to5, tn_nm5, Or.inl (tn_in 603 (by decide +kernel) (by decide +kernel))⟩
theorem tn_f51 : tn_okF ((5, 40), (5, 15)) := ⟨tn_R5, tn_T5, 18, tn_ty5, rfl, by decide, rfl, tn_iw5, tn_to5, tn_nm5, Or.inl (tn_in 604 (by decide +kernel) (by decide +kernel))⟩
theorem tn_f52 : tn_okF ((5, 43), (5, 16)) := ⟨tn_R5, tn_T5, 18, tn_ty5, rfl, by decide, rfl, tn_iw5, tn_to5, tn_nm5, Or.inl (tn_in 605 (by decide +kernel) (by decide +kernel))⟩
theorem tn_f53 : tn_okF ((5, 47), (5, 17)) := ⟨tn_R5, tn_T5, 18, tn_ty5, rfl, by decide, rfl, tn_iw5, tn_to5, tn_nm5, Or.inl (tn_in 606 (by decide +kernel) (by decide +kernel))⟩
theorem tn_f54 : tn_okF ((5, 50), (5, 7)) := ⟨tn_R5, tn_T5, 18, tn_ty5, rfl, by decide, rfl, tn_iw5, tn_to5, tn_nm5, Or.inl (tn_in 596 (by decide +kernel) (by decide +kernel))⟩
theorem tn_f55 : tn_okF ((5, 54), (5, 4)) := ⟨tn_R5, tn_T5, 18, tn_ty5, rfl, by decide, rfl, tn_iw5, tn_to5, tn_nm5, Or.inl (tn_in 593 (by decide +kernel) (by decide +kernel))⟩
theorem tn_f56 : tn_okF ((5, 57), (5, 3)) := ⟨tn_R5, tn_T5, 18, tn_ty5, rfl, by decide, rfl, tn_iw5, tn_to5, tn_nm5, Or.inl (tn_in 592 (by decide +kernel) (by decide +kernel))⟩
theorem tn_f57 : tn_okF ((5, 80), (5, 6)) := ⟨tn_R5, tn_T5, 18, tn_ty5, rfl, by decide, rfl, tn_iw5, tn_to5, tn_nm5, Or.inl (tn_in 595 (by decide +kernel) (by decide +kernel))⟩
theorem tn_f58 : tn_okF ((5, 87), (5, 5)) := ⟨tn_R5, tn_T5, 18, tn_ty5, rfl, by decide, rfl, tn_iw5, tn_to5, tn_nm5, Or.inl (tn_in 594 (by decide +kernel) (by decide +kernel))⟩
theorem tn_f59 : tn_okF ((5, 9), (5, 0)) := ⟨tn_R5, tn_T5, 18, tn_ty5, rfl, by decide, rfl, tn_iw5, tn_to5, tn_nm5, Or.inl (tn_in 589 (by decide +kernel) (by decide +kernel))⟩
set_option maxRecDepth 20000 in
theorem tn_oF : ∀ q ∈ tn_fl, tn_okF q := List.forall_mem_cons.mpr ⟨tn_f0, List.forall_mem_cons.mpr ⟨tn_f1, List.forall_mem_cons.mpr ⟨tn_f2, List.forall_mem_cons.mpr ⟨tn_f3, List.forall_mem_cons.mpr ⟨tn_f4, List.forall_mem_cons.mpr ⟨tn_f5, List.forall_mem_cons.mpr ⟨tn_f6, List.forall_mem_cons.mpr ⟨tn_f7, List.forall_mem_cons.mpr ⟨tn_f8, List.forall_mem_cons.mpr ⟨tn_f9, List.forall_mem_cons.mpr ⟨tn_f10, List.forall_mem_cons.mpr ⟨tn_f11, List.forall_mem_cons.mpr ⟨tn_f12, List.forall_mem_cons.mpr ⟨tn_f13, List.forall_mem_cons.mpr ⟨tn_f14, List.forall_mem_cons.mpr ⟨tn_f15, List.forall_mem_cons.mpr ⟨tn_f16, List.forall_mem_cons.mpr ⟨tn_f17, List.forall_mem_cons.mpr ⟨tn_f18, List.forall_mem_cons.mpr ⟨tn_f19, List.forall_mem_cons.mpr ⟨tn_f20, List.forall_mem_cons.mpr ⟨tn_f21, List.forall_mem_cons.mpr ⟨tn_f22, List.forall_mem_cons.mpr ⟨tn_f23, List.forall_mem_cons.mpr ⟨tn_f24, List.forall_mem_cons.mpr ⟨tn_f25, List.forall_mem_cons.mpr ⟨tn_f26, List.forall_mem_cons.mpr ⟨tn_f27, List.forall_mem_cons.mpr ⟨tn_f28, List.forall_mem_cons.mpr ⟨tn_f29, List.forall_mem_cons.mpr ⟨tn_f30, List.forall_mem_cons.mpr ⟨tn_f31, List.forall_mem_cons.mpr ⟨tn_f32, List.forall_mem_cons.mpr ⟨tn_f33, List.forall_mem_cons.mpr ⟨tn_f34, List.forall_mem_cons.mpr ⟨tn_f35, List.forall_mem_cons.mpr ⟨tn_f36, List.forall_mem_cons.mpr ⟨tn_f37, List.forall_mem_cons.mpr ⟨tn_f38, List.forall_mem_cons.mpr ⟨tn_f39, List.forall_mem_cons.mpr ⟨tn_f40, List.forall_mem_cons.mpr ⟨tn_f41, List.forall_mem_cons.mpr ⟨tn_f42, List.forall_mem_cons.mpr ⟨tn_f43, List.forall_mem_cons.mpr ⟨tn_f44, List.forall_mem_cons.mpr ⟨tn_f45, List.forall_mem_cons.mpr ⟨tn_f46, List.forall_mem_cons.mpr ⟨tn_f47, List.forall_mem_cons.mpr ⟨tn_f48, List.forall_mem_cons.mpr ⟨tn_f49, List.forall_mem_cons.mpr ⟨tn_f50, List.forall_mem_cons.mpr ⟨tn_f51, List.forall_mem_cons.mpr ⟨tn_f52, List.forall_mem_cons.mpr ⟨tn_f53, List.forall_mem_cons.mpr ⟨tn_f54, List.forall_mem_cons.mpr ⟨tn_f55, List.forall_mem_cons.mpr ⟨tn_f56, List.forall_mem_cons.mpr ⟨tn_f57, List.forall_mem_cons.mpr ⟨tn_f58, List.forall_mem_cons.mpr ⟨tn_f59, fun _ h => absurd h List.not_mem_nil⟩⟩⟩⟩⟩⟩⟩⟩⟩⟩⟩⟩⟩⟩⟩⟩⟩⟩⟩⟩⟩⟩⟩⟩⟩⟩⟩⟩⟩⟩⟩⟩⟩⟩⟩⟩⟩⟩⟩⟩⟩⟩⟩⟩⟩⟩⟩⟩⟩⟩⟩⟩⟩⟩⟩⟩⟩⟩⟩⟩
def tn_okC (q : (Nat × Nat) × (Nat × Nat × Nat)) : Prop := ∃ M : am_M, am_m tn_G q.1.1 = some M ∧
  (q.2.1 = 0 → ∃ M' : am_M, am_m tn_G q.2.2.1 = some M' ∧ Cond.methodLink M.1.cls q.1.2 M'.1 ∈ tn_TS ∧ Cond.instanceMethod M'.1 ∈ tn_TS ∧ Cond.selects M'.1.cls M'.1 M'.1 ∈ tn_TS ∧ (parseMethodDescriptor M'.1.desc).map (fun d => d.parameters.length) = some q.2.2.2 ∧ M'.2.2.2.2.2.frames + 1 ≤ M.2.2.2.2.2.frames ∧ 8 + (M'.2.2.1 + 11) + M'.2.2.2.2.2.locals ≤ M.2.2.2.2.2.locals ∧ ∃ (T : u_T) (N : Nat), tn_cl[M'.2.2.2.2.1]? = some (M'.1.cls, T, N)) ∧
  (q.2.1 = 2 → ∃ M' : am_M, am_m tn_G q.2.2.1 = some M' ∧ Cond.methodLink M.1.cls q.1.2 M'.1 ∈ tn_TS ∧ Cond.static M'.1 ∈ tn_TS ∧ (parseMethodDescriptor M'.1.desc).map (fun d => d.parameters.length) = some q.2.2.2 ∧ M'.2.2.2.2.2.frames + 1 ≤ M.2.2.2.2.2.frames ∧ 8 + (M'.2.2.1 + 11) + M'.2.2.2.2.2.locals ≤ M.2.2.2.2.2.locals) ∧
  (q.2.1 = 3 → Cond.methodLink M.1.cls q.1.2 Lib.Math.max.name ∈ tn_TS ∧ Cond.static Lib.Math.max.name ∈ tn_TS ∧ Cond.initialized "java/lang/Math" ∈ tn_TS ∧ Cond.code Lib.Math.max.name Lib.Math.max.code 2 (some .int) ∈ tn_TS ∧ 1 ≤ M.2.2.2.2.2.frames ∧ 23 ≤ M.2.2.2.2.2.locals) ∧
  (q.2.1 = 4 → Cond.methodLink M.1.cls q.1.2 Lib.Math.min.name ∈ tn_TS ∧ Cond.static Lib.Math.min.name ∈ tn_TS ∧ Cond.initialized "java/lang/Math" ∈ tn_TS ∧ Cond.code Lib.Math.min.name Lib.Math.min.code 2 (some .int) ∈ tn_TS ∧ 1 ≤ M.2.2.2.2.2.frames ∧ 23 ≤ M.2.2.2.2.2.locals) ∧
  (q.2.1 = 5 → Cond.methodLink M.1.cls q.1.2 Lib.MathLoose.min_long.x ∈ tn_TS ∧ Cond.static Lib.MathLoose.min_long.x ∈ tn_TS ∧ Cond.initialized "java/lang/Math" ∈ tn_TS ∧ Cond.code Lib.MathLoose.min_long.x Lib.MathLoose.min_long.code 4 (some .long) ∈ tn_TS ∧ 1 ≤ M.2.2.2.2.2.frames ∧ 23 ≤ M.2.2.2.2.2.locals)
theorem tn_c0 : tn_okC ((2, 70), (0, 4, 2)) := ⟨tn_m2, rfl, (fun _ => ⟨tn_m4, rfl, tn_in 342 (by decide +kernel) (by decide +kernel), tn_in 343 (by decide +kernel) (by decide +kernel), tn_in 344 (by decide +kernel) (by decide +kernel), by decide +kernel, by decide, by decide, tn_T0, _, rfl⟩), (fun h => absurd h (by decide)), (fun h => absurd h (by decide)), (fun h => absurd h (by decide)), (fun h => absurd h (by decide))⟩
theorem tn_c1 : tn_okC ((2, 77), (0, 3, 2)) := ⟨tn_m2, rfl, (fun _ => ⟨tn_m3, rfl, tn_in 330 (by decide +kernel) (by decide +kernel), tn_in 331 (by decide +kernel) (by decide +kernel), tn_in 332 (by decide +kernel) (by decide +kernel), by decide +kernel, by decide, by decide, tn_T0, _, rfl⟩), (fun h => absurd h (by decide)), (fun h => absurd h (by decide)), (fun h => absurd h (by decide)), (fun h => absurd h (by decide))⟩
theorem tn_c2 : tn_okC ((3, 41), (0, 21, 1)) := ⟨tn_m3, rfl, (fun _ => ⟨tn_m21, rfl, tn_in 334 (by decide +kernel) (by decide +kernel), tn_in 335 (by decide +kernel) (by decide +kernel), tn_in 336 (by decide +kernel) (by decide +kernel), by decide +kernel, by decide, by decide, tn_T1, _, rfl⟩), (fun h => absurd h (by decide)), (fun h => absurd h (by decide)), (fun h => absurd h (by decide)), (fun h => absurd h (by decide))⟩
theorem tn_c3 : tn_okC ((3, 44), (0, 22, 2)) := ⟨tn_m3, rfl, (fun _ => ⟨tn_m22, rfl, tn_in 338 (by decide +kernel) (by decide +kernel), tn_in 339 (by decide +kernel) (by decide +kernel), tn_in 340 (by decide +kernel) (by decide +kernel), by decide +kernel, by decide, by decide, tn_T1, _, rfl⟩), (fun h => absurd h (by decide)), (fun h => absurd h (by decide)), (fun h => absurd h (by decide)), (fun h => absurd h (by decide))⟩
theorem tn_c4 : tn_okC ((4, 51), (4, 0, 0)) := ⟨tn_m4, rfl, (fun h => absurd h (by decide)), (fun h => absurd h (by decide)), (fun h => absurd h (by decide)), (fun _ => ⟨tn_in 346 (by decide +kernel) (by decide +kernel), tn_in 347 (by decide +kernel) (by decide +kernel), tn_in 34 (by decide +kernel) (by decide +kernel), tn_in 348 (by decide +kernel) (by decide +kernel), by decide, by decide⟩), (fun h => absurd h (by decide))⟩
theorem tn_c5 : tn_okC ((4, 56), (3, 0, 0)) := ⟨tn_m4, rfl, (fun h => absurd h (by decide)), (fun h => absurd h (by decide)), (fun _ => ⟨tn_in 349 (by decide +kernel) (by decide +kernel), tn_in 350 (by decide +kernel) (by decide +kernel), tn_in 34 (by decide +kernel) (by decide +kernel), tn_in 351 (by decide +kernel) (by decide +kernel), by decide, by decide⟩), (fun h => absurd h (by decide)), (fun h => absurd h (by decide))⟩
theorem tn_c6 : tn_okC ((4, 59), (0, 5, 2)) := ⟨tn_m4, rfl, (fun _ => ⟨tn_m5, rfl, tn_in 352 (by decide +kernel) (by decide +kernel), tn_in 354 (by decide +kernel) (by decide +kernel), tn_in 2 (by decide +kernel) (by decide +kernel), by decide +kernel, by decide, by decide, tn_T0, _, rfl⟩), (fun h => absurd h (by decide)), (fun h => absurd h (by decide)), (fun h => absurd h (by decide)), (fun h => absurd h (by decide))⟩
theorem tn_c7 : tn_okC ((4, 63), (0, 6, 2)) := ⟨tn_m4, rfl, (fun _ => ⟨tn_m6, rfl, tn_in 356 (by decide +kernel) (by decide +kernel), tn_in 358 (by decide +kernel) (by decide +kernel), tn_in 3 (by decide +kernel) (by decide +kernel), by decide +kernel, by decide, by decide, tn_T0, _, rfl⟩), (fun h => absurd h (by decide)), (fun h => absurd h (by decide)), (fun h => absurd h (by decide)), (fun h => absurd h (by decide))⟩
theorem tn_c8 : tn_okC ((7, 66), (0, 8, 1)) := ⟨tn_m7, rfl, (fun _ => ⟨tn_m8, rfl, tn_in 378 (by decide +kernel) (by decide +kernel), tn_in 380 (by decide +kernel) (by decide +kernel), tn_in 5 (by decide +kernel) (by decide +kernel), by decide +kernel, by decide, by decide, tn_T0, _, rfl⟩), (fun h => absurd h (by decide)), (fun h => absurd h (by decide)), (fun h => absurd h (by decide)), (fun h => absurd h (by decide))⟩
theorem tn_c9 : tn_okC ((8, 37), (0, 9, 1)) := ⟨tn_m8, rfl, (fun _ => ⟨tn_m9, rfl, tn_in 382 (by decide +kernel) (by decide +kernel), tn_in 383 (by decide +kernel) (by decide +kernel), tn_in 384 (by decide +kernel) (by decide +kernel), by decide +kernel, by decide, by decide, tn_T0, _, rfl⟩), (fun h => absurd h (by decide)), (fun h => absurd h (by decide)), (fun h => absurd h (by decide)), (fun h => absurd h (by decide))⟩
theorem tn_c10 : tn_okC ((8, 41), (0, 21, 1)) := ⟨tn_m8, rfl, (fun _ => ⟨tn_m21, rfl, tn_in 334 (by decide +kernel) (by decide +kernel), tn_in 335 (by decide +kernel) (by decide +kernel), tn_in 336 (by decide +kernel) (by decide +kernel), by decide +kernel, by decide, by decide, tn_T1, _, rfl⟩), (fun h => absurd h (by decide)), (fun h => absurd h (by decide)), (fun h => absurd h (by decide)), (fun h => absurd h (by decide))⟩
theorem tn_c11 : tn_okC ((8, 44), (0, 22, 2)) := ⟨tn_m8, rfl, (fun _ => ⟨tn_m22, rfl, tn_in 338 (by decide +kernel) (by decide +kernel), tn_in 339 (by decide +kernel) (by decide +kernel), tn_in 340 (by decide +kernel) (by decide +kernel), by decide +kernel, by decide, by decide, tn_T1, _, rfl⟩), (fun h => absurd h (by decide)), (fun h => absurd h (by decide)), (fun h => absurd h (by decide)), (fun h => absurd h (by decide))⟩
theorem tn_c12 : tn_okC ((8, 70), (0, 4, 2)) := ⟨tn_m8, rfl, (fun _ => ⟨tn_m4, rfl, tn_in 342 (by decide +kernel) (by decide +kernel), tn_in 343 (by decide +kernel) (by decide +kernel), tn_in 344 (by decide +kernel) (by decide +kernel), by decide +kernel, by decide, by decide, tn_T0, _, rfl⟩), (fun h => absurd h (by decide)), (fun h => absurd h (by decide)), (fun h => absurd h (by decide)), (fun h => absurd h (by decide))⟩
theorem tn_c13 : tn_okC ((11, 37), (0, 9, 1)) := ⟨tn_m11, rfl, (fun _ => ⟨tn_m9, rfl, tn_in 382 (by decide +kernel) (by decide +kernel), tn_in 383 (by decide +kernel) (by decide +kernel), tn_in 384 (by decide +kernel) (by decide +kernel), by decide +kernel, by decide, by decide, tn_T0, _, rfl⟩), (fun h => absurd h (by decide)), (fun h => absurd h (by decide)), (fun h => absurd h (by decide)), (fun h => absurd h (by decide))⟩
theorem tn_c14 : tn_okC ((11, 41), (0, 21, 1)) := ⟨tn_m11, rfl, (fun _ => ⟨tn_m21, rfl, tn_in 334 (by decide +kernel) (by decide +kernel), tn_in 335 (by decide +kernel) (by decide +kernel), tn_in 336 (by decide +kernel) (by decide +kernel), by decide +kernel, by decide, by decide, tn_T1, _, rfl⟩), (fun h => absurd h (by decide)), (fun h => absurd h (by decide)), (fun h => absurd h (by decide)), (fun h => absurd h (by decide))⟩
theorem tn_c15 : tn_okC ((12, 37), (0, 9, 1)) := ⟨tn_m12, rfl, (fun _ => ⟨tn_m9, rfl, tn_in 382 (by decide +kernel) (by decide +kernel), tn_in 383 (by decide +kernel) (by decide +kernel), tn_in 384 (by decide +kernel) (by decide +kernel), by decide +kernel, by decide, by decide, tn_T0, _, rfl⟩), (fun h => absurd h (by decide)), (fun h => absurd h (by decide)), (fun h => absurd h (by decide)), (fun h => absurd h (by decide))⟩
theorem tn_c16 : tn_okC ((12, 44), (0, 22, 2)) := ⟨tn_m12, rfl, (fun _ => ⟨tn_m22, rfl, tn_in 338 (by decide +kernel) (by decide +kernel), tn_in 339 (by decide +kernel) (by decide +kernel), tn_in 340 (by decide +kernel) (by decide +kernel), by decide +kernel, by decide, by decide, tn_T1, _, rfl⟩), (fun h => absurd h (by decide)), (fun h => absurd h (by decide)), (fun h => absurd h (by decide)), (fun h => absurd h (by decide))⟩
theorem tn_c17 : tn_okC ((13, 73), (0, 14, 1)) := ⟨tn_m13, rfl, (fun _ => ⟨tn_m14, rfl, tn_in 425 (by decide +kernel) (by decide +kernel), tn_in 427 (by decide +kernel) (by decide +kernel), tn_in 10 (by decide +kernel) (by decide +kernel), by decide +kernel, by decide, by decide, tn_T0, _, rfl⟩), (fun h => absurd h (by decide)), (fun h => absurd h (by decide)), (fun h => absurd h (by decide)), (fun h => absurd h (by decide))⟩
theorem tn_c18 : tn_okC ((14, 59), (0, 5, 2)) := ⟨tn_m14, rfl, (fun _ => ⟨tn_m5, rfl, tn_in 352 (by decide +kernel) (by decide +kernel), tn_in 354 (by decide +kernel) (by decide +kernel), tn_in 2 (by decide +kernel) (by decide +kernel), by decide +kernel, by decide, by decide, tn_T0, _, rfl⟩), (fun h => absurd h (by decide)), (fun h => absurd h (by decide)), (fun h => absurd h (by decide)), (fun h => absurd h (by decide))⟩
theorem tn_c19 : tn_okC ((14, 63), (0, 6, 2)) := ⟨tn_m14, rfl, (fun _ => ⟨tn_m6, rfl, tn_in 356 (by decide +kernel) (by decide +kernel), tn_in 358 (by decide +kernel) (by decide +kernel), tn_in 3 (by decide +kernel) (by decide +kernel), by decide +kernel, by decide, by decide, tn_T0, _, rfl⟩), (fun h => absurd h (by decide)), (fun h => absurd h (by decide)), (fun h => absurd h (by decide)), (fun h => absurd h (by decide))⟩
theorem tn_c20 : tn_okC ((15, 37), (0, 9, 1)) := ⟨tn_m15, rfl, (fun _ => ⟨tn_m9, rfl, tn_in 382 (by decide +kernel) (by decide +kernel), tn_in 383 (by decide +kernel) (by decide +kernel), tn_in 384 (by decide +kernel) (by decide +kernel), by decide +kernel, by decide, by decide, tn_T0, _, rfl⟩), (fun h => absurd h (by decide)), (fun h => absurd h (by decide)), (fun h => absurd h (by decide)), (fun h => absurd h (by decide))⟩
theorem tn_c21 : tn_okC ((18, 28), (0, 19, 1)) := ⟨tn_m18, rfl, (fun _ => ⟨tn_m19, rfl, tn_in 317 (by decide +kernel) (by decide +kernel), tn_in 318 (by decide +kernel) (by decide +kernel), tn_in 319 (by decide +kernel) (by decide +kernel), by decide +kernel, by decide, by decide, tn_T1, _, rfl⟩), (fun h => absurd h (by decide)), (fun h => absurd h (by decide)), (fun h => absurd h (by decide)), (fun h => absurd h (by decide))⟩
theorem tn_c22 : tn_okC ((23, 25), (2, 78, 2)) := ⟨tn_m23, rfl, (fun h => absurd h (by decide)), (fun _ => ⟨tn_m78, rfl, tn_in 433 (by decide +kernel) (by decide +kernel), tn_in 395 (by decide +kernel) (by decide +kernel), by decide +kernel, by decide, by decide⟩), (fun h => absurd h (by decide)), (fun h => absurd h (by decide)), (fun h => absurd h (by decide))⟩
theorem tn_c23 : tn_okC ((23, 40), (0, 24, 1)) := ⟨tn_m23, rfl, (fun _ => ⟨tn_m24, rfl, tn_in 434 (by decide +kernel) (by decide +kernel), tn_in 436 (by decide +kernel) (by decide +kernel), tn_in 11 (by decide +kernel) (by decide +kernel), by decide +kernel, by decide, by decide, tn_T2, _, rfl⟩), (fun h => absurd h (by decide)), (fun h => absurd h (by decide)), (fun h => absurd h (by decide)), (fun h => absurd h (by decide))⟩
theorem tn_c24 : tn_okC ((23, 44), (0, 15, 1)) := ⟨tn_m23, rfl, (fun _ => ⟨tn_m15, rfl, tn_in 438 (by decide +kernel) (by decide +kernel), tn_in 439 (by decide +kernel) (by decide +kernel), tn_in 440 (by decide +kernel) (by decide +kernel), by decide +kernel, by decide, by decide, tn_T0, _, rfl⟩), (fun h => absurd h (by decide)), (fun h => absurd h (by decide)), (fun h => absurd h (by decide)), (fun h => absurd h (by decide))⟩
theorem tn_c25 : tn_okC ((23, 50), (0, 9, 1)) := ⟨tn_m23, rfl, (fun _ => ⟨tn_m9, rfl, tn_in 442 (by decide +kernel) (by decide +kernel), tn_in 383 (by decide +kernel) (by decide +kernel), tn_in 384 (by decide +kernel) (by decide +kernel), by decide +kernel, by decide, by decide, tn_T0, _, rfl⟩), (fun h => absurd h (by decide)), (fun h => absurd h (by decide)), (fun h => absurd h (by decide)), (fun h => absurd h (by decide))⟩
theorem tn_c26 : tn_okC ((23, 53), (2, 77, 2)) := ⟨tn_m23, rfl, (fun h => absurd h (by decide)), (fun _ => ⟨tn_m77, rfl, tn_in 446 (by decide +kernel) (by decide +kernel), tn_in 447 (by decide +kernel) (by decide +kernel), by decide +kernel, by decide, by decide⟩), (fun h => absurd h (by decide)), (fun h => absurd h (by decide)), (fun h => absurd h (by decide))⟩
theorem tn_c27 : tn_okC ((23, 59), (0, 25, 2)) := ⟨tn_m23, rfl, (fun _ => ⟨tn_m25, rfl, tn_in 449 (by decide +kernel) (by decide +kernel), tn_in 451 (by decide +kernel) (by decide +kernel), tn_in 12 (by decide +kernel) (by decide +kernel), by decide +kernel, by decide, by decide, tn_T2, _, rfl⟩), (fun h => absurd h (by decide)), (fun h => absurd h (by decide)), (fun h => absurd h (by decide)), (fun h => absurd h (by decide))⟩
theorem tn_c28 : tn_okC ((24, 44), (0, 15, 1)) := ⟨tn_m24, rfl, (fun _ => ⟨tn_m15, rfl, tn_in 438 (by decide +kernel) (by decide +kernel), tn_in 439 (by decide +kernel) (by decide +kernel), tn_in 440 (by decide +kernel) (by decide +kernel), by decide +kernel, by decide, by decide, tn_T0, _, rfl⟩), (fun h => absurd h (by decide)), (fun h => absurd h (by decide)), (fun h => absurd h (by decide)), (fun h => absurd h (by decide))⟩
theorem tn_c29 : tn_okC ((24, 50), (0, 9, 1)) := ⟨tn_m24, rfl, (fun _ => ⟨tn_m9, rfl, tn_in 442 (by decide +kernel) (by decide +kernel), tn_in 383 (by decide +kernel) (by decide +kernel), tn_in 384 (by decide +kernel) (by decide +kernel), by decide +kernel, by decide, by decide, tn_T0, _, rfl⟩), (fun h => absurd h (by decide)), (fun h => absurd h (by decide)), (fun h => absurd h (by decide)), (fun h => absurd h (by decide))⟩
theorem tn_c30 : tn_okC ((24, 72), (0, 11, 1)) := ⟨tn_m24, rfl, (fun _ => ⟨tn_m11, rfl, tn_in 443 (by decide +kernel) (by decide +kernel), tn_in 414 (by decide +kernel) (by decide +kernel), tn_in 415 (by decide +kernel) (by decide +kernel), by decide +kernel, by decide, by decide, tn_T0, _, rfl⟩), (fun h => absurd h (by decide)), (fun h => absurd h (by decide)), (fun h => absurd h (by decide)), (fun h => absurd h (by decide))⟩
theorem tn_c31 : tn_okC ((24, 76), (0, 12, 2)) := ⟨tn_m24, rfl, (fun _ => ⟨tn_m12, rfl, tn_in 445 (by decide +kernel) (by decide +kernel), tn_in 418 (by decide +kernel) (by decide +kernel), tn_in 419 (by decide +kernel) (by decide +kernel), by decide +kernel, by decide, by decide, tn_T0, _, rfl⟩), (fun h => absurd h (by decide)), (fun h => absurd h (by decide)), (fun h => absurd h (by decide)), (fun h => absurd h (by decide))⟩
theorem tn_c32 : tn_okC ((25, 79), (0, 3, 2)) := ⟨tn_m25, rfl, (fun _ => ⟨tn_m3, rfl, tn_in 453 (by decide +kernel) (by decide +kernel), tn_in 331 (by decide +kernel) (by decide +kernel), tn_in 332 (by decide +kernel) (by decide +kernel), by decide +kernel, by decide, by decide, tn_T0, _, rfl⟩), (fun h => absurd h (by decide)), (fun h => absurd h (by decide)), (fun h => absurd h (by decide)), (fun h => absurd h (by decide))⟩
theorem tn_c33 : tn_okC ((25, 83), (0, 4, 2)) := ⟨tn_m25, rfl, (fun _ => ⟨tn_m4, rfl, tn_in 454 (by decide +kernel) (by decide +kernel), tn_in 343 (by decide +kernel) (by decide +kernel), tn_in 344 (by decide +kernel) (by decide +kernel), by decide +kernel, by decide, by decide, tn_T0, _, rfl⟩), (fun h => absurd h (by decide)), (fun h => absurd h (by decide)), (fun h => absurd h (by decide)), (fun h => absurd h (by decide))⟩
theorem tn_c34 : tn_okC ((26, 38), (0, 27, 0)) := ⟨tn_m26, rfl, (fun _ => ⟨tn_m27, rfl, tn_in 390 (by decide +kernel) (by decide +kernel), tn_in 392 (by decide +kernel) (by decide +kernel), tn_in 6 (by decide +kernel) (by decide +kernel), by decide +kernel, by decide, by decide, tn_T3, _, rfl⟩), (fun h => absurd h (by decide)), (fun h => absurd h (by decide)), (fun h => absurd h (by decide)), (fun h => absurd h (by decide))⟩
theorem tn_c35 : tn_okC ((26, 41), (0, 10, 1)) := ⟨tn_m26, rfl, (fun _ => ⟨tn_m10, rfl, tn_in 397 (by decide +kernel) (by decide +kernel), tn_in 398 (by decide +kernel) (by decide +kernel), tn_in 399 (by decide +kernel) (by decide +kernel), by decide +kernel, by decide, by decide, tn_T0, _, rfl⟩), (fun h => absurd h (by decide)), (fun h => absurd h (by decide)), (fun h => absurd h (by decide)), (fun h => absurd h (by decide))⟩
theorem tn_c36 : tn_okC ((26, 47), (0, 28, 1)) := ⟨tn_m26, rfl, (fun _ => ⟨tn_m28, rfl, tn_in 401 (by decide +kernel) (by decide +kernel), tn_in 403 (by decide +kernel) (by decide +kernel), tn_in 7 (by decide +kernel) (by decide +kernel), by decide +kernel, by decide, by decide, tn_T3, _, rfl⟩), (fun h => absurd h (by decide)), (fun h => absurd h (by decide)), (fun h => absurd h (by decide)), (fun h => absurd h (by decide))⟩
theorem tn_c37 : tn_okC ((27, 82), (2, 78, 2)) := ⟨tn_m27, rfl, (fun h => absurd h (by decide)), (fun _ => ⟨tn_m78, rfl, tn_in 394 (by decide +kernel) (by decide +kernel), tn_in 395 (by decide +kernel) (by decide +kernel), by decide +kernel, by decide, by decide⟩), (fun h => absurd h (by decide)), (fun h => absurd h (by decide)), (fun h => absurd h (by decide))⟩
theorem tn_c38 : tn_okC ((28, 88), (0, 29, 1)) := ⟨tn_m28, rfl, (fun _ => ⟨tn_m29, rfl, tn_in 405 (by decide +kernel) (by decide +kernel), tn_in 407 (by decide +kernel) (by decide +kernel), tn_in 8 (by decide +kernel) (by decide +kernel), by decide +kernel, by decide, by decide, tn_T3, _, rfl⟩), (fun h => absurd h (by decide)), (fun h => absurd h (by decide)), (fun h => absurd h (by decide)), (fun h => absurd h (by decide))⟩
theorem tn_c39 : tn_okC ((28, 91), (0, 30, 1)) := ⟨tn_m28, rfl, (fun _ => ⟨tn_m30, rfl, tn_in 409 (by decide +kernel) (by decide +kernel), tn_in 411 (by decide +kernel) (by decide +kernel), tn_in 9 (by decide +kernel) (by decide +kernel), by decide +kernel, by decide, by decide, tn_T3, _, rfl⟩), (fun h => absurd h (by decide)), (fun h => absurd h (by decide)), (fun h => absurd h (by decide)), (fun h => absurd h (by decide))⟩
theorem tn_c40 : tn_okC ((30, 58), (0, 11, 1)) := ⟨tn_m30, rfl, (fun _ => ⟨tn_m11, rfl, tn_in 413 (by decide +kernel) (by decide +kernel), tn_in 414 (by decide +kernel) (by decide +kernel), tn_in 415 (by decide +kernel) (by decide +kernel), by decide +kernel, by decide, by decide, tn_T0, _, rfl⟩), (fun h => absurd h (by decide)), (fun h => absurd h (by decide)), (fun h => absurd h (by decide)), (fun h => absurd h (by decide))⟩
theorem tn_c41 : tn_okC ((30, 61), (0, 12, 2)) := ⟨tn_m30, rfl, (fun _ => ⟨tn_m12, rfl, tn_in 417 (by decide +kernel) (by decide +kernel), tn_in 418 (by decide +kernel) (by decide +kernel), tn_in 419 (by decide +kernel) (by decide +kernel), by decide +kernel, by decide, by decide, tn_T0, _, rfl⟩), (fun h => absurd h (by decide)), (fun h => absurd h (by decide)), (fun h => absurd h (by decide)), (fun h => absurd h (by decide))⟩
theorem tn_c42 : tn_okC ((30, 88), (0, 29, 1)) := ⟨tn_m30, rfl, (fun _ => ⟨tn_m29, rfl, tn_in 405 (by decide +kernel) (by decide +kernel), tn_in 407 (by decide +kernel) (by decide +kernel), tn_in 8 (by decide +kernel) (by decide +kernel), by decide +kernel, by decide, by decide, tn_T3, _, rfl⟩), (fun h => absurd h (by decide)), (fun h => absurd h (by decide)), (fun h => absurd h (by decide)), (fun h => absurd h (by decide))⟩
theorem tn_c43 : tn_okC ((31, 41), (0, 10, 1)) := ⟨tn_m31, rfl, (fun _ => ⟨tn_m10, rfl, tn_in 397 (by decide +kernel) (by decide +kernel), tn_in 398 (by decide +kernel) (by decide +kernel), tn_in 399 (by decide +kernel) (by decide +kernel), by decide +kernel, by decide, by decide, tn_T0, _, rfl⟩), (fun h => absurd h (by decide)), (fun h => absurd h (by decide)), (fun h => absurd h (by decide)), (fun h => absurd h (by decide))⟩
theorem tn_c44 : tn_okC ((31, 51), (0, 32, 1)) := ⟨tn_m31, rfl, (fun _ => ⟨tn_m32, rfl, tn_in 516 (by decide +kernel) (by decide +kernel), tn_in 518 (by decide +kernel) (by decide +kernel), tn_in 13 (by decide +kernel) (by decide +kernel), by decide +kernel, by decide, by decide, tn_T3, _, rfl⟩), (fun h => absurd h (by decide)), (fun h => absurd h (by decide)), (fun h => absurd h (by decide)), (fun h => absurd h (by decide))⟩
theorem tn_c45 : tn_okC ((31, 55), (0, 33, 1)) := ⟨tn_m31, rfl, (fun _ => ⟨tn_m33, rfl, tn_in 520 (by decide +kernel) (by decide +kernel), tn_in 522 (by decide +kernel) (by decide +kernel), tn_in 14 (by decide +kernel) (by decide +kernel), by decide +kernel, by decide, by decide, tn_T3, _, rfl⟩), (fun h => absurd h (by decide)), (fun h => absurd h (by decide)), (fun h => absurd h (by decide)), (fun h => absurd h (by decide))⟩
theorem tn_c46 : tn_okC ((32, 38), (0, 27, 0)) := ⟨tn_m32, rfl, (fun _ => ⟨tn_m27, rfl, tn_in 390 (by decide +kernel) (by decide +kernel), tn_in 392 (by decide +kernel) (by decide +kernel), tn_in 6 (by decide +kernel) (by decide +kernel), by decide +kernel, by decide, by decide, tn_T3, _, rfl⟩), (fun h => absurd h (by decide)), (fun h => absurd h (by decide)), (fun h => absurd h (by decide)), (fun h => absurd h (by decide))⟩
theorem tn_c47 : tn_okC ((32, 41), (0, 10, 1)) := ⟨tn_m32, rfl, (fun _ => ⟨tn_m10, rfl, tn_in 397 (by decide +kernel) (by decide +kernel), tn_in 398 (by decide +kernel) (by decide +kernel), tn_in 399 (by decide +kernel) (by decide +kernel), by decide +kernel, by decide, by decide, tn_T0, _, rfl⟩), (fun h => absurd h (by decide)), (fun h => absurd h (by decide)), (fun h => absurd h (by decide)), (fun h => absurd h (by decide))⟩
theorem tn_c48 : tn_okC ((32, 47), (0, 28, 1)) := ⟨tn_m32, rfl, (fun _ => ⟨tn_m28, rfl, tn_in 401 (by decide +kernel) (by decide +kernel), tn_in 403 (by decide +kernel) (by decide +kernel), tn_in 7 (by decide +kernel) (by decide +kernel), by decide +kernel, by decide, by decide, tn_T3, _, rfl⟩), (fun h => absurd h (by decide)), (fun h => absurd h (by decide)), (fun h => absurd h (by decide)), (fun h => absurd h (by decide))⟩
theorem tn_c49 : tn_okC ((33, 58), (0, 11, 1)) := ⟨tn_m33, rfl, (fun _ => ⟨tn_m11, rfl, tn_in 413 (by decide +kernel) (by decide +kernel), tn_in 414 (by decide +kernel) (by decide +kernel), tn_in 415 (by decide +kernel) (by decide +kernel), by decide +kernel, by decide, by decide, tn_T0, _, rfl⟩), (fun h => absurd h (by decide)), (fun h => absurd h (by decide)), (fun h => absurd h (by decide)), (fun h => absurd h (by decide))⟩
theorem tn_c50 : tn_okC ((33, 61), (0, 12, 2)) := ⟨tn_m33, rfl, (fun _ => ⟨tn_m12, rfl, tn_in 417 (by decide +kernel) (by decide +kernel), tn_in 418 (by decide +kernel) (by decide +kernel), tn_in 419 (by decide +kernel) (by decide +kernel), by decide +kernel, by decide, by decide, tn_T0, _, rfl⟩), (fun h => absurd h (by decide)), (fun h => absurd h (by decide)), (fun h => absurd h (by decide)), (fun h => absurd h (by decide))⟩
theorem tn_c51 : tn_okC ((33, 67), (5, 0, 0)) := ⟨tn_m33, rfl, (fun h => absurd h (by decide)), (fun h => absurd h (by decide)), (fun h => absurd h (by decide)), (fun h => absurd h (by decide)), (fun _ => ⟨tn_in 525 (by decide +kernel) (by decide +kernel), tn_in 526 (by decide +kernel) (by decide +kernel), tn_in 34 (by decide +kernel) (by decide +kernel), tn_in 527 (by decide +kernel) (by decide +kernel), by decide, by decide⟩)⟩
theorem tn_c52 : tn_okC ((34, 41), (0, 10, 1)) := ⟨tn_m34, rfl, (fun _ => ⟨tn_m10, rfl, tn_in 397 (by decide +kernel) (by decide +kernel), tn_in 398 (by decide +kernel) (by decide +kernel), tn_in 399 (by decide +kernel) (by decide +kernel), by decide +kernel, by decide, by decide, tn_T0, _, rfl⟩), (fun h => absurd h (by decide)), (fun h => absurd h (by decide)), (fun h => absurd h (by decide)), (fun h => absurd h (by decide))⟩
theorem tn_c53 : tn_okC ((34, 51), (0, 32, 1)) := ⟨tn_m34, rfl, (fun _ => ⟨tn_m32, rfl, tn_in 516 (by decide +kernel) (by decide +kernel), tn_in 518 (by decide +kernel) (by decide +kernel), tn_in 13 (by decide +kernel) (by decide +kernel), by decide +kernel, by decide, by decide, tn_T3, _, rfl⟩), (fun h => absurd h (by decide)), (fun h => absurd h (by decide)), (fun h => absurd h (by decide)), (fun h => absurd h (by decide))⟩
theorem tn_c54 : tn_okC ((34, 73), (0, 35, 1)) := ⟨tn_m34, rfl, (fun _ => ⟨tn_m35, rfl, tn_in 539 (by decide +kernel) (by decide +kernel), tn_in 541 (by decide +kernel) (by decide +kernel), tn_in 15 (by decide +kernel) (by decide +kernel), by decide +kernel, by decide, by decide, tn_T3, _, rfl⟩), (fun h => absurd h (by decide)), (fun h => absurd h (by decide)), (fun h => absurd h (by decide)), (fun h => absurd h (by decide))⟩
theorem tn_c55 : tn_okC ((35, 58), (0, 11, 1)) := ⟨tn_m35, rfl, (fun _ => ⟨tn_m11, rfl, tn_in 413 (by decide +kernel) (by decide +kernel), tn_in 414 (by decide +kernel) (by decide +kernel), tn_in 415 (by decide +kernel) (by decide +kernel), by decide +kernel, by decide, by decide, tn_T0, _, rfl⟩), (fun h => absurd h (by decide)), (fun h => absurd h (by decide)), (fun h => absurd h (by decide)), (fun h => absurd h (by decide))⟩
theorem tn_c56 : tn_okC ((35, 61), (0, 12, 2)) := ⟨tn_m35, rfl, (fun _ => ⟨tn_m12, rfl, tn_in 417 (by decide +kernel) (by decide +kernel), tn_in 418 (by decide +kernel) (by decide +kernel), tn_in 419 (by decide +kernel) (by decide +kernel), by decide +kernel, by decide, by decide, tn_T0, _, rfl⟩), (fun h => absurd h (by decide)), (fun h => absurd h (by decide)), (fun h => absurd h (by decide)), (fun h => absurd h (by decide))⟩
theorem tn_c57 : tn_okC ((35, 76), (3, 0, 0)) := ⟨tn_m35, rfl, (fun h => absurd h (by decide)), (fun h => absurd h (by decide)), (fun _ => ⟨tn_in 543 (by decide +kernel) (by decide +kernel), tn_in 350 (by decide +kernel) (by decide +kernel), tn_in 34 (by decide +kernel) (by decide +kernel), tn_in 351 (by decide +kernel) (by decide +kernel), by decide, by decide⟩), (fun h => absurd h (by decide)), (fun h => absurd h (by decide))⟩
theorem tn_c58 : tn_okC ((36, 41), (0, 10, 1)) := ⟨tn_m36, rfl, (fun _ => ⟨tn_m10, rfl, tn_in 397 (by decide +kernel) (by decide +kernel), tn_in 398 (by decide +kernel) (by decide +kernel), tn_in 399 (by decide +kernel) (by decide +kernel), by decide +kernel, by decide, by decide, tn_T0, _, rfl⟩), (fun h => absurd h (by decide)), (fun h => absurd h (by decide)), (fun h => absurd h (by decide)), (fun h => absurd h (by decide))⟩
theorem tn_c59 : tn_okC ((36, 51), (0, 32, 1)) := ⟨tn_m36, rfl, (fun _ => ⟨tn_m32, rfl, tn_in 516 (by decide +kernel) (by decide +kernel), tn_in 518 (by decide +kernel) (by decide +kernel), tn_in 13 (by decide +kernel) (by decide +kernel), by decide +kernel, by decide, by decide, tn_T3, _, rfl⟩), (fun h => absurd h (by decide)), (fun h => absurd h (by decide)), (fun h => absurd h (by decide)), (fun h => absurd h (by decide))⟩
theorem tn_c60 : tn_okC ((37, 51), (0, 32, 1)) := ⟨tn_m37, rfl, (fun _ => ⟨tn_m32, rfl, tn_in 516 (by decide +kernel) (by decide +kernel), tn_in 518 (by decide +kernel) (by decide +kernel), tn_in 13 (by decide +kernel) (by decide +kernel), by decide +kernel, by decide, by decide, tn_T3, _, rfl⟩), (fun h => absurd h (by decide)), (fun h => absurd h (by decide)), (fun h => absurd h (by decide)), (fun h => absurd h (by decide))⟩
theorem tn_c61 : tn_okC ((37, 79), (0, 15, 1)) := ⟨tn_m37, rfl, (fun _ => ⟨tn_m15, rfl, tn_in 566 (by decide +kernel) (by decide +kernel), tn_in 439 (by decide +kernel) (by decide +kernel), tn_in 440 (by decide +kernel) (by decide +kernel), by decide +kernel, by decide, by decide, tn_T0, _, rfl⟩), (fun h => absurd h (by decide)), (fun h => absurd h (by decide)), (fun h => absurd h (by decide)), (fun h => absurd h (by decide))⟩
theorem tn_c62 : tn_okC ((38, 169), (0, 0, 0)) := ⟨tn_m38, rfl, (fun _ => ⟨tn_m0, rfl, tn_in 185 (by decide +kernel) (by decide +kernel), tn_in 186 (by decide +kernel) (by decide +kernel), tn_in 187 (by decide +kernel) (by decide +kernel), by decide +kernel, by decide, by decide, tn_T0, _, rfl⟩), (fun h => absurd h (by decide)), (fun h => absurd h (by decide)), (fun h => absurd h (by decide)), (fun h => absurd h (by decide))⟩
theorem tn_c63 : tn_okC ((39, 73), (0, 16, 1)) := ⟨tn_m39, rfl, (fun _ => ⟨tn_m16, rfl, tn_in 282 (by decide +kernel) (by decide +kernel), tn_in 283 (by decide +kernel) (by decide +kernel), tn_in 284 (by decide +kernel) (by decide +kernel), by decide +kernel, by decide, by decide, tn_T1, _, rfl⟩), (fun h => absurd h (by decide)), (fun h => absurd h (by decide)), (fun h => absurd h (by decide)), (fun h => absurd h (by decide))⟩
theorem tn_c64 : tn_okC ((40, 77), (0, 41, 0)) := ⟨tn_m40, rfl, (fun _ => ⟨tn_m41, rfl, tn_in 293 (by decide +kernel) (by decide +kernel), tn_in 295 (by decide +kernel) (by decide +kernel), tn_in 1 (by decide +kernel) (by decide +kernel), by decide +kernel, by decide, by decide, tn_T4, _, rfl⟩), (fun h => absurd h (by decide)), (fun h => absurd h (by decide)), (fun h => absurd h (by decide)), (fun h => absurd h (by decide))⟩
theorem tn_c65 : tn_okC ((40, 80), (0, 17, 0)) := ⟨tn_m40, rfl, (fun _ => ⟨tn_m17, rfl, tn_in 298 (by decide +kernel) (by decide +kernel), tn_in 299 (by decide +kernel) (by decide +kernel), tn_in 300 (by decide +kernel) (by decide +kernel), by decide +kernel, by decide, by decide, tn_T1, _, rfl⟩), (fun h => absurd h (by decide)), (fun h => absurd h (by decide)), (fun h => absurd h (by decide)), (fun h => absurd h (by decide))⟩
theorem tn_c66 : tn_okC ((40, 84), (0, 1, 1)) := ⟨tn_m40, rfl, (fun _ => ⟨tn_m1, rfl, tn_in 302 (by decide +kernel) (by decide +kernel), tn_in 303 (by decide +kernel) (by decide +kernel), tn_in 304 (by decide +kernel) (by decide +kernel), by decide +kernel, by decide, by decide, tn_T0, _, rfl⟩), (fun h => absurd h (by decide)), (fun h => absurd h (by decide)), (fun h => absurd h (by decide)), (fun h => absurd h (by decide))⟩
theorem tn_c67 : tn_okC ((42, 77), (0, 41, 0)) := ⟨tn_m42, rfl, (fun _ => ⟨tn_m41, rfl, tn_in 293 (by decide +kernel) (by decide +kernel), tn_in 295 (by decide +kernel) (by decide +kernel), tn_in 1 (by decide +kernel) (by decide +kernel), by decide +kernel, by decide, by decide, tn_T4, _, rfl⟩), (fun h => absurd h (by decide)), (fun h => absurd h (by decide)), (fun h => absurd h (by decide)), (fun h => absurd h (by decide))⟩
theorem tn_c68 : tn_okC ((42, 84), (0, 1, 1)) := ⟨tn_m42, rfl, (fun _ => ⟨tn_m1, rfl, tn_in 302 (by decide +kernel) (by decide +kernel), tn_in 303 (by decide +kernel) (by decide +kernel), tn_in 304 (by decide +kernel) (by decide +kernel), by decide +kernel, by decide, by decide, tn_T0, _, rfl⟩), (fun h => absurd h (by decide)), (fun h => absurd h (by decide)), (fun h => absurd h (by decide)), (fun h => absurd h (by decide))⟩
theorem tn_c69 : tn_okC ((42, 88), (0, 18, 4)) := ⟨tn_m42, rfl, (fun _ => ⟨tn_m18, rfl, tn_in 313 (by decide +kernel) (by decide +kernel), tn_in 314 (by decide +kernel) (by decide +kernel), tn_in 315 (by decide +kernel) (by decide +kernel), by decide +kernel, by decide, by decide, tn_T1, _, rfl⟩), (fun h => absurd h (by decide)), (fun h => absurd h (by decide)), (fun h => absurd h (by decide)), (fun h => absurd h (by decide))⟩
theorem tn_c70 : tn_okC ((42, 94), (0, 20, 4)) := ⟨tn_m42, rfl, (fun _ => ⟨tn_m20, rfl, tn_in 322 (by decide +kernel) (by decide +kernel), tn_in 323 (by decide +kernel) (by decide +kernel), tn_in 324 (by decide +kernel) (by decide +kernel), by decide +kernel, by decide, by decide, tn_T1, _, rfl⟩), (fun h => absurd h (by decide)), (fun h => absurd h (by decide)), (fun h => absurd h (by decide)), (fun h => absurd h (by decide))⟩
theorem tn_c71 : tn_okC ((42, 98), (0, 2, 1)) := ⟨tn_m42, rfl, (fun _ => ⟨tn_m2, rfl, tn_in 326 (by decide +kernel) (by decide +kernel), tn_in 327 (by decide +kernel) (by decide +kernel), tn_in 328 (by decide +kernel) (by decide +kernel), by decide +kernel, by decide, by decide, tn_T0, _, rfl⟩), (fun h => absurd h (by decide)), (fun h => absurd h (by decide)), (fun h => absurd h (by decide)), (fun h => absurd h (by decide))⟩
theorem tn_c72 : tn_okC ((43, 101), (0, 44, 1)) := ⟨tn_m43, rfl, (fun _ => ⟨tn_m44, rfl, tn_in 367 (by decide +kernel) (by decide +kernel), tn_in 369 (by decide +kernel) (by decide +kernel), tn_in 4 (by decide +kernel) (by decide +kernel), by decide +kernel, by decide, by decide, tn_T4, _, rfl⟩), (fun h => absurd h (by decide)), (fun h => absurd h (by decide)), (fun h => absurd h (by decide)), (fun h => absurd h (by decide))⟩
theorem tn_c73 : tn_okC ((43, 107), (0, 4, 2)) := ⟨tn_m43, rfl, (fun _ => ⟨tn_m4, rfl, tn_in 373 (by decide +kernel) (by decide +kernel), tn_in 343 (by decide +kernel) (by decide +kernel), tn_in 344 (by decide +kernel) (by decide +kernel), by decide +kernel, by decide, by decide, tn_T0, _, rfl⟩), (fun h => absurd h (by decide)), (fun h => absurd h (by decide)), (fun h => absurd h (by decide)), (fun h => absurd h (by decide))⟩
theorem tn_c74 : tn_okC ((43, 111), (0, 7, 1)) := ⟨tn_m43, rfl, (fun _ => ⟨tn_m7, rfl, tn_in 374 (by decide +kernel) (by decide +kernel), tn_in 375 (by decide +kernel) (by decide +kernel), tn_in 376 (by decide +kernel) (by decide +kernel), by decide +kernel, by decide, by decide, tn_T0, _, rfl⟩), (fun h => absurd h (by decide)), (fun h => absurd h (by decide)), (fun h => absurd h (by decide)), (fun h => absurd h (by decide))⟩
theorem tn_c75 : tn_okC ((43, 118), (0, 26, 1)) := ⟨tn_m43, rfl, (fun _ => ⟨tn_m26, rfl, tn_in 386 (by decide +kernel) (by decide +kernel), tn_in 387 (by decide +kernel) (by decide +kernel), tn_in 388 (by decide +kernel) (by decide +kernel), by decide +kernel, by decide, by decide, tn_T3, _, rfl⟩), (fun h => absurd h (by decide)), (fun h => absurd h (by decide)), (fun h => absurd h (by decide)), (fun h => absurd h (by decide))⟩
theorem tn_c76 : tn_okC ((43, 121), (0, 13, 1)) := ⟨tn_m43, rfl, (fun _ => ⟨tn_m13, rfl, tn_in 421 (by decide +kernel) (by decide +kernel), tn_in 422 (by decide +kernel) (by decide +kernel), tn_in 423 (by decide +kernel) (by decide +kernel), by decide +kernel, by decide, by decide, tn_T0, _, rfl⟩), (fun h => absurd h (by decide)), (fun h => absurd h (by decide)), (fun h => absurd h (by decide)), (fun h => absurd h (by decide))⟩
theorem tn_c77 : tn_okC ((43, 124), (0, 23, 1)) := ⟨tn_m43, rfl, (fun _ => ⟨tn_m23, rfl, tn_in 429 (by decide +kernel) (by decide +kernel), tn_in 430 (by decide +kernel) (by decide +kernel), tn_in 431 (by decide +kernel) (by decide +kernel), by decide +kernel, by decide, by decide, tn_T2, _, rfl⟩), (fun h => absurd h (by decide)), (fun h => absurd h (by decide)), (fun h => absurd h (by decide)), (fun h => absurd h (by decide))⟩
theorem tn_c78 : tn_okC ((44, 172), (0, 19, 1)) := ⟨tn_m44, rfl, (fun _ => ⟨tn_m19, rfl, tn_in 371 (by decide +kernel) (by decide +kernel), tn_in 318 (by decide +kernel) (by decide +kernel), tn_in 319 (by decide +kernel) (by decide +kernel), by decide +kernel, by decide, by decide, tn_T1, _, rfl⟩), (fun h => absurd h (by decide)), (fun h => absurd h (by decide)), (fun h => absurd h (by decide)), (fun h => absurd h (by decide))⟩
theorem tn_c79 : tn_okC ((45, 101), (0, 44, 1)) := ⟨tn_m45, rfl, (fun _ => ⟨tn_m44, rfl, tn_in 367 (by decide +kernel) (by decide +kernel), tn_in 369 (by decide +kernel) (by decide +kernel), tn_in 4 (by decide +kernel) (by decide +kernel), by decide +kernel, by decide, by decide, tn_T4, _, rfl⟩), (fun h => absurd h (by decide)), (fun h => absurd h (by decide)), (fun h => absurd h (by decide)), (fun h => absurd h (by decide))⟩
theorem tn_c80 : tn_okC ((45, 128), (0, 10, 1)) := ⟨tn_m45, rfl, (fun _ => ⟨tn_m10, rfl, tn_in 462 (by decide +kernel) (by decide +kernel), tn_in 398 (by decide +kernel) (by decide +kernel), tn_in 399 (by decide +kernel) (by decide +kernel), by decide +kernel, by decide, by decide, tn_T0, _, rfl⟩), (fun h => absurd h (by decide)), (fun h => absurd h (by decide)), (fun h => absurd h (by decide)), (fun h => absurd h (by decide))⟩
theorem tn_c81 : tn_okC ((46, 101), (0, 44, 1)) := ⟨tn_m46, rfl, (fun _ => ⟨tn_m44, rfl, tn_in 367 (by decide +kernel) (by decide +kernel), tn_in 369 (by decide +kernel) (by decide +kernel), tn_in 4 (by decide +kernel) (by decide +kernel), by decide +kernel, by decide, by decide, tn_T4, _, rfl⟩), (fun h => absurd h (by decide)), (fun h => absurd h (by decide)), (fun h => absurd h (by decide)), (fun h => absurd h (by decide))⟩
theorem tn_c82 : tn_okC ((46, 131), (0, 15, 1)) := ⟨tn_m46, rfl, (fun _ => ⟨tn_m15, rfl, tn_in 470 (by decide +kernel) (by decide +kernel), tn_in 439 (by decide +kernel) (by decide +kernel), tn_in 440 (by decide +kernel) (by decide +kernel), by decide +kernel, by decide, by decide, tn_T0, _, rfl⟩), (fun h => absurd h (by decide)), (fun h => absurd h (by decide)), (fun h => absurd h (by decide)), (fun h => absurd h (by decide))⟩
theorem tn_c83 : tn_okC ((46, 137), (0, 9, 1)) := ⟨tn_m46, rfl, (fun _ => ⟨tn_m9, rfl, tn_in 471 (by decide +kernel) (by decide +kernel), tn_in 383 (by decide +kernel) (by decide +kernel), tn_in 384 (by decide +kernel) (by decide +kernel), by decide +kernel, by decide, by decide, tn_T0, _, rfl⟩), (fun h => absurd h (by decide)), (fun h => absurd h (by decide)), (fun h => absurd h (by decide)), (fun h => absurd h (by decide))⟩
theorem tn_c84 : tn_okC ((47, 101), (0, 44, 1)) := ⟨tn_m47, rfl, (fun _ => ⟨tn_m44, rfl, tn_in 367 (by decide +kernel) (by decide +kernel), tn_in 369 (by decide +kernel) (by decide +kernel), tn_in 4 (by decide +kernel) (by decide +kernel), by decide +kernel, by decide, by decide, tn_T4, _, rfl⟩), (fun h => absurd h (by decide)), (fun h => absurd h (by decide)), (fun h => absurd h (by decide)), (fun h => absurd h (by decide))⟩
theorem tn_c85 : tn_okC ((47, 140), (0, 11, 1)) := ⟨tn_m47, rfl, (fun _ => ⟨tn_m11, rfl, tn_in 480 (by decide +kernel) (by decide +kernel), tn_in 414 (by decide +kernel) (by decide +kernel), tn_in 415 (by decide +kernel) (by decide +kernel), by decide +kernel, by decide, by decide, tn_T0, _, rfl⟩), (fun h => absurd h (by decide)), (fun h => absurd h (by decide)), (fun h => absurd h (by decide)), (fun h => absurd h (by decide))⟩
theorem tn_c86 : tn_okC ((47, 148), (0, 12, 2)) := ⟨tn_m47, rfl, (fun _ => ⟨tn_m12, rfl, tn_in 497 (by decide +kernel) (by decide +kernel), tn_in 418 (by decide +kernel) (by decide +kernel), tn_in 419 (by decide +kernel) (by decide +kernel), by decide +kernel, by decide, by decide, tn_T0, _, rfl⟩), (fun h => absurd h (by decide)), (fun h => absurd h (by decide)), (fun h => absurd h (by decide)), (fun h => absurd h (by decide))⟩
theorem tn_c87 : tn_okC ((48, 101), (0, 44, 1)) := ⟨tn_m48, rfl, (fun _ => ⟨tn_m44, rfl, tn_in 367 (by decide +kernel) (by decide +kernel), tn_in 369 (by decide +kernel) (by decide +kernel), tn_in 4 (by decide +kernel) (by decide +kernel), by decide +kernel, by decide, by decide, tn_T4, _, rfl⟩), (fun h => absurd h (by decide)), (fun h => absurd h (by decide)), (fun h => absurd h (by decide)), (fun h => absurd h (by decide))⟩
theorem tn_c88 : tn_okC ((48, 128), (0, 10, 1)) := ⟨tn_m48, rfl, (fun _ => ⟨tn_m10, rfl, tn_in 462 (by decide +kernel) (by decide +kernel), tn_in 398 (by decide +kernel) (by decide +kernel), tn_in 399 (by decide +kernel) (by decide +kernel), by decide +kernel, by decide, by decide, tn_T0, _, rfl⟩), (fun h => absurd h (by decide)), (fun h => absurd h (by decide)), (fun h => absurd h (by decide)), (fun h => absurd h (by decide))⟩
theorem tn_c89 : tn_okC ((49, 101), (0, 44, 1)) := ⟨tn_m49, rfl, (fun _ => ⟨tn_m44, rfl, tn_in 367 (by decide +kernel) (by decide +kernel), tn_in 369 (by decide +kernel) (by decide +kernel), tn_in 4 (by decide +kernel) (by decide +kernel), by decide +kernel, by decide, by decide, tn_T4, _, rfl⟩), (fun h => absurd h (by decide)), (fun h => absurd h (by decide)), (fun h => absurd h (by decide)), (fun h => absurd h (by decide))⟩
theorem tn_c90 : tn_okC ((49, 152), (0, 31, 1)) := ⟨tn_m49, rfl, (fun _ => ⟨tn_m31, rfl, tn_in 512 (by decide +kernel) (by decide +kernel), tn_in 513 (by decide +kernel) (by decide +kernel), tn_in 514 (by decide +kernel) (by decide +kernel), by decide +kernel, by decide, by decide, tn_T3, _, rfl⟩), (fun h => absurd h (by decide)), (fun h => absurd h (by decide)), (fun h => absurd h (by decide)), (fun h => absurd h (by decide))⟩
theorem tn_c91 : tn_okC ((50, 101), (0, 44, 1)) := ⟨tn_m50, rfl, (fun _ => ⟨tn_m44, rfl, tn_in 367 (by decide +kernel) (by decide +kernel), tn_in 369 (by decide +kernel) (by decide +kernel), tn_in 4 (by decide +kernel) (by decide +kernel), by decide +kernel, by decide, by decide, tn_T4, _, rfl⟩), (fun h => absurd h (by decide)), (fun h => absurd h (by decide)), (fun h => absurd h (by decide)), (fun h => absurd h (by decide))⟩
theorem tn_c92 : tn_okC ((50, 155), (0, 34, 1)) := ⟨tn_m50, rfl, (fun _ => ⟨tn_m34, rfl, tn_in 535 (by decide +kernel) (by decide +kernel), tn_in 536 (by decide +kernel) (by decide +kernel), tn_in 537 (by decide +kernel) (by decide +kernel), by decide +kernel, by decide, by decide, tn_T3, _, rfl⟩), (fun h => absurd h (by decide)), (fun h => absurd h (by decide)), (fun h => absurd h (by decide)), (fun h => absurd h (by decide))⟩
theorem tn_c93 : tn_okC ((51, 101), (0, 44, 1)) := ⟨tn_m51, rfl, (fun _ => ⟨tn_m44, rfl, tn_in 367 (by decide +kernel) (by decide +kernel), tn_in 369 (by decide +kernel) (by decide +kernel), tn_in 4 (by decide +kernel) (by decide +kernel), by decide +kernel, by decide, by decide, tn_T4, _, rfl⟩), (fun h => absurd h (by decide)), (fun h => absurd h (by decide)), (fun h => absurd h (by decide)), (fun h => absurd h (by decide))⟩
theorem tn_c94 : tn_okC ((51, 131), (0, 15, 1)) := ⟨tn_m51, rfl, (fun _ => ⟨tn_m15, rfl, tn_in 470 (by decide +kernel) (by decide +kernel), tn_in 439 (by decide +kernel) (by decide +kernel), tn_in 440 (by decide +kernel) (by decide +kernel), by decide +kernel, by decide, by decide, tn_T0, _, rfl⟩), (fun h => absurd h (by decide)), (fun h => absurd h (by decide)), (fun h => absurd h (by decide)), (fun h => absurd h (by decide))⟩
theorem tn_c95 : tn_okC ((51, 158), (0, 36, 2)) := ⟨tn_m51, rfl, (fun _ => ⟨tn_m36, rfl, tn_in 551 (by decide +kernel) (by decide +kernel), tn_in 552 (by decide +kernel) (by decide +kernel), tn_in 553 (by decide +kernel) (by decide +kernel), by decide +kernel, by decide, by decide, tn_T3, _, rfl⟩), (fun h => absurd h (by decide)), (fun h => absurd h (by decide)), (fun h => absurd h (by decide)), (fun h => absurd h (by decide))⟩
theorem tn_c96 : tn_okC ((52, 101), (0, 44, 1)) := ⟨tn_m52, rfl, (fun _ => ⟨tn_m44, rfl, tn_in 367 (by decide +kernel) (by decide +kernel), tn_in 369 (by decide +kernel) (by decide +kernel), tn_in 4 (by decide +kernel) (by decide +kernel), by decide +kernel, by decide, by decide, tn_T4, _, rfl⟩), (fun h => absurd h (by decide)), (fun h => absurd h (by decide)), (fun h => absurd h (by decide)), (fun h => absurd h (by decide))⟩
theorem tn_c97 : tn_okC ((52, 162), (0, 37, 1)) := ⟨tn_m52, rfl, (fun _ => ⟨tn_m37, rfl, tn_in 562 (by decide +kernel) (by decide +kernel), tn_in 563 (by decide +kernel) (by decide +kernel), tn_in 564 (by decide +kernel) (by decide +kernel), by decide +kernel, by decide, by decide, tn_T3, _, rfl⟩), (fun h => absurd h (by decide)), (fun h => absurd h (by decide)), (fun h => absurd h (by decide)), (fun h => absurd h (by decide))⟩
theorem tn_c98 : tn_okC ((54, 121), (0, 13, 1)) := ⟨tn_m54, rfl, (fun _ => ⟨tn_m13, rfl, tn_in 421 (by decide +kernel) (by decide +kernel), tn_in 422 (by decide +kernel) (by decide +kernel), tn_in 423 (by decide +kernel) (by decide +kernel), by decide +kernel, by decide, by decide, tn_T0, _, rfl⟩), (fun h => absurd h (by decide)), (fun h => absurd h (by decide)), (fun h => absurd h (by decide)), (fun h => absurd h (by decide))⟩
theorem tn_c99 : tn_okC ((57, 64), (0, 58, 4)) := ⟨tn_m57, rfl, (fun _ => ⟨tn_m58, rfl, tn_in 657 (by decide +kernel) (by decide +kernel), tn_in 659 (by decide +kernel) (by decide +kernel), tn_in 16 (by decide +kernel) (by decide +kernel), by decide +kernel, by decide, by decide, tn_T5, _, rfl⟩), (fun h => absurd h (by decide)), (fun h => absurd h (by decide)), (fun h => absurd h (by decide)), (fun h => absurd h (by decide))⟩
theorem tn_c100 : tn_okC ((58, 60), (0, 59, 1)) := ⟨tn_m58, rfl, (fun _ => ⟨tn_m59, rfl, tn_in 661 (by decide +kernel) (by decide +kernel), tn_in 663 (by decide +kernel) (by decide +kernel), tn_in 17 (by decide +kernel) (by decide +kernel), by decide +kernel, by decide, by decide, tn_T5, _, rfl⟩), (fun h => absurd h (by decide)), (fun h => absurd h (by decide)), (fun h => absurd h (by decide)), (fun h => absurd h (by decide))⟩
theorem tn_c101 : tn_okC ((59, 72), (0, 60, 3)) := ⟨tn_m59, rfl, (fun _ => ⟨tn_m60, rfl, tn_in 665 (by decide +kernel) (by decide +kernel), tn_in 667 (by decide +kernel) (by decide +kernel), tn_in 18 (by decide +kernel) (by decide +kernel), by decide +kernel, by decide, by decide, tn_T5, _, rfl⟩), (fun h => absurd h (by decide)), (fun h => absurd h (by decide)), (fun h => absurd h (by decide)), (fun h => absurd h (by decide))⟩
theorem tn_c102 : tn_okC ((61, 64), (0, 58, 4)) := ⟨tn_m61, rfl, (fun _ => ⟨tn_m58, rfl, tn_in 657 (by decide +kernel) (by decide +kernel), tn_in 659 (by decide +kernel) (by decide +kernel), tn_in 16 (by decide +kernel) (by decide +kernel), by decide +kernel, by decide, by decide, tn_T5, _, rfl⟩), (fun h => absurd h (by decide)), (fun h => absurd h (by decide)), (fun h => absurd h (by decide)), (fun h => absurd h (by decide))⟩
theorem tn_c103 : tn_okC ((61, 68), (0, 62, 1)) := ⟨tn_m61, rfl, (fun _ => ⟨tn_m62, rfl, tn_in 673 (by decide +kernel) (by decide +kernel), tn_in 675 (by decide +kernel) (by decide +kernel), tn_in 19 (by decide +kernel) (by decide +kernel), by decide +kernel, by decide, by decide, tn_T5, _, rfl⟩), (fun h => absurd h (by decide)), (fun h => absurd h (by decide)), (fun h => absurd h (by decide)), (fun h => absurd h (by decide))⟩
theorem tn_c104 : tn_okC ((63, 60), (0, 59, 1)) := ⟨tn_m63, rfl, (fun _ => ⟨tn_m59, rfl, tn_in 661 (by decide +kernel) (by decide +kernel), tn_in 663 (by decide +kernel) (by decide +kernel), tn_in 17 (by decide +kernel) (by decide +kernel), by decide +kernel, by decide, by decide, tn_T5, _, rfl⟩), (fun h => absurd h (by decide)), (fun h => absurd h (by decide)), (fun h => absurd h (by decide)), (fun h => absurd h (by decide))⟩
theorem tn_c105 : tn_okC ((63, 68), (0, 62, 1)) := ⟨tn_m63, rfl, (fun _ => ⟨tn_m62, rfl, tn_in 673 (by decide +kernel) (by decide +kernel), tn_in 675 (by decide +kernel) (by decide +kernel), tn_in 19 (by decide +kernel) (by decide +kernel), by decide +kernel, by decide, by decide, tn_T5, _, rfl⟩), (fun h => absurd h (by decide)), (fun h => absurd h (by decide)), (fun h => absurd h (by decide)), (fun h => absurd h (by decide))⟩
theorem tn_c106 : tn_okC ((63, 72), (0, 60, 3)) := ⟨tn_m63, rfl, (fun _ => ⟨tn_m60, rfl, tn_in 665 (by decide +kernel) (by decide +kernel), tn_in 667 (by decide +kernel) (by decide +kernel), tn_in 18 (by decide +kernel) (by decide +kernel), by decide +kernel, by decide, by decide, tn_T5, _, rfl⟩), (fun h => absurd h (by decide)), (fun h => absurd h (by decide)), (fun h => absurd h (by decide)), (fun h => absurd h (by decide))⟩
theorem tn_c107 : tn_okC ((63, 77), (0, 64, 1)) := ⟨tn_m63, rfl, (fun _ => ⟨tn_m64, rfl, tn_in 681 (by decide +kernel) (by decide +kernel), tn_in 683 (by decide +kernel) (by decide +kernel), tn_in 20 (by decide +kernel) (by decide +kernel), by decide +kernel, by decide, by decide, tn_T5, _, rfl⟩), (fun h => absurd h (by decide)), (fun h => absurd h (by decide)), (fun h => absurd h (by decide)), (fun h => absurd h (by decide))⟩
theorem tn_c108 : tn_okC ((65, 68), (0, 62, 1)) := ⟨tn_m65, rfl, (fun _ => ⟨tn_m62, rfl, tn_in 673 (by decide +kernel) (by decide +kernel), tn_in 675 (by decide +kernel) (by decide +kernel), tn_in 19 (by decide +kernel) (by decide +kernel), by decide +kernel, by decide, by decide, tn_T5, _, rfl⟩), (fun h => absurd h (by decide)), (fun h => absurd h (by decide)), (fun h => absurd h (by decide)), (fun h => absurd h (by decide))⟩
theorem tn_c109 : tn_okC ((66, 68), (0, 62, 1)) := ⟨tn_m66, rfl, (fun _ => ⟨tn_m62, rfl, tn_in 673 (by decide +kernel) (by decide +kernel), tn_in 675 (by decide +kernel) (by decide +kernel), tn_in 19 (by decide +kernel) (by decide +kernel), by decide +kernel, by decide, by decide, tn_T5, _, rfl⟩), (fun h => absurd h (by decide)), (fun h => absurd h (by decide)), (fun h => absurd h (by decide)), (fun h => absurd h (by decide))⟩
theorem tn_c110 : tn_okC ((66, 77), (0, 64, 1)) := ⟨tn_m66, rfl, (fun _ => ⟨tn_m64, rfl, tn_in 681 (by decide +kernel) (by decide +kernel), tn_in 683 (by decide +kernel) (by decide +kernel), tn_in 20 (by decide +kernel) (by decide +kernel), by decide +kernel, by decide, by decide, tn_T5, _, rfl⟩), (fun h => absurd h (by decide)), (fun h => absurd h (by decide)), (fun h => absurd h (by decide)), (fun h => absurd h (by decide))⟩
theorem tn_c111 : tn_okC ((67, 68), (0, 62, 1)) := ⟨tn_m67, rfl, (fun _ => ⟨tn_m62, rfl, tn_in 673 (by decide +kernel) (by decide +kernel), tn_in 675 (by decide +kernel) (by decide +kernel), tn_in 19 (by decide +kernel) (by decide +kernel), by decide +kernel, by decide, by decide, tn_T5, _, rfl⟩), (fun h => absurd h (by decide)), (fun h => absurd h (by decide)), (fun h => absurd h (by decide)), (fun h => absurd h (by decide))⟩
theorem tn_c112 : tn_okC ((67, 77), (0, 64, 1)) := ⟨tn_m67, rfl, (fun _ => ⟨tn_m64, rfl, tn_in 681 (by decide +kernel) (by decide +kernel), tn_in 683 (by decide +kernel) (by decide +kernel), tn_in 20 (by decide +kernel) (by decide +kernel), by decide +kernel, by decide, by decide, tn_T5, _, rfl⟩), (fun h => absurd h (by decide)), (fun h => absurd h (by decide)), (fun h => absurd h (by decide)), (fun h => absurd h (by decide))⟩
theorem tn_c113 : tn_okC ((68, 68), (0, 62, 1)) := ⟨tn_m68, rfl, (fun _ => ⟨tn_m62, rfl, tn_in 673 (by decide +kernel) (by decide +kernel), tn_in 675 (by decide +kernel) (by decide +kernel), tn_in 19 (by decide +kernel) (by decide +kernel), by decide +kernel, by decide, by decide, tn_T5, _, rfl⟩), (fun h => absurd h (by decide)), (fun h => absurd h (by decide)), (fun h => absurd h (by decide)), (fun h => absurd h (by decide))⟩
theorem tn_c114 : tn_okC ((69, 68), (0, 62, 1)) := ⟨tn_m69, rfl, (fun _ => ⟨tn_m62, rfl, tn_in 673 (by decide +kernel) (by decide +kernel), tn_in 675 (by decide +kernel) (by decide +kernel), tn_in 19 (by decide +kernel) (by decide +kernel), by decide +kernel, by decide, by decide, tn_T5, _, rfl⟩), (fun h => absurd h (by decide)), (fun h => absurd h (by decide)), (fun h => absurd h (by decide)), (fun h => absurd h (by decide))⟩
theorem tn_c115 : tn_okC ((69, 77), (0, 64, 1)) := ⟨tn_m69, rfl, (fun _ => ⟨tn_m64, rfl, tn_in 681 (by decide +kernel) (by decide +kernel), tn_in 683 (by decide +kernel) (by decide +kernel), tn_in 20 (by decide +kernel) (by decide +kernel), by decide +kernel, by decide, by decide, tn_T5, _, rfl⟩), (fun h => absurd h (by decide)), (fun h => absurd h (by decide)), (fun h => absurd h (by decide)), (fun h => absurd h (by decide))⟩
theorem tn_c116 : tn_okC ((70, 68), (0, 62, 1)) := ⟨tn_m70, rfl, (fun _ => ⟨tn_m62, rfl, tn_in 673 (by decide +kernel) (by decide +kernel), tn_in 675 (by decide +kernel) (by decide +kernel), tn_in 19 (by decide +kernel) (by decide +kernel), by decide +kernel, by decide, by decide, tn_T5, _, rfl⟩), (fun h => absurd h (by decide)), (fun h => absurd h (by decide)), (fun h => absurd h (by decide)), (fun h => absurd h (by decide))⟩
theorem tn_c117 : tn_okC ((70, 77), (0, 64, 1)) := ⟨tn_m70, rfl, (fun _ => ⟨tn_m64, rfl, tn_in 681 (by decide +kernel) (by decide +kernel), tn_in 683 (by decide +kernel) (by decide +kernel), tn_in 20 (by decide +kernel) (by decide +kernel), by decide +kernel, by decide, by decide, tn_T5, _, rfl⟩), (fun h => absurd h (by decide)), (fun h => absurd h (by decide)), (fun h => absurd h (by decide)), (fun h => absurd h (by decide))⟩
theorem tn_c118 : tn_okC ((71, 68), (0, 62, 1)) := ⟨tn_m71, rfl, (fun _ => ⟨tn_m62, rfl, tn_in 673 (by decide +kernel) (by decide +kernel), tn_in 675 (by decide +kernel) (by decide +kernel), tn_in 19 (by decide +kernel) (by decide +kernel), by decide +kernel, by decide, by decide, tn_T5, _, rfl⟩), (fun h => absurd h (by decide)), (fun h => absurd h (by decide)), (fun h => absurd h (by decide)), (fun h => absurd h (by decide))⟩
theorem tn_c119 : tn_okC ((71, 83), (0, 72, 1)) := ⟨tn_m71, rfl, (fun _ => ⟨tn_m72, rfl, tn_in 714 (by decide +kernel) (by decide +kernel), tn_in 716 (by decide +kernel) (by decide +kernel), tn_in 21 (by decide +kernel) (by decide +kernel), by decide +kernel, by decide, by decide, tn_T5, _, rfl⟩), (fun h => absurd h (by decide)), (fun h => absurd h (by decide)), (fun h => absurd h (by decide)), (fun h => absurd h (by decide))⟩
theorem tn_c120 : tn_okC ((72, 77), (0, 64, 1)) := ⟨tn_m72, rfl, (fun _ => ⟨tn_m64, rfl, tn_in 681 (by decide +kernel) (by decide +kernel), tn_in 683 (by decide +kernel) (by decide +kernel), tn_in 20 (by decide +kernel) (by decide +kernel), by decide +kernel, by decide, by decide, tn_T5, _, rfl⟩), (fun h => absurd h (by decide)), (fun h => absurd h (by decide)), (fun h => absurd h (by decide)), (fun h => absurd h (by decide))⟩
theorem tn_c121 : tn_okC ((73, 68), (0, 62, 1)) := ⟨tn_m73, rfl, (fun _ => ⟨tn_m62, rfl, tn_in 673 (by decide +kernel) (by decide +kernel), tn_in 675 (by decide +kernel) (by decide +kernel), tn_in 19 (by decide +kernel) (by decide +kernel), by decide +kernel, by decide, by decide, tn_T5, _, rfl⟩), (fun h => absurd h (by decide)), (fun h => absurd h (by decide)), (fun h => absurd h (by decide)), (fun h => absurd h (by decide))⟩
theorem tn_c122 : tn_okC ((73, 83), (0, 72, 1)) := ⟨tn_m73, rfl, (fun _ => ⟨tn_m72, rfl, tn_in 714 (by decide +kernel) (by decide +kernel), tn_in 716 (by decide +kernel) (by decide +kernel), tn_in 21 (by decide +kernel) (by decide +kernel), by decide +kernel, by decide, by decide, tn_T5, _, rfl⟩), (fun h => absurd h (by decide)), (fun h => absurd h (by decide)), (fun h => absurd h (by decide)), (fun h => absurd h (by decide))⟩
theorem tn_c123 : tn_okC ((76, 77), (0, 64, 1)) := ⟨tn_m76, rfl, (fun _ => ⟨tn_m64, rfl, tn_in 681 (by decide +kernel) (by decide +kernel), tn_in 683 (by decide +kernel) (by decide +kernel), tn_in 20 (by decide +kernel) (by decide +kernel), by decide +kernel, by decide, by decide, tn_T5, _, rfl⟩), (fun h => absurd h (by decide)), (fun h => absurd h (by decide)), (fun h => absurd h (by decide)), (fun h => absurd h (by decide))⟩
set_option maxRecDepth 20000 in
theorem tn_oC : ∀ q ∈ tn_ca, tn_okC q := List.forall_mem_cons.mpr ⟨tn_c0, List.forall_mem_cons.mpr ⟨tn_c1, List.forall_mem_cons.mpr ⟨tn_c2, List.forall_mem_cons.mpr ⟨tn_c3, List.forall_mem_cons.mpr ⟨tn_c4, List.forall_mem_cons.mpr ⟨tn_c5, List.forall_mem_cons.mpr ⟨tn_c6, List.forall_mem_cons.mpr ⟨tn_c7, List.forall_mem_cons.mpr ⟨tn_c8, List.forall_mem_cons.mpr ⟨tn_c9, List.forall_mem_cons.mpr ⟨tn_c10, List.forall_mem_cons.mpr ⟨tn_c11, List.forall_mem_cons.mpr ⟨tn_c12, List.forall_mem_cons.mpr ⟨tn_c13, List.forall_mem_cons.mpr ⟨tn_c14, List.forall_mem_cons.mpr ⟨tn_c15, List.forall_mem_cons.mpr ⟨tn_c16, List.forall_mem_cons.mpr ⟨tn_c17, List.forall_mem_cons.mpr ⟨tn_c18, List.forall_mem_cons.mpr ⟨tn_c19, List.forall_mem_cons.mpr ⟨tn_c20, List.forall_mem_cons.mpr ⟨tn_c21, List.forall_mem_cons.mpr ⟨tn_c22, List.forall_mem_cons.mpr ⟨tn_c23, List.forall_mem_cons.mpr ⟨tn_c24, List.forall_mem_cons.mpr ⟨tn_c25, List.forall_mem_cons.mpr ⟨tn_c26, List.forall_mem_cons.mpr ⟨tn_c27, List.forall_mem_cons.mpr ⟨tn_c28, List.forall_mem_cons.mpr ⟨tn_c29, List.forall_mem_cons.mpr ⟨tn_c30, List.forall_mem_cons.mpr ⟨tn_c31, List.forall_mem_cons.mpr ⟨tn_c32, List.forall_mem_cons.mpr ⟨tn_c33, List.forall_mem_cons.mpr ⟨tn_c34, List.forall_mem_cons.mpr ⟨tn_c35, List.forall_mem_cons.mpr ⟨tn_c36, List.forall_mem_cons.mpr ⟨tn_c37, List.forall_mem_cons.mpr ⟨tn_c38, List.forall_mem_cons.mpr ⟨tn_c39, List.forall_mem_cons.mpr ⟨tn_c40, List.forall_mem_cons.mpr ⟨tn_c41, List.forall_mem_cons.mpr ⟨tn_c42, List.forall_mem_cons.mpr ⟨tn_c43, List.forall_mem_cons.mpr ⟨tn_c44, List.forall_mem_cons.mpr ⟨tn_c45, List.forall_mem_cons.mpr ⟨tn_c46, List.forall_mem_cons.mpr ⟨tn_c47, List.forall_mem_cons.mpr ⟨tn_c48, List.forall_mem_cons.mpr ⟨tn_c49, List.forall_mem_cons.mpr ⟨tn_c50, List.forall_mem_cons.mpr ⟨tn_c51, List.forall_mem_cons.mpr ⟨tn_c52, List.forall_mem_cons.mpr ⟨tn_c53, List.forall_mem_cons.mpr ⟨tn_c54, List.forall_mem_cons.mpr ⟨tn_c55, List.forall_mem_cons.mpr ⟨tn_c56, List.forall_mem_cons.mpr ⟨tn_c57, List.forall_mem_cons.mpr ⟨tn_c58, List.forall_mem_cons.mpr ⟨tn_c59, List.forall_mem_cons.mpr ⟨tn_c60, List.forall_mem_cons.mpr ⟨tn_c61, List.forall_mem_cons.mpr ⟨tn_c62, List.forall_mem_cons.mpr ⟨tn_c63, List.forall_mem_cons.mpr ⟨tn_c64, List.forall_mem_cons.mpr ⟨tn_c65, List.forall_mem_cons.mpr ⟨tn_c66, List.forall_mem_cons.mpr ⟨tn_c67, List.forall_mem_cons.mpr ⟨tn_c68, List.forall_mem_cons.mpr ⟨tn_c69, List.forall_mem_cons.mpr ⟨tn_c70, List.forall_mem_cons.mpr ⟨tn_c71, List.forall_mem_cons.mpr ⟨tn_c72, List.forall_mem_cons.mpr ⟨tn_c73, List.forall_mem_cons.mpr ⟨tn_c74, List.forall_mem_cons.mpr ⟨tn_c75, List.forall_mem_cons.mpr ⟨tn_c76, List.forall_mem_cons.mpr ⟨tn_c77, List.forall_mem_cons.mpr ⟨tn_c78, List.forall_mem_cons.mpr ⟨tn_c79, List.forall_mem_cons.mpr ⟨tn_c80, List.forall_mem_cons.mpr ⟨tn_c81, List.forall_mem_cons.mpr ⟨tn_c82, List.forall_mem_cons.mpr ⟨tn_c83, List.forall_mem_cons.mpr ⟨tn_c84, List.forall_mem_cons.mpr ⟨tn_c85, List.forall_mem_cons.mpr ⟨tn_c86, List.forall_mem_cons.mpr ⟨tn_c87, List.forall_mem_cons.mpr ⟨tn_c88, List.forall_mem_cons.mpr ⟨tn_c89, List.forall_mem_cons.mpr ⟨tn_c90, List.forall_mem_cons.mpr ⟨tn_c91, List.forall_mem_cons.mpr ⟨tn_c92, List.forall_mem_cons.mpr ⟨tn_c93, List.forall_mem_cons.mpr ⟨tn_c94, List.forall_mem_cons.mpr ⟨tn_c95, List.forall_mem_cons.mpr ⟨tn_c96, List.forall_mem_cons.mpr ⟨tn_c97, List.forall_mem_cons.mpr ⟨tn_c98, List.forall_mem_cons.mpr ⟨tn_c99, List.forall_mem_cons.mpr ⟨tn_c100, List.forall_mem_cons.mpr ⟨tn_c101, List.forall_mem_cons.mpr ⟨tn_c102, List.forall_mem_cons.mpr ⟨tn_c103, List.forall_mem_cons.mpr ⟨tn_c104, List.forall_mem_cons.mpr ⟨tn_c105, List.forall_mem_cons.mpr ⟨tn_c106, List.forall_mem_cons.mpr ⟨tn_c107, List.forall_mem_cons.mpr ⟨tn_c108, List.forall_mem_cons.mpr ⟨tn_c109, List.forall_mem_cons.mpr ⟨tn_c110, List.forall_mem_cons.mpr ⟨tn_c111, List.forall_mem_cons.mpr ⟨tn_c112, List.forall_mem_cons.mpr ⟨tn_c113, List.forall_mem_cons.mpr ⟨tn_c114, List.forall_mem_cons.mpr ⟨tn_c115, List.forall_mem_cons.mpr ⟨tn_c116, List.forall_mem_cons.mpr ⟨tn_c117, List.forall_mem_cons.mpr ⟨tn_c118, List.forall_mem_cons.mpr ⟨tn_c119, List.forall_mem_cons.mpr ⟨tn_c120, List.forall_mem_cons.mpr ⟨tn_c121, List.forall_mem_cons.mpr ⟨tn_c122, List.forall_mem_cons.mpr ⟨tn_c123, fun _ h => absurd h List.not_mem_nil⟩⟩⟩⟩⟩⟩⟩⟩⟩⟩⟩⟩⟩⟩⟩⟩⟩⟩⟩⟩⟩⟩⟩⟩⟩⟩⟩⟩⟩⟩⟩⟩⟩⟩⟩⟩⟩⟩⟩⟩⟩⟩⟩⟩⟩⟩⟩⟩⟩⟩⟩⟩⟩⟩⟩⟩⟩⟩⟩⟩⟩⟩⟩⟩⟩⟩⟩⟩⟩⟩⟩⟩⟩⟩⟩⟩⟩⟩⟩⟩⟩⟩⟩⟩⟩⟩⟩⟩⟩⟩⟩⟩⟩⟩⟩⟩⟩⟩⟩⟩⟩⟩⟩⟩⟩⟩⟩⟩⟩⟩⟩⟩⟩⟩⟩⟩⟩⟩⟩⟩⟩⟩⟩⟩
theorem tn_oI : ∀ q ∈ tn_ki, Cond.constant (tn_cn q.1.1) q.1.2 q.2 ∈ tn_TS := List.forall_mem_cons.mpr ⟨(tn_in 444 (by decide +kernel) (by decide +kernel)), List.forall_mem_cons.mpr ⟨(tn_in 685 (by decide +kernel) (by decide +kernel)), fun _ h => absurd h List.not_mem_nil⟩⟩
theorem tn_oL : ∀ q ∈ tn_kl, Cond.constantLong (tn_cn q.1.1) q.1.2 q.2 ∈ tn_TS := List.forall_mem_cons.mpr ⟨(tn_in 524 (by decide +kernel) (by decide +kernel)), fun _ h => absurd h List.not_mem_nil⟩
theorem tn_ok : am_Ok tn_G tn_TS tn_NS tn_cl := by
  refine ⟨fun w hw => (List.mem_filter.mp hw).2, fun μ M hM => (tn_mM hM).1, ?_, ?_, ?_, ?_, ?_, ?_, ?_, ?_⟩
  · intro μ M ix ci k hM h
    have h1 := tn_oF _ (tn_lk h)
    rw [am_oc_of hM] at h1
    unfold tn_okF at h1
    rw [(tn_mM hM).2]
    exact h1
  all_goals first
    | (intro μ M ix μ' n hM h
       obtain ⟨M9, hM9, h0, h2, h3, h4, h5⟩ := tn_oC _ (tn_lk h)
       obtain rfl : M = M9 := Option.some.inj (hM.symm.trans hM9)
       first | exact h0 rfl | exact h2 rfl | exact h3 rfl | exact h4 rfl | exact h5 rfl)
    | (intro μ M ix v hM h
       have h1 := tn_lk h
       rw [am_oc_of hM] at h1
       rw [(tn_mM hM).2]
       first | exact tn_oI _ h1 | exact tn_oL _ h1)
/-- shapes by a check -/
def tn_shI (sh : List am_D) : Bool := (List.range sh.length).all fun o => (List.range sh.length).all fun o' => match sh[o]?, sh[o']? with
  | some (.inl (_, fs)), some (.inl (_, fs')) => (List.range fs.length).all fun k => (List.range fs'.length).all fun k' => match fs[k]?, fs'[k']? with
    | some (.inr i), some (.inr i') => !(i == i') || (o' == o && k' == k)
    | _, _ => true
  | _, _ => true
def tn_shF (cl : List vw_C) (sh : List am_D) : Bool := (List.range sh.length).all fun o => match sh[o]? with
  | some (.inl (ci, fs)) => match cl[ci]? with
    | some (_, T, N) => decide (fs.length = N) && (List.range fs.length).all fun k => match fs[k]? with
      | some (.inr _) => decide (parseFieldDescriptor (T k).2.2.1 = some .int) && decide ((T k).2.2.2 = false)
      | _ => true
    | none => true
  | _ => true
theorem tn_sh_of {cl : List vw_C} {sh : List am_D} (h1 : tn_shI sh = true) (h2 : tn_shF cl sh = true) : am_Sh cl sh := by
  refine ⟨fun o ci fs k i ho hk o' ci' fs' k' ho' hk' => ?_, fun o ci fs ho C T N hc => ?_⟩
  · have a1 := List.all_eq_true.mp (List.all_eq_true.mp h1 o (List.mem_range.mpr (List.getElem?_eq_some_iff.mp ho).1)) o' (List.mem_range.mpr (List.getElem?_eq_some_iff.mp ho').1)
    simp only [ho, ho'] at a1
    have a2 := List.all_eq_true.mp (List.all_eq_true.mp a1 k (List.mem_range.mpr (List.getElem?_eq_some_iff.mp hk).1)) k' (List.mem_range.mpr (List.getElem?_eq_some_iff.mp hk').1)
    simp only [hk, hk'] at a2
    simpa using a2
  · have a1 := List.all_eq_true.mp h2 o (List.mem_range.mpr (List.getElem?_eq_some_iff.mp ho).1)
    simp only [ho, hc, Bool.and_eq_true, decide_eq_true_eq] at a1
    refine ⟨a1.1, fun k i hk => ?_⟩
    have a2 := List.all_eq_true.mp a1.2 k (List.mem_range.mpr (List.getElem?_eq_some_iff.mp hk).1)
    simpa only [hk, Bool.and_eq_true, decide_eq_true_eq] using a2
/-- the class's world: 0 TermNet, 1 Told, 2 Groups, 3 Walk, 4 Twins; 5 pointTerms, 6 pointMerges, 7 pointEquations, 8 partsOfSign, 9 signOf, 10 parts, 11 leader, 12 ring, 13 shape, 14 trail, 15 state, 16 partsTried, 17 path, 18 order, 19 value, 20 first, 21 next, 22 print; numbers: 0 points, 1 equations, 2 signs, 3 terms, 4 merges, 5 pathLength, 6 ordered -/
def tn_X : List am_D := [.inl (4, [.inl 1, .inl 2, .inl 3, .inl 4, .inl 5, .inl 6, .inl 7, .inr 0, .inr 1]), .inl (1, [.inl 8, .inl 9, .inl 10, .inr 2, .inr 3]), .inl (0, [.inl 1, .inl 11, .inl 12, .inl 13, .inl 14, .inr 4]), .inl (3, [.inl 2, .inl 15, .inl 16, .inl 17, .inl 18, .inl 19, .inr 5, .inr 6]), .inl (2, [.inl 2, .inl 20, .inl 21, .inl 22]), .inr (0, 20), .inr (0, 20), .inr (0, 20), .inr (0, 40), .inr (0, 400), .inr (0, 1200), .inr (0, 400), .inr (0, 400), .inr (0, 400), .inr (0, 400), .inr (0, 400), .inr (0, 400), .inr (0, 400), .inr (0, 400), .inr (0, 400), .inr (0, 401), .inr (0, 400), .inr (0, 400)]
/-- the reference's world: 0 TermNetModel; 1 arity, 2 sign, 3 parts, 4 least, 5 tried, 6 hadTerms, 7 hadEquations, 8 had, 9 known, 10 sizes, 11 depths, 12 ready, 13 in; numbers: 0 signs, 1 terms, 2 points, 3 equations, 4 thrown -/
def tn_Y : List am_D := [.inl (5, [.inl 1, .inl 2, .inl 3, .inr 0, .inr 1, .inr 2, .inr 3, .inr 4, .inl 4, .inl 5, .inl 6, .inl 7, .inl 8, .inl 9, .inl 10, .inl 11, .inl 12, .inl 13]), .inr (0, 40), .inr (0, 400), .inr (0, 1200), .inr (0, 400), .inr (0, 400), .inr (0, 20), .inr (0, 20), .inr (0, 8000), .inr (0, 400), .inr (0, 400), .inr (0, 400), .inr (1, 400), .inr (1, 400)]
theorem tn_X_ok : am_Sh tn_cl tn_X := tn_sh_of (by decide +kernel) (by decide +kernel)
theorem tn_Y_ok : am_Sh tn_cl tn_Y := tn_sh_of (by decide +kernel) (by decide +kernel)
theorem tn_X0 : tn_X[0]? = some (.inl (4, [.inl 1, .inl 2, .inl 3, .inl 4, .inl 5, .inl 6, .inl 7, .inr 0, .inr 1])) := rfl
theorem tn_X1 : tn_X[1]? = some (.inl (1, [.inl 8, .inl 9, .inl 10, .inr 2, .inr 3])) := rfl
theorem tn_X2 : tn_X[2]? = some (.inl (0, [.inl 1, .inl 11, .inl 12, .inl 13, .inl 14, .inr 4])) := rfl
theorem tn_X3 : tn_X[3]? = some (.inl (3, [.inl 2, .inl 15, .inl 16, .inl 17, .inl 18, .inl 19, .inr 5, .inr 6])) := rfl
theorem tn_X4 : tn_X[4]? = some (.inl (2, [.inl 2, .inl 20, .inl 21, .inl 22])) := rfl
theorem tn_X5 : tn_X[5]? = some (.inr (0, 20)) := rfl
theorem tn_X6 : tn_X[6]? = some (.inr (0, 20)) := rfl
theorem tn_X7 : tn_X[7]? = some (.inr (0, 20)) := rfl
theorem tn_X8 : tn_X[8]? = some (.inr (0, 40)) := rfl
theorem tn_X9 : tn_X[9]? = some (.inr (0, 400)) := rfl
theorem tn_X10 : tn_X[10]? = some (.inr (0, 1200)) := rfl
theorem tn_X11 : tn_X[11]? = some (.inr (0, 400)) := rfl
theorem tn_X12 : tn_X[12]? = some (.inr (0, 400)) := rfl
theorem tn_X13 : tn_X[13]? = some (.inr (0, 400)) := rfl
theorem tn_X14 : tn_X[14]? = some (.inr (0, 400)) := rfl
theorem tn_X15 : tn_X[15]? = some (.inr (0, 400)) := rfl
theorem tn_X16 : tn_X[16]? = some (.inr (0, 400)) := rfl
theorem tn_X17 : tn_X[17]? = some (.inr (0, 400)) := rfl
theorem tn_X18 : tn_X[18]? = some (.inr (0, 400)) := rfl
theorem tn_X19 : tn_X[19]? = some (.inr (0, 400)) := rfl
theorem tn_X20 : tn_X[20]? = some (.inr (0, 401)) := rfl
theorem tn_X21 : tn_X[21]? = some (.inr (0, 400)) := rfl
theorem tn_X22 : tn_X[22]? = some (.inr (0, 400)) := rfl
theorem tn_Y0 : tn_Y[0]? = some (.inl (5, [.inl 1, .inl 2, .inl 3, .inr 0, .inr 1, .inr 2, .inr 3, .inr 4, .inl 4, .inl 5, .inl 6, .inl 7, .inl 8, .inl 9, .inl 10, .inl 11, .inl 12, .inl 13])) := rfl
theorem tn_Y1 : tn_Y[1]? = some (.inr (0, 40)) := rfl
theorem tn_Y2 : tn_Y[2]? = some (.inr (0, 400)) := rfl
theorem tn_Y3 : tn_Y[3]? = some (.inr (0, 1200)) := rfl
theorem tn_Y4 : tn_Y[4]? = some (.inr (0, 400)) := rfl
theorem tn_Y5 : tn_Y[5]? = some (.inr (0, 400)) := rfl
theorem tn_Y6 : tn_Y[6]? = some (.inr (0, 20)) := rfl
theorem tn_Y7 : tn_Y[7]? = some (.inr (0, 20)) := rfl
theorem tn_Y8 : tn_Y[8]? = some (.inr (0, 8000)) := rfl
theorem tn_Y9 : tn_Y[9]? = some (.inr (0, 400)) := rfl
theorem tn_Y10 : tn_Y[10]? = some (.inr (0, 400)) := rfl
theorem tn_Y11 : tn_Y[11]? = some (.inr (0, 400)) := rfl
theorem tn_Y12 : tn_Y[12]? = some (.inr (1, 400)) := rfl
theorem tn_Y13 : tn_Y[13]? = some (.inr (1, 400)) := rfl
