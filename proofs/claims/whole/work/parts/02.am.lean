/-! AN ABSTRACT MACHINE over a world of fixed shape. A thing of the world is named by its place k (a reference is '.ref k'); the shape says of each place: an object (number of its class; its fields, each a place or a number's name) or an array (its kind, its length). A state: the numbers by their names, the arrays' contents by their places. am_AW c Q: from the configuration c the method comes to an end with Q. -/
abbrev am_D : Type := (Nat × List (Nat ⊕ Nat)) ⊕ (Nat × Nat)
abbrev am_S : Type := (Nat → Int32) × (Nat → Nat → Int32)
/-- method, pc, exceptions' room used, locals, stack, state -/
abbrev am_C : Type := Nat × Nat × Nat × List (Option Value) × List Value × am_S
/-- an outcome: an answer, or an exception of a class -/
abbrev am_O : Type := Option Value ⊕ String
abbrev am_Q : Type := am_S → am_O → Prop
/-- a step: what must hold; roads (each with its condition), or a call, or an end -/
abbrev am_N : Type := Prop × (List (Prop × am_C) ⊕ ((am_C × (am_S → Option Value → am_C)) ⊕ (am_S × am_O)))
/-- a method: name, bytes, locals, answer's type, number of its class, room -/
abbrev am_M : Type := MethodName × ByteArray × Nat × Option FieldType × Nat × Room
/-- tables: methods; fields by (class, pool place): (class, slot); calls by (method, pool place): (kind, method, parameters); int and long constants; throws by (method, pc) -/
abbrev am_G : Type := List am_M × List ((Nat × Nat) × (Nat × Nat)) × List ((Nat × Nat) × (Nat × Nat × Nat)) × List ((Nat × Nat) × Int32) × List ((Nat × Nat) × Int64) × List ((Nat × Nat) × String)
def am_m (G : am_G) (μ : Nat) : Option am_M := G.1[μ]?
def am_ml (G : am_G) (μ : Nat) : Nat := match am_m G μ with
  | some M => M.2.2.1
  | none => 0
def am_oc (G : am_G) (μ : Nat) : Nat := match am_m G μ with
  | some M => M.2.2.2.2.1
  | none => 0
def am_nc (G : am_G) (μ : Nat) : Nat := match am_m G μ with
  | some M => M.2.2.2.2.2.cells
  | none => 0
/-- the answer's type: 0 none, 1 int, 2 boolean -/
def am_rk (t : Option FieldType) : Nat := match t with
  | none => 0
  | some .int => 1
  | some .boolean => 2
  | some _ => 3
def am_rt (G : am_G) (μ : Nat) : Nat := match am_m G μ with
  | some M => am_rk M.2.2.2.1
  | none => 3
def am_fld (G : am_G) (μ ix : Nat) : Option (Nat × Nat) := G.2.1.lookup (am_oc G μ, ix)
def am_cal (G : am_G) (μ ix : Nat) : Option (Nat × Nat × Nat) := G.2.2.1.lookup (μ, ix)
def am_ki (G : am_G) (μ ix : Nat) : Option Int32 := G.2.2.2.1.lookup (am_oc G μ, ix)
def am_kl (G : am_G) (μ ix : Nat) : Option Int64 := G.2.2.2.2.1.lookup (am_oc G μ, ix)
def am_th (G : am_G) (μ pc : Nat) : Option String := G.2.2.2.2.2.lookup (μ, pc)
def am_nn (z : Int) : Option Nat := match z with
  | .ofNat n => some n
  | .negSucc _ => none
def am_tg (i : Instr) (pc : Nat) : Option Nat := match i with
  | .goto off => am_nn ((pc : Int) + off)
  | .ifCond _ off => am_nn ((pc : Int) + off)
  | .if_icmp _ off => am_nn ((pc : Int) + off)
  | .tableswitch off _ _ _ => am_nn ((pc : Int) + off)
  | _ => some 0
def am_ln (i : Instr) (len : Nat) : Bool := match i with
  | .tableswitch _ _ _ _ => true
  | .bipush _ | .ldc _ | .iload _ | .lload _ | .aload _ | .istore _ | .lstore _ | .astore _ => len == 2
  | .sipush _ | .ldc2_w _ | .getfield _ | .putfield _ | .goto _ | .ifCond _ _ | .if_icmp _ _ | .invokevirtual _ | .invokestatic _ | .invokespecial _ | .iinc _ _ | .new _ => len == 3
  | _ => len == 1
def am_code (G : am_G) (μ pc : Nat) : Option (Instr × Nat × Nat) := match am_m G μ with
  | some M => match decode M.2.1 pc with
    | .ok (i, len) => if am_ln i len = true then (am_tg i pc).map (fun t => (i, len, t)) else none
    | .error _ => none
  | none => none
theorem am_code_of {G : am_G} {μ pc : Nat} {M : am_M} {i : Instr} {len t : Nat} (h1 : am_m G μ = some M) (h2 : decode M.2.1 pc = .ok (i, len)) (h3 : am_ln i len = true) (h4 : am_tg i pc = some t) : am_code G μ pc = some (i, len, t) := by
  simp only [am_code, h1, h2, h3, h4, if_true, Option.map_some]
theorem am_code_spec {G : am_G} {μ pc : Nat} {M : am_M} {i : Instr} {len t : Nat} (h1 : am_m G μ = some M) (h : am_code G μ pc = some (i, len, t)) : decode M.2.1 pc = .ok (i, len) ∧ am_ln i len = true ∧ am_tg i pc = some t := by
  simp only [am_code, h1] at h
  cases hd : decode M.2.1 pc with
  | error x => rw [hd] at h; cases h
  | ok q =>
    obtain ⟨i', len'⟩ := q
    rw [hd] at h
    simp only at h
    by_cases hl : am_ln i' len' = true
    · rw [if_pos hl] at h
      cases ht : am_tg i' pc with
      | none => rw [ht] at h; cases h
      | some t' =>
        rw [ht] at h
        simp only [Option.map_some, Option.some.injEq, Prod.mk.injEq] at h
        obtain ⟨rfl, rfl, rfl⟩ := h
        exact ⟨rfl, hl, ht⟩
    · rw [if_neg hl] at h
      cases h
/-- values of one word from the stack, the last first -/
def am_pp : Nat → List Value → List Value → Option (List Value × List Value)
  | 0, st, acc => some (acc, st)
  | n + 1, v :: st, acc => if v.category = 1 then am_pp n st (v :: acc) else none
  | _ + 1, [], _ => none
def am_ct : List Value → Nat
  | [] => 0
  | v :: r => v.category + am_ct r
def am_no : Nat → List (Option Value)
  | 0 => []
  | n + 1 => none :: am_no n
/-- the locals at a method's entry -/
def am_in : Nat → List Value → List (Option Value)
  | n, [] => am_no n
  | 0, v :: r => some v :: am_in 0 r
  | n + 1, v :: r => some v :: am_in n r
def am_cut (lo : List (Option Value)) (i : Nat) : List (Option Value) := match i with
  | 0 => lo
  | j + 1 => match lo[j]? with
    | some (some v) => if v.category = 2 then lo.set j none else lo
    | _ => lo
def am_s1 (lo : List (Option Value)) (i : Nat) (v : Value) : List (Option Value) := (am_cut lo i).set i (some v)
def am_s2 (lo : List (Option Value)) (i : Nat) (v : Value) : List (Option Value) := ((am_cut lo i).set i (some v)).set (i + 1) none
def am_one (c : am_C) : Option am_N := some (True, .inl [(True, c)])
def am_two (b b' : Prop) (c c' : am_C) : Option am_N := some (True, .inl [(b, c), (b', c')])
def am_br (cc : ClassFile.Cond) (x y : Int32) (c c' : am_C) : Option am_N := match cc with
  | .eq => am_two (x = y) (¬ x = y) c c'
  | .ne => am_two (¬ x = y) (x = y) c c'
  | .lt => am_two (x < y) (¬ x < y) c c'
  | .ge => am_two (y ≤ x) (¬ y ≤ x) c c'
  | .gt => am_two (y < x) (¬ y < x) c c'
  | .le => am_two (x ≤ y) (¬ x ≤ y) c c'
def am_sw (mk : Nat → am_C) (pc : Nat) (x lo : Int) : Nat → List Int → List (Prop × am_C)
  | _, [] => []
  | j, off :: r => (x = lo + (j : Int), mk ((pc : Int) + off).toNat) :: am_sw mk pc x lo (j + 1) r
def am_swo (pc : Nat) : List Int → Bool
  | [] => true
  | off :: r => decide (0 ≤ (pc : Int) + off) && am_swo pc r
/-- the receiver is an object of the class -/
def am_rc (sh : List am_D) (oc : Nat) (args : List Value) : Prop := match args with
  | .ref o :: _ => match sh[o]? with
    | some (.inl (ci, _)) => ci = oc
    | _ => False
  | _ => False
def am_inv (G : am_G) (sh : List am_D) (μ pc nc : Nat) (lo : List (Option Value)) (st : List Value) (h : am_S) (k μ' n : Nat) : Option am_N := match am_pp n st [] with
  | some (args, rest) => some ((k ≤ 1 → am_rc sh (am_oc G μ') args) ∧ am_ct rest ≤ 8 ∧ n ≤ am_ml G μ' ∧ nc + am_nc G μ' ≤ am_nc G μ, .inr (.inl ((μ', 0, 0, am_in (am_ml G μ') args, [], h), fun h' r => (μ, pc + 3, nc + am_nc G μ', lo, r.toList ++ rest, h'))))
  | none => none
def am_op (G : am_G) (sh : List am_D) (μ pc len tg nc : Nat) (lo : List (Option Value)) (st : List Value) (h : am_S) (i : Instr) : Option am_N := match i with
  | .iconst v => am_one (μ, pc + len, nc, lo, .int (Int32.ofInt v) :: st, h)
  | .bipush v => am_one (μ, pc + len, nc, lo, .int (Int8.ofInt v).toInt32 :: st, h)
  | .sipush v => am_one (μ, pc + len, nc, lo, .int (Int16.ofInt v).toInt32 :: st, h)
  | .lconst v => am_one (μ, pc + len, nc, lo, .long (Int64.ofNat v.val) :: st, h)
  | .ldc ix => match am_ki G μ ix with
    | some v => am_one (μ, pc + len, nc, lo, .int v :: st, h)
    | none => none
  | .ldc2_w ix => match am_kl G μ ix with
    | some v => am_one (μ, pc + len, nc, lo, .long v :: st, h)
    | none => none
  | .iload_n k => match lo[k.val]? with
    | some (some (.int x)) => am_one (μ, pc + len, nc, lo, .int x :: st, h)
    | _ => none
  | .iload k => match lo[k]? with
    | some (some (.int x)) => am_one (μ, pc + len, nc, lo, .int x :: st, h)
    | _ => none
  | .lload_n k => match lo[k.val]? with
    | some (some (.long x)) => am_one (μ, pc + len, nc, lo, .long x :: st, h)
    | _ => none
  | .lload k => match lo[k]? with
    | some (some (.long x)) => am_one (μ, pc + len, nc, lo, .long x :: st, h)
    | _ => none
  | .aload_n k => match lo[k.val]? with
    | some (some (.ref x)) => am_one (μ, pc + len, nc, lo, .ref x :: st, h)
    | _ => none
  | .aload k => match lo[k]? with
    | some (some (.ref x)) => am_one (μ, pc + len, nc, lo, .ref x :: st, h)
    | _ => none
  | .istore_n k => match st with
    | .int x :: r => some (k.val < am_ml G μ, .inl [(True, (μ, pc + len, nc, am_s1 lo k.val (.int x), r, h))])
    | _ => none
  | .istore k => match st with
    | .int x :: r => some (k < am_ml G μ, .inl [(True, (μ, pc + len, nc, am_s1 lo k (.int x), r, h))])
    | _ => none
  | .lstore_n k => match st with
    | .long x :: r => some (k.val + 1 < am_ml G μ, .inl [(True, (μ, pc + len, nc, am_s2 lo k.val (.long x), r, h))])
    | _ => none
  | .lstore k => match st with
    | .long x :: r => some (k + 1 < am_ml G μ, .inl [(True, (μ, pc + len, nc, am_s2 lo k (.long x), r, h))])
    | _ => none
  | .astore_n k => match st with
    | .ref x :: r => some (k.val < am_ml G μ, .inl [(True, (μ, pc + len, nc, am_s1 lo k.val (.ref x), r, h))])
    | _ => none
  | .astore k => match st with
    | .ref x :: r => some (k < am_ml G μ, .inl [(True, (μ, pc + len, nc, am_s1 lo k (.ref x), r, h))])
    | _ => none
  | .iinc k v => match lo[k]? with
    | some (some (.int x)) => some (k < am_ml G μ, .inl [(True, (μ, pc + len, nc, am_s1 lo k (.int (x + Int32.ofInt v)), st, h))])
    | _ => none
  | .iadd => match st with
    | .int y :: .int x :: r => am_one (μ, pc + len, nc, lo, .int (x + y) :: r, h)
    | _ => none
  | .isub => match st with
    | .int y :: .int x :: r => am_one (μ, pc + len, nc, lo, .int (x - y) :: r, h)
    | _ => none
  | .imul => match st with
    | .int y :: .int x :: r => am_one (μ, pc + len, nc, lo, .int (x * y) :: r, h)
    | _ => none
  | .iand => match st with
    | .int y :: .int x :: r => am_one (μ, pc + len, nc, lo, .int (x &&& y) :: r, h)
    | _ => none
  | .ixor => match st with
    | .int y :: .int x :: r => am_one (μ, pc + len, nc, lo, .int (x ^^^ y) :: r, h)
    | _ => none
  | .irem => match st with
    | .int y :: .int x :: r => some (¬ y = 0, .inl [(True, (μ, pc + len, nc, lo, .int (x - x / y * y) :: r, h))])
    | _ => none
  | .ladd => match st with
    | .long y :: .long x :: r => am_one (μ, pc + len, nc, lo, .long (x + y) :: r, h)
    | _ => none
  | .i2l => match st with
    | .int x :: r => am_one (μ, pc + len, nc, lo, .long x.toInt64 :: r, h)
    | _ => none
  | .l2i => match st with
    | .long x :: r => am_one (μ, pc + len, nc, lo, .int x.toInt32 :: r, h)
    | _ => none
  | .dup => match st with
    | v :: r => some (v.category = 1, .inl [(True, (μ, pc + len, nc, lo, v :: v :: r, h))])
    | _ => none
  | .pop => match st with
    | v :: r => some (v.category = 1, .inl [(True, (μ, pc + len, nc, lo, r, h))])
    | _ => none
  | .dup2 => match st with
    | v :: w :: r => some (v.category = 1 ∧ w.category = 1, .inl [(True, (μ, pc + len, nc, lo, v :: w :: v :: w :: r, h))])
    | _ => none
  | .dup_x1 => match st with
    | v :: w :: r => some (v.category = 1 ∧ w.category = 1, .inl [(True, (μ, pc + len, nc, lo, v :: w :: v :: r, h))])
    | _ => none
  | .goto _ => am_one (μ, tg, nc, lo, st, h)
  | .ifCond cc _ => match st with
    | .int x :: r => am_br cc x 0 (μ, tg, nc, lo, r, h) (μ, pc + len, nc, lo, r, h)
    | _ => none
  | .if_icmp cc _ => match st with
    | .int y :: .int x :: r => am_br cc x y (μ, tg, nc, lo, r, h) (μ, pc + len, nc, lo, r, h)
    | _ => none
  | .tableswitch _ l u offs => match st with
    | .int x :: r => some (u + 1 = l + (offs.size : Int) ∧ am_swo pc offs.toList = true, .inl ((x.toInt < l ∨ u < x.toInt, (μ, tg, nc, lo, r, h)) :: am_sw (fun t => (μ, t, nc, lo, r, h)) pc x.toInt l 0 offs.toList))
    | _ => none
  | .getfield ix => match am_fld G μ ix with
    | some (ci, k) => match st with
      | .ref o :: r => match sh[o]? with
        | some (.inl (cj, fs)) => match fs[k]? with
          | some (.inl q) => some (ci = cj, .inl [(True, (μ, pc + len, nc, lo, .ref q :: r, h))])
          | some (.inr j) => some (ci = cj, .inl [(True, (μ, pc + len, nc, lo, .int (h.1 j) :: r, h))])
          | none => none
        | _ => none
      | _ => none
    | none => none
  | .putfield ix => match am_fld G μ ix with
    | some (ci, k) => match st with
      | .int x :: .ref o :: r => match sh[o]? with
        | some (.inl (cj, fs)) => match fs[k]? with
          | some (.inr j) => some (ci = cj, .inl [(True, (μ, pc + len, nc, lo, r, (upd h.1 j x, h.2)))])
          | _ => none
        | _ => none
      | _ => none
    | none => none
  | .iaload => match st with
    | .int j :: .ref o :: r => match sh[o]? with
      | some (.inr (0, n)) => some (vp_in j n, .inl [(True, (μ, pc + len, nc, lo, .int (h.2 o j.toNatClampNeg) :: r, h))])
      | _ => none
    | _ => none
  | .iastore => match st with
    | .int x :: .int j :: .ref o :: r => match sh[o]? with
      | some (.inr (0, n)) => some (vp_in j n, .inl [(True, (μ, pc + len, nc, lo, r, (h.1, va_up h.2 o (upd (h.2 o) j.toNatClampNeg x))))])
      | _ => none
    | _ => none
  | .baload => match st with
    | .int j :: .ref o :: r => match sh[o]? with
      | some (.inr (1, n)) => some (vp_in j n, .inl [(True, (μ, pc + len, nc, lo, .int (h.2 o j.toNatClampNeg) :: r, h))])
      | _ => none
    | _ => none
  | .bastore => match st with
    | .int x :: .int j :: .ref o :: r => match sh[o]? with
      | some (.inr (1, n)) => some (vp_in j n ∧ (x = 0 ∨ x = 1), .inl [(True, (μ, pc + len, nc, lo, r, (h.1, va_up h.2 o (upd (h.2 o) j.toNatClampNeg x))))])
      | _ => none
    | _ => none
  | .arraylength => match st with
    | .ref o :: r => match sh[o]? with
      | some (.inr (0, n)) => am_one (μ, pc + len, nc, lo, .int (Int32.ofNat n) :: r, h)
      | _ => none
    | _ => none
  | .invokevirtual ix => match am_cal G μ ix with
    | some (0, μ', n) => am_inv G sh μ pc nc lo st h 0 μ' (n + 1)
    | _ => none
  | .invokestatic ix => match am_cal G μ ix with
    | some (2, μ', n) => am_inv G sh μ pc nc lo st h 2 μ' n
    | some (3, _, _) => match st with
      | .int y :: .int x :: r => some (am_ct r ≤ 8 ∧ nc ≤ am_nc G μ, .inl [(True, (μ, pc + len, nc, lo, .int (if x < y then y else x) :: r, h))])
      | _ => none
    | some (4, _, _) => match st with
      | .int y :: .int x :: r => some (am_ct r ≤ 8 ∧ nc ≤ am_nc G μ, .inl [(True, (μ, pc + len, nc, lo, .int (if y < x then y else x) :: r, h))])
      | _ => none
    | some (5, _, _) => match st with
      | .long y :: .long x :: r => some (am_ct r ≤ 8 ∧ nc ≤ am_nc G μ, .inl [(True, (μ, pc + len, nc, lo, .long (if y < x then y else x) :: r, h))])
      | _ => none
    | _ => none
  | .ireturn => match st with
    | [.int x] => some ((am_rt G μ = 1 ∨ (am_rt G μ = 2 ∧ (x = 0 ∨ x = 1))) ∧ nc ≤ am_nc G μ, .inr (.inr (h, .inl (some (.int x)))))
    | _ => none
  | .return_ => match st with
    | [] => some (am_rt G μ = 0 ∧ nc ≤ am_nc G μ, .inr (.inr (h, .inl none)))
    | _ => none
  | .new _ => match am_th G μ pc with
    | some E => some (nc + 1 ≤ am_nc G μ ∧ am_ct st ≤ 8, .inr (.inr (h, .inr E)))
    | none => none
  | _ => none
def am_step (G : am_G) (sh : List am_D) (c : am_C) : Option am_N := match am_code G c.1 c.2.1 with
  | some (i, len, tg) => am_op G sh c.1 c.2.1 len tg c.2.2.1 c.2.2.2.1 c.2.2.2.2.1 c.2.2.2.2.2 i
  | none => none
def am_all (f : am_C → Prop) : List (Prop × am_C) → Prop
  | [] => True
  | q :: r => (q.1 → f q.2) ∧ am_all f r
theorem am_all_mono {f g : am_C → Prop} (hfg : ∀ c, f c → g c) : ∀ {l : List (Prop × am_C)}, am_all f l → am_all g l
  | [], _ => trivial
  | _ :: _, h => ⟨fun hq => hfg _ (h.1 hq), am_all_mono hfg h.2⟩
/-- what a caller makes of an outcome -/
def am_k (Q : am_Q) (f : am_S → Option Value → Prop) : am_Q := fun h o => match o with
  | .inl r => f h r
  | .inr E => Q h (.inr E)
theorem am_k_mono {Q Q' : am_Q} {f f' : am_S → Option Value → Prop} (hQ : ∀ h o, Q h o → Q' h o) (hf : ∀ h r, f h r → f' h r) : ∀ h o, am_k Q f h o → am_k Q' f' h o := by
  intro h o
  cases o with
  | inl r => exact hf h r
  | inr E => exact hQ h _
def am_go (P : am_C → am_Q → Prop) (F : am_C → am_Q → Prop) (n : Option am_N) (Q : am_Q) : Prop := match n with
  | none => False
  | some (ob, .inl l) => ob ∧ am_all (fun c' => F c' Q) l
  | some (ob, .inr (.inl (c', K))) => ob ∧ P c' (am_k Q (fun h r => F (K h r) Q))
  | some (ob, .inr (.inr (h, o))) => ob ∧ Q h o
def am_mono (P : am_C → am_Q → Prop) : Prop := ∀ (c : am_C) (Q Q' : am_Q), (∀ h o, Q h o → Q' h o) → P c Q → P c Q'
theorem am_go_le {P P' F F' : am_C → am_Q → Prop} (hm : am_mono P') (hP : ∀ c Q, P c Q → P' c Q) (hF : ∀ c Q, F c Q → F' c Q) {n : Option am_N} {Q : am_Q} (h : am_go P F n Q) : am_go P' F' n Q := by
  match n, h with
  | some (ob, .inl l), h => exact ⟨h.1, am_all_mono (fun c hc => hF c Q hc) h.2⟩
  | some (ob, .inr (.inl (c', K))), h => exact ⟨h.1, hm _ _ _ (am_k_mono (fun _ _ q => q) (fun h r q => hF _ _ q)) (hP _ _ h.2)⟩
  | some (ob, .inr (.inr (h0, o))), h => exact h
theorem am_go_mono {P F : am_C → am_Q → Prop} (hP : am_mono P) (hF : am_mono F) {n : Option am_N} {Q Q' : am_Q} (hQ : ∀ h o, Q h o → Q' h o) (h : am_go P F n Q) : am_go P F n Q' := by
  match n, h with
  | some (ob, .inl l), h => exact ⟨h.1, am_all_mono (fun c hc => hF c Q Q' hQ hc) h.2⟩
  | some (ob, .inr (.inl (c', K))), h => exact ⟨h.1, hP _ _ _ (am_k_mono hQ (fun h r q => hF _ _ _ hQ q)) h.2⟩
  | some (ob, .inr (.inr (h0, o))), h => exact ⟨h.1, hQ _ _ h.2⟩
/-- the least predicate that is closed under steps -/
def am_AW (G : am_G) (sh : List am_D) (c : am_C) (Q : am_Q) : Prop := ∀ P : am_C → am_Q → Prop, am_mono P → (∀ c Q, am_go P P (am_step G sh c) Q → P c Q) → P c Q
theorem am_AW_mono (G : am_G) (sh : List am_D) : am_mono (am_AW G sh) := fun c Q Q' hQ h P hm hc => hm c Q Q' hQ (h P hm hc)
theorem am_AW.fold {G : am_G} {sh : List am_D} {c : am_C} {Q : am_Q} (h : am_go (am_AW G sh) (am_AW G sh) (am_step G sh c) Q) : am_AW G sh c Q :=
  fun P hm hc => hc c Q (am_go_le hm (fun _ _ q => q P hm hc) (fun _ _ q => q P hm hc) h)
/-- n steps at once -/
def am_R (G : am_G) (sh : List am_D) : Nat → am_C → am_Q → Prop
  | 0, c, Q => am_AW G sh c Q
  | n + 1, c, Q => am_go (am_AW G sh) (fun c' Q' => am_R G sh n c' Q') (am_step G sh c) Q
theorem am_AW.run {G : am_G} {sh : List am_D} : ∀ (n : Nat) {c : am_C} {Q : am_Q}, am_R G sh n c Q → am_AW G sh c Q
  | 0, _, _, h => h
  | n + 1, _, _, h => am_AW.fold (am_go_le (am_AW_mono G sh) (fun _ _ q => q) (fun _ _ q => am_AW.run n q) h)
