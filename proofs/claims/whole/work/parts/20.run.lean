/-! how configurations are run by rewriting -/
def am_kk (G : am_G) (sh : List am_D) (n : Nat) (K : am_S → Option Value → am_C) (Q : am_Q) : am_Q := am_k Q (fun h r => am_R G sh n (K h r) Q)
theorem am_kk_l {G : am_G} {sh : List am_D} {n : Nat} {K : am_S → Option Value → am_C} {Q : am_Q} {h : am_S} {r : Option Value} : am_kk G sh n K Q h (.inl r) = am_R G sh n (K h r) Q := rfl
theorem am_kk_r {G : am_G} {sh : List am_D} {n : Nat} {K : am_S → Option Value → am_C} {Q : am_Q} {h : am_S} {E : String} : am_kk G sh n K Q h (.inr E) = Q h (.inr E) := rfl
def am_al (G : am_G) (sh : List am_D) (n : Nat) (Q : am_Q) : List (Prop × am_C) → Prop
  | [] => True
  | q :: r => (q.1 → am_R G sh n q.2 Q) ∧ am_al G sh n Q r
theorem am_al_eq {G : am_G} {sh : List am_D} {n : Nat} {Q : am_Q} : ∀ l : List (Prop × am_C), am_all (fun c' => am_R G sh n c' Q) l = am_al G sh n Q l
  | [] => rfl
  | q :: r => by simp only [am_all, am_al, am_al_eq r]
def am_g2 (G : am_G) (sh : List am_D) (n : Nat) (Q : am_Q) (x : Option am_N) : Prop := match x with
  | none => False
  | some (ob, .inl l) => ob ∧ am_al G sh n Q l
  | some (ob, .inr (.inl (c', K))) => ob ∧ am_AW G sh c' (am_kk G sh n K Q)
  | some (ob, .inr (.inr (h, o))) => ob ∧ Q h o
theorem am_Rs {G : am_G} {sh : List am_D} {n : Nat} {c : am_C} {Q : am_Q} : am_R G sh (n + 1) c Q = am_g2 G sh n Q (am_step G sh c) := by
  show am_go (am_AW G sh) (fun c' Q' => am_R G sh n c' Q') (am_step G sh c) Q = _
  match am_step G sh c with
  | none => rfl
  | some (ob, .inl l) => show (ob ∧ am_all (fun c' => am_R G sh n c' Q) l) = _; rw [am_al_eq]; rfl
  | some (ob, .inr (.inl (c', K))) => rfl
  | some (ob, .inr (.inr (h, o))) => rfl
theorem am_R0 {G : am_G} {sh : List am_D} {c : am_C} {Q : am_Q} : am_R G sh 0 c Q = am_AW G sh c Q := rfl
/-! the same, up to the next of some program counters -/
def am_mem : List Nat → Nat → Bool
  | [], _ => false
  | a :: l, p => if a = p then true else am_mem l p
def am_zn (G : am_G) (sh : List am_D) (S : List Nat) (F : am_C → am_Q → Prop) (c : am_C) (Q : am_Q) : Prop := if am_mem S c.2.1 = true then am_AW G sh c Q else F c Q
def am_Z (G : am_G) (sh : List am_D) (S : List Nat) : Nat → am_C → am_Q → Prop
  | 0, c, Q => am_AW G sh c Q
  | n + 1, c, Q => am_go (am_AW G sh) (fun c' Q' => am_zn G sh S (am_Z G sh S n) c' Q') (am_step G sh c) Q
theorem am_AW.go {G : am_G} {sh : List am_D} (S : List Nat) : ∀ (n : Nat) {c : am_C} {Q : am_Q}, am_Z G sh S n c Q → am_AW G sh c Q
  | 0, _, _, h => h
  | n + 1, _, _, h => am_AW.fold (am_go_le (am_AW_mono G sh) (fun _ _ q => q) (fun c' Q' q => by
      unfold am_zn at q
      split at q
      · exact q
      · exact am_AW.go S n q) h)
def am_kz (G : am_G) (sh : List am_D) (S : List Nat) (n : Nat) (K : am_S → Option Value → am_C) (Q : am_Q) : am_Q := am_k Q (fun h r => am_zn G sh S (am_Z G sh S n) (K h r) Q)
theorem am_kz_l {G : am_G} {sh : List am_D} {S : List Nat} {n : Nat} {K : am_S → Option Value → am_C} {Q : am_Q} {h : am_S} {r : Option Value} : am_kz G sh S n K Q h (.inl r) = am_zn G sh S (am_Z G sh S n) (K h r) Q := rfl
theorem am_kz_r {G : am_G} {sh : List am_D} {S : List Nat} {n : Nat} {K : am_S → Option Value → am_C} {Q : am_Q} {h : am_S} {E : String} : am_kz G sh S n K Q h (.inr E) = Q h (.inr E) := rfl
def am_a3 (G : am_G) (sh : List am_D) (S : List Nat) (n : Nat) (Q : am_Q) : List (Prop × am_C) → Prop
  | [] => True
  | q :: r => (q.1 → am_zn G sh S (am_Z G sh S n) q.2 Q) ∧ am_a3 G sh S n Q r
theorem am_a3_eq {G : am_G} {sh : List am_D} {S : List Nat} {n : Nat} {Q : am_Q} : ∀ l : List (Prop × am_C), am_all (fun c' => am_zn G sh S (am_Z G sh S n) c' Q) l = am_a3 G sh S n Q l
  | [] => rfl
  | q :: r => by simp only [am_all, am_a3, am_a3_eq r]
def am_g3 (G : am_G) (sh : List am_D) (S : List Nat) (n : Nat) (Q : am_Q) (x : Option am_N) : Prop := match x with
  | none => False
  | some (ob, .inl l) => ob ∧ am_a3 G sh S n Q l
  | some (ob, .inr (.inl (c', K))) => ob ∧ am_AW G sh c' (am_kz G sh S n K Q)
  | some (ob, .inr (.inr (h, o))) => ob ∧ Q h o
theorem am_Zs {G : am_G} {sh : List am_D} {S : List Nat} {n : Nat} {c : am_C} {Q : am_Q} : am_Z G sh S (n + 1) c Q = am_g3 G sh S n Q (am_step G sh c) := by
  show am_go (am_AW G sh) (fun c' Q' => am_zn G sh S (am_Z G sh S n) c' Q') (am_step G sh c) Q = _
  match am_step G sh c with
  | none => rfl
  | some (ob, .inl l) => show (ob ∧ am_all (fun c' => am_zn G sh S (am_Z G sh S n) c' Q) l) = _; rw [am_a3_eq]; rfl
  | some (ob, .inr (.inl (c', K))) => rfl
  | some (ob, .inr (.inr (h, o))) => rfl
theorem am_zn_1 {G : am_G} {sh : List am_D} {S : List Nat} {F : am_C → am_Q → Prop} {μ pc nc : Nat} {lo : List (Option Value)} {st : List Value} {h : am_S} {Q : am_Q} : am_zn G sh S F (μ, pc, nc, lo, st, h) Q = if am_mem S pc = true then am_AW G sh (μ, pc, nc, lo, st, h) Q else F (μ, pc, nc, lo, st, h) Q := rfl
theorem am_Z0 {G : am_G} {sh : List am_D} {S : List Nat} {c : am_C} {Q : am_Q} : am_Z G sh S 0 c Q = am_AW G sh c Q := rfl
/-! numbers in the code -/
theorem am_f0 : ((0 : Fin 4)).val = 0 := rfl
theorem am_f1 : ((1 : Fin 4)).val = 1 := rfl
theorem am_f2 : ((2 : Fin 4)).val = 2 := rfl
theorem am_f3 : ((3 : Fin 4)).val = 3 := rfl
theorem am_cm1 : Int32.ofInt (-1) = -1 := by decide
theorem am_c0 : Int32.ofInt 0 = nI 0 := by decide
theorem am_c1 : Int32.ofInt 1 = nI 1 := by decide
theorem am_c2 : Int32.ofInt 2 = nI 2 := by decide
theorem am_c3 : Int32.ofInt 3 = nI 3 := by decide
theorem am_c20 : (Int8.ofInt 20).toInt32 = nI 20 := by decide
theorem am_c40 : (Int8.ofInt 40).toInt32 = nI 40 := by decide
theorem am_c400 : (Int16.ofInt 400).toInt32 = nI 400 := by decide
theorem am_c401 : (Int16.ofInt 401).toInt32 = nI 401 := by decide
theorem am_c1600 : (Int16.ofInt 1600).toInt32 = nI 1600 := by decide
theorem am_b0 : (nI 0 = 0 ∨ nI 0 = 1) = True := by simp [nI_0]
theorem am_b1 : (nI 1 = 0 ∨ nI 1 = 1) = True := eq_true (Or.inr (by decide))
theorem am_vs {α : Type} (f : Nat → α) (k : Nat) (v : α) : va_up f k v k = v := by simp [va_up]
theorem am_vn {α : Type} {f : Nat → α} {k j : Nat} {v : α} (h : j ≠ k) : va_up f k v j = f j := by simp [va_up, h]
theorem am_tl0 : (none : Option Value).toList = [] := rfl
theorem am_tl1 (v : Value) : (some v).toList = [v] := rfl
theorem am_l1 : Int64.ofNat ((1 : Fin 2)).val = lN 1 := rfl
