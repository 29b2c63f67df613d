/-! A HEAP OF A FIXED SHAPE, whose ints alone change: hp sh s, with the state s = (ints of objects, contents of arrays). hp_go: from pc on the method ends with the answer r and the state s1. -/
abbrev hp_S : Type := (Nat → Nat → Int32) × (Nat → Nat → Int32)
abbrev hp_Sh : Type := List ((FieldType × Nat) ⊕ (Nat × List (Option Nat)))
def hs_I (s : hp_S) (a k : Nat) : Int32 := s.1 a k
def hs_A (s : hp_S) (a i : Nat) : Int32 := s.2 a i
def hs_pI (s : hp_S) (a k : Nat) (v : Int32) : hp_S := (fun b => if b = a then upd (s.1 a) k v else s.1 b, s.2)
def hs_pA (s : hp_S) (a i : Nat) (v : Int32) : hp_S := (s.1, fun b => if b = a then upd (s.2 a) i v else s.2 b)
def hp_f (s : hp_S) (a : Nat) : Nat → List (Option Nat) → List Value
  | _, [] => []
  | k, none :: fs => .int (hs_I s a k) :: hp_f s a (k + 1) fs
  | k, some h :: fs => .ref h :: hp_f s a (k + 1) fs
def hp_h (s : hp_S) : Nat → hp_Sh → pm_H
  | _, [] => []
  | a, .inl q :: sh => .inl (q.1, q.2, hs_A s a) :: hp_h s (a + 1) sh
  | a, .inr q :: sh => .inr (q.1, hp_f s a 0 q.2) :: hp_h s (a + 1) sh
def hp (sh : hp_Sh) (s : hp_S) : pm_H := hp_h s 0 sh
def hp_t (sh : hp_Sh) : Nat := (sh.map fun c => match c with
  | .inl q => q.2
  | .inr q => q.2.length).sum
theorem hp_f_get {s : hp_S} {a : Nat} : ∀ (fs : List (Option Nat)) (k0 k : Nat), (hp_f s a k0 fs)[k]? = fs[k]?.map (fun f => match f with
    | none => .int (hs_I s a (k0 + k))
    | some h => .ref h)
  | [], _, _ => by simp [hp_f]
  | none :: fs, k0, 0 => by simp [hp_f]
  | some h :: fs, k0, 0 => by simp [hp_f]
  | none :: fs, k0, k + 1 => by
    simp only [hp_f, List.getElem?_cons_succ, hp_f_get fs (k0 + 1) k]
    rw [show k0 + 1 + k = k0 + (k + 1) by omega]
  | some h :: fs, k0, k + 1 => by
    simp only [hp_f, List.getElem?_cons_succ, hp_f_get fs (k0 + 1) k]
    rw [show k0 + 1 + k = k0 + (k + 1) by omega]
theorem hp_f_len {s : hp_S} {a : Nat} : ∀ (fs : List (Option Nat)) (k0 : Nat), (hp_f s a k0 fs).length = fs.length
  | [], _ => rfl
  | none :: fs, k0 => by simp [hp_f, hp_f_len fs]
  | some h :: fs, k0 => by simp [hp_f, hp_f_len fs]
theorem hp_h_get {s : hp_S} : ∀ (sh : hp_Sh) (a0 a : Nat), (hp_h s a0 sh)[a]? = sh[a]?.map (fun c => match c with
    | .inl q => .inl (q.1, q.2, hs_A s (a0 + a))
    | .inr q => .inr (q.1, hp_f s (a0 + a) 0 q.2))
  | [], _, _ => by simp [hp_h]
  | .inl q :: sh, a0, 0 => by simp [hp_h]
  | .inr q :: sh, a0, 0 => by simp [hp_h]
  | .inl q :: sh, a0, a + 1 => by
    simp only [hp_h, List.getElem?_cons_succ, hp_h_get sh (a0 + 1) a]
    rw [show a0 + 1 + a = a0 + (a + 1) by omega]
  | .inr q :: sh, a0, a + 1 => by
    simp only [hp_h, List.getElem?_cons_succ, hp_h_get sh (a0 + 1) a]
    rw [show a0 + 1 + a = a0 + (a + 1) by omega]
theorem hp_h_len {s : hp_S} : ∀ (sh : hp_Sh) (a0 : Nat), (hp_h s a0 sh).length = sh.length
  | [], _ => rfl
  | .inl q :: sh, a0 => by simp [hp_h, hp_h_len sh]
  | .inr q :: sh, a0 => by simp [hp_h, hp_h_len sh]
theorem hp_len {sh : hp_Sh} {s : hp_S} : (hp sh s).length = sh.length := hp_h_len sh 0
theorem hp_h_tot {s : hp_S} : ∀ (sh : hp_Sh) (a0 : Nat), pm_tot (hp_h s a0 sh) = hp_t sh
  | [], _ => rfl
  | .inl q :: sh, a0 => by
    have ih := hp_h_tot (s := s) sh (a0 + 1)
    simp only [pm_tot, hp_t, hp_h, List.map_cons, List.sum_cons, pm_sz] at ih ⊢
    rw [ih]
  | .inr q :: sh, a0 => by
    have ih := hp_h_tot (s := s) sh (a0 + 1)
    simp only [pm_tot, hp_t, hp_h, List.map_cons, List.sum_cons, pm_sz, hp_f_len] at ih ⊢
    rw [ih]
theorem hp_tot {sh : hp_Sh} {s : hp_S} : pm_tot (hp sh s) = hp_t sh := hp_h_tot sh 0
theorem hp_obj {sh : hp_Sh} {s : hp_S} {a ci : Nat} {fs : List (Option Nat)} (h : sh[a]? = some (.inr (ci, fs))) : (hp sh s)[a]? = some (.inr (ci, hp_f s a 0 fs)) := by
  simp [hp, hp_h_get, h]
theorem hp_arr {sh : hp_Sh} {s : hp_S} {a n : Nat} {ty : FieldType} (h : sh[a]? = some (.inl (ty, n))) : (hp sh s)[a]? = some (.inl (ty, n, hs_A s a)) := by
  simp [hp, hp_h_get, h]
theorem hp_setI {sh : hp_Sh} {s : hp_S} {a ci k : Nat} {fs : List (Option Nat)} {v : Int32} (h : sh[a]? = some (.inr (ci, fs))) (hk : fs[k]? = some none) : (hp sh s).set a (.inr (ci, (hp_f s a 0 fs).set k (.int v))) = hp sh (hs_pI s a k v) := by
  apply List.ext_getElem?
  intro j
  obtain ⟨hl, -⟩ := List.getElem?_eq_some_iff.mp h
  obtain ⟨hlk, -⟩ := List.getElem?_eq_some_iff.mp hk
  rw [List.getElem?_set, hp_len]
  by_cases hj : a = j
  · subst hj
    rw [if_pos rfl, if_pos hl, hp_obj h]
    congr 3
    apply List.ext_getElem?
    intro i
    rw [List.getElem?_set, hp_f_get, hp_f_get, hp_f_len]
    by_cases hi : k = i
    · subst hi
      rw [if_pos rfl, if_pos hlk, hk]
      simp [hs_I, hs_pI, upd]
    · rw [if_neg hi]
      cases fs[i]? with
      | none => rfl
      | some f =>
        cases f with
        | some h => rfl
        | none =>
          have hi2 : ¬ i = k := fun e => hi e.symm
          simp [hs_I, hs_pI, upd, hi2]
  · rw [if_neg hj, hp, hp, hp_h_get, hp_h_get]
    have hj2 : ¬ j = a := fun e => hj e.symm
    cases sh[j]? with
    | none => rfl
    | some c =>
      cases c with
      | inl q => rfl
      | inr q =>
        simp only [Option.map_some, Nat.zero_add]
        congr 3
        apply List.ext_getElem?
        intro i
        rw [hp_f_get, hp_f_get]
        cases q.2[i]? with
        | none => rfl
        | some f =>
          cases f with
          | some h => rfl
          | none => simp [hs_I, hs_pI, hj2]
theorem hp_f_pA {s : hp_S} {a i b k0 : Nat} {v : Int32} {fs : List (Option Nat)} : hp_f (hs_pA s a i v) b k0 fs = hp_f s b k0 fs := by
  apply List.ext_getElem?
  intro j
  rw [hp_f_get, hp_f_get]
  rfl
theorem hp_setA {sh : hp_Sh} {s : hp_S} {a n i : Nat} {ty : FieldType} {v : Int32} (h : sh[a]? = some (.inl (ty, n))) : (hp sh s).set a (.inl (ty, n, upd (hs_A s a) i v)) = hp sh (hs_pA s a i v) := by
  apply List.ext_getElem?
  intro j
  obtain ⟨hl, -⟩ := List.getElem?_eq_some_iff.mp h
  rw [List.getElem?_set, hp_len]
  by_cases hj : a = j
  · subst hj
    rw [if_pos rfl, if_pos hl, hp_arr h]
    have e : hs_A (hs_pA s a i v) a = upd (hs_A s a) i v := by
      funext q
      simp [hs_A, hs_pA, upd]
    rw [e]
  · rw [if_neg hj, hp, hp, hp_h_get, hp_h_get]
    have hj2 : ¬ j = a := fun e => hj e.symm
    cases sh[j]? with
    | none => rfl
    | some c =>
      cases c with
      | inl q =>
        simp only [Option.map_some, Nat.zero_add]
        have e : hs_A (hs_pA s a i v) j = hs_A s j := by
          funext q
          simp [hs_A, hs_pA, hj2]
        rw [e]
      | inr q =>
        simp only [Option.map_some, hp_f_pA]
def hp_Q (sh : hp_Sh) (r : Option Value) (s1 : hp_S) (ad : Nat → Nat) : (Nat → Nat) → Option Value → pm_H → Prop := fun ad' r' σ => ad' = ad ∧ r' = r ∧ σ = hp sh s1
def hp_go (sh : hp_Sh) (me : pm_Me) (d : Nat) (r : Option Value) (s1 : hp_S) (pc : Nat) (L : List (Nat × Value)) (S : List Value) (s : hp_S) : Prop :=
  ∀ ad, pm_wp me d sh.length (hp_t sh) (hp_Q sh r s1 ad) ad pc L S (hp sh s)
/-- a method's contract: the answer and the state behind it -/
def hp_is (sh : hp_Sh) (me : pm_Me) (d : Nat) (As : List Value) (s : hp_S) (r : Option Value) (s1 : hp_S) : Prop :=
  ∀ ad, pm_met me d sh.length (hp_t sh) (hp_Q sh r s1 ad) ad As (hp sh s)
theorem hp_of {sh : hp_Sh} {me : pm_Me} {d : Nat} {As : List Value} {s : hp_S} {r : Option Value} {s1 : hp_S} (L : List (Nat × Value)) (hy : plainName me.1.cls = true) (hA : (lg_sl As).length ≤ me.2.2.1) (hL : lv_args 0 As = L) (h : hp_go sh me d r s1 0 L [] s) : hp_is sh me d As s r s1 :=
  fun ad => pm_met_of L (by rw [hp_len]; exact Nat.le_refl _) (by rw [hp_tot]; exact Nat.le_refl _) hy hA hL (h ad)
/-- an index is in a row -/
def pm_ib (i : Int32) (n : Nat) : Bool := !(decide (i < 0)) && decide (i.toNatClampNeg < n)
theorem pm_ib_in {i : Int32} {n : Nat} (h : pm_ib i n = true) : vp_in i n := by
  simp only [pm_ib, Bool.and_eq_true, Bool.not_eq_true', decide_eq_false_iff_not, decide_eq_true_eq] at h
  intro q
  rcases q with q | q
  · exact h.1 q
  · omega
def pm_let {α β : Type} (a : α) (f : α → β) : β := f a
theorem pm_let_i {α β : Type} {a : α} {f : α → β} {y : β} (h : pm_let a f = y) : f a = y := h
def pm_bd {α β γ : Type} (x : Option (α × β)) (f : α → β → Option γ) : Option γ := match x with
  | none => none
  | some q => f q.1 q.2
theorem pm_bd_i {α β γ : Type} {x : Option (α × β)} {f : α → β → Option γ} {y : γ} (h : pm_bd x f = some y) : ∃ a b, x = some (a, b) ∧ f a b = some y := by
  cases x with
  | none => cases h
  | some q => exact ⟨q.1, q.2, rfl, h⟩
def pm_b1 {α γ : Type} (x : Option α) (f : α → Option γ) : Option γ := match x with
  | none => none
  | some q => f q
theorem pm_b1_i {α γ : Type} {x : Option α} {f : α → Option γ} {y : γ} (h : pm_b1 x f = some y) : ∃ a, x = some a ∧ f a = some y := by
  cases x with
  | none => cases h
  | some q => exact ⟨q, rfl, h⟩
def pm_gd1 {γ : Type} (c : Bool) (x : Option γ) : Option γ := match c with
  | true => x
  | false => none
theorem pm_gd_i {γ : Type} {c : Bool} {x : Option γ} {y : γ} (h : pm_gd1 c x = some y) : c = true ∧ x = some y := by
  cases c with
  | true => exact ⟨rfl, h⟩
  | false => cases h
theorem pm_ne0 {y : Int32} (h : (!decide (y = 0)) = true) : ¬ y = 0 := by simpa using h
section HQ
variable {sh : hp_Sh} {me : pm_Me} {d : Nat} {r : Option Value} {s1 : hp_S} {pc : Nat} {L : List (Nat × Value)} {S : List Value} {s : hp_S}
theorem hq_iconst {n : Int} {v : Int32} (hd : decode me.2.1 pc = .ok (.iconst n, 1)) (hv : Int32.ofInt n = v) (k : hp_go sh me d r s1 (pc + 1) L (.int v :: S) s) : hp_go sh me d r s1 pc L (S) s :=
  fun ad => ps_iconst hd hv (k ad)
theorem hq_bipush {n : Int} {v : Int32} (hd : decode me.2.1 pc = .ok (.bipush n, 2)) (hv : (Int8.ofInt n).toInt32 = v) (k : hp_go sh me d r s1 (pc + 2) L (.int v :: S) s) : hp_go sh me d r s1 pc L (S) s :=
  fun ad => ps_bipush hd hv (k ad)
theorem hq_sipush {n : Int} {v : Int32} (hd : decode me.2.1 pc = .ok (.sipush n, 3)) (hv : (Int16.ofInt n).toInt32 = v) (k : hp_go sh me d r s1 (pc + 3) L (.int v :: S) s) : hp_go sh me d r s1 pc L (S) s :=
  fun ad => ps_sipush hd hv (k ad)
theorem hq_lconst {n : Fin 2} {v : Int64} (hd : decode me.2.1 pc = .ok (.lconst n, 1)) (hv : Int64.ofNat (n : Nat) = v) (k : hp_go sh me d r s1 (pc + 1) L (.long v :: S) s) : hp_go sh me d r s1 pc L (S) s :=
  fun ad => ps_lconst hd hv (k ad)
theorem hq_iload_n {q : Fin 4} {i : Nat} {x : Int32} (hd : decode me.2.1 pc = .ok (.iload_n q, 1)) (hi : (q : Nat) = i) (j : Nat) (hj : L[j]? = some (i, .int x)) (k : hp_go sh me d r s1 (pc + 1) L (.int x :: S) s) : hp_go sh me d r s1 pc L (S) s :=
  fun ad => ps_iload_n hd hi j hj (k ad)
theorem hq_iload {i : Nat} {x : Int32} (hd : decode me.2.1 pc = .ok (.iload i, 2)) (j : Nat) (hj : L[j]? = some (i, .int x)) (k : hp_go sh me d r s1 (pc + 2) L (.int x :: S) s) : hp_go sh me d r s1 pc L (S) s :=
  fun ad => ps_iload hd j hj (k ad)
theorem hq_lload_n {q : Fin 4} {i : Nat} {x : Int64} (hd : decode me.2.1 pc = .ok (.lload_n q, 1)) (hi : (q : Nat) = i) (j : Nat) (hj : L[j]? = some (i, .long x)) (k : hp_go sh me d r s1 (pc + 1) L (.long x :: S) s) : hp_go sh me d r s1 pc L (S) s :=
  fun ad => ps_lload_n hd hi j hj (k ad)
theorem hq_lload {i : Nat} {x : Int64} (hd : decode me.2.1 pc = .ok (.lload i, 2)) (j : Nat) (hj : L[j]? = some (i, .long x)) (k : hp_go sh me d r s1 (pc + 2) L (.long x :: S) s) : hp_go sh me d r s1 pc L (S) s :=
  fun ad => ps_lload hd j hj (k ad)
theorem hq_aload_n {q : Fin 4} {i : Nat} {x : Nat} (hd : decode me.2.1 pc = .ok (.aload_n q, 1)) (hi : (q : Nat) = i) (j : Nat) (hj : L[j]? = some (i, .ref x)) (k : hp_go sh me d r s1 (pc + 1) L (.ref x :: S) s) : hp_go sh me d r s1 pc L (S) s :=
  fun ad => ps_aload_n hd hi j hj (k ad)
theorem hq_aload {i : Nat} {x : Nat} (hd : decode me.2.1 pc = .ok (.aload i, 2)) (j : Nat) (hj : L[j]? = some (i, .ref x)) (k : hp_go sh me d r s1 (pc + 2) L (.ref x :: S) s) : hp_go sh me d r s1 pc L (S) s :=
  fun ad => ps_aload hd j hj (k ad)
theorem hq_istore_n {q : Fin 4} {i : Nat} {x : Int32} {L1 : List (Nat × Value)} (hd : decode me.2.1 pc = .ok (.istore_n q, 1)) (hi : (q : Nat) = i) (hn : i < me.2.2.1) (hL : (i, Value.int x) :: L.filter (fun q => !(q.1 == i) && !(q.1 + 1 == i && q.2.category == 2)) = L1) (k : hp_go sh me d r s1 (pc + 1) L1 S s) : hp_go sh me d r s1 pc L (.int x :: S) s :=
  fun ad => ps_istore_n hd hi hn hL (k ad)
theorem hq_istore {i : Nat} {x : Int32} {L1 : List (Nat × Value)} (hd : decode me.2.1 pc = .ok (.istore i, 2)) (hn : i < me.2.2.1) (hL : (i, Value.int x) :: L.filter (fun q => !(q.1 == i) && !(q.1 + 1 == i && q.2.category == 2)) = L1) (k : hp_go sh me d r s1 (pc + 2) L1 S s) : hp_go sh me d r s1 pc L (.int x :: S) s :=
  fun ad => ps_istore hd hn hL (k ad)
theorem hq_lstore_n {q : Fin 4} {i : Nat} {x : Int64} {L1 : List (Nat × Value)} (hd : decode me.2.1 pc = .ok (.lstore_n q, 1)) (hi : (q : Nat) = i) (hn : i + 1 < me.2.2.1) (hL : (i, Value.long x) :: L.filter (fun q => !(q.1 == i) && (!(q.1 == i + 1) && !(q.1 + 1 == i && q.2.category == 2))) = L1) (k : hp_go sh me d r s1 (pc + 1) L1 S s) : hp_go sh me d r s1 pc L (.long x :: S) s :=
  fun ad => ps_lstore_n hd hi hn hL (k ad)
theorem hq_lstore {i : Nat} {x : Int64} {L1 : List (Nat × Value)} (hd : decode me.2.1 pc = .ok (.lstore i, 2)) (hn : i + 1 < me.2.2.1) (hL : (i, Value.long x) :: L.filter (fun q => !(q.1 == i) && (!(q.1 == i + 1) && !(q.1 + 1 == i && q.2.category == 2))) = L1) (k : hp_go sh me d r s1 (pc + 2) L1 S s) : hp_go sh me d r s1 pc L (.long x :: S) s :=
  fun ad => ps_lstore hd hn hL (k ad)
theorem hq_astore_n {q : Fin 4} {i : Nat} {x : Nat} {L1 : List (Nat × Value)} (hd : decode me.2.1 pc = .ok (.astore_n q, 1)) (hi : (q : Nat) = i) (hn : i < me.2.2.1) (hL : (i, Value.ref x) :: L.filter (fun q => !(q.1 == i) && !(q.1 + 1 == i && q.2.category == 2)) = L1) (k : hp_go sh me d r s1 (pc + 1) L1 S s) : hp_go sh me d r s1 pc L (.ref x :: S) s :=
  fun ad => ps_astore_n hd hi hn hL (k ad)
theorem hq_astore {i : Nat} {x : Nat} {L1 : List (Nat × Value)} (hd : decode me.2.1 pc = .ok (.astore i, 2)) (hn : i < me.2.2.1) (hL : (i, Value.ref x) :: L.filter (fun q => !(q.1 == i) && !(q.1 + 1 == i && q.2.category == 2)) = L1) (k : hp_go sh me d r s1 (pc + 2) L1 S s) : hp_go sh me d r s1 pc L (.ref x :: S) s :=
  fun ad => ps_astore hd hn hL (k ad)
theorem hq_iinc {i : Nat} {n : Int} {x v : Int32} {L1 : List (Nat × Value)} (hd : decode me.2.1 pc = .ok (.iinc i n, 3)) (j : Nat) (hj : L[j]? = some (i, .int x)) (hv : x + Int32.ofInt n = v) (hn : i < me.2.2.1) (hL : (i, Value.int v) :: L.filter (fun q => !(q.1 == i) && !(q.1 + 1 == i && q.2.category == 2)) = L1) (k : hp_go sh me d r s1 (pc + 3) L1 S s) : hp_go sh me d r s1 pc L S s :=
  fun ad => ps_iinc hd j hj hv hn hL (k ad)
theorem hq_iadd {x y : Int32} (hd : decode me.2.1 pc = .ok (.iadd, 1)) (k : hp_go sh me d r s1 (pc + 1) L (.int (x + y) :: S) s) : hp_go sh me d r s1 pc L (.int y :: .int x :: S) s :=
  fun ad => ps_iadd hd (k ad)
theorem hq_isub {x y : Int32} (hd : decode me.2.1 pc = .ok (.isub, 1)) (k : hp_go sh me d r s1 (pc + 1) L (.int (x - y) :: S) s) : hp_go sh me d r s1 pc L (.int y :: .int x :: S) s :=
  fun ad => ps_isub hd (k ad)
theorem hq_imul {x y : Int32} (hd : decode me.2.1 pc = .ok (.imul, 1)) (k : hp_go sh me d r s1 (pc + 1) L (.int (x * y) :: S) s) : hp_go sh me d r s1 pc L (.int y :: .int x :: S) s :=
  fun ad => ps_imul hd (k ad)
theorem hq_iand {x y : Int32} (hd : decode me.2.1 pc = .ok (.iand, 1)) (k : hp_go sh me d r s1 (pc + 1) L (.int (x &&& y) :: S) s) : hp_go sh me d r s1 pc L (.int y :: .int x :: S) s :=
  fun ad => ps_iand hd (k ad)
theorem hq_ishl {x y : Int32} (hd : decode me.2.1 pc = .ok (.ishl, 1)) (k : hp_go sh me d r s1 (pc + 1) L (.int (x <<< (y &&& 31)) :: S) s) : hp_go sh me d r s1 pc L (.int y :: .int x :: S) s :=
  fun ad => ps_ishl hd (k ad)
theorem hq_idiv {x y : Int32} (hd : decode me.2.1 pc = .ok (.idiv, 1)) (hz : ¬ y = 0) (k : hp_go sh me d r s1 (pc + 1) L (.int (x / y) :: S) s) : hp_go sh me d r s1 pc L (.int y :: .int x :: S) s :=
  fun ad => ps_idiv hd hz (k ad)
theorem hq_irem {x y : Int32} (hd : decode me.2.1 pc = .ok (.irem, 1)) (hz : ¬ y = 0) (k : hp_go sh me d r s1 (pc + 1) L (.int (x - x / y * y) :: S) s) : hp_go sh me d r s1 pc L (.int y :: .int x :: S) s :=
  fun ad => ps_irem hd hz (k ad)
theorem hq_land {x y : Int64} (hd : decode me.2.1 pc = .ok (.land, 1)) (k : hp_go sh me d r s1 (pc + 1) L (.long (x &&& y) :: S) s) : hp_go sh me d r s1 pc L (.long y :: .long x :: S) s :=
  fun ad => ps_land hd (k ad)
theorem hq_lor {x y : Int64} (hd : decode me.2.1 pc = .ok (.lor, 1)) (k : hp_go sh me d r s1 (pc + 1) L (.long (x ||| y) :: S) s) : hp_go sh me d r s1 pc L (.long y :: .long x :: S) s :=
  fun ad => ps_lor hd (k ad)
theorem hq_lushr {x : Int64} {y : Int32} (hd : decode me.2.1 pc = .ok (.lushr, 1)) (k : hp_go sh me d r s1 (pc + 1) L (.long ((x.toUInt64 >>> (y.toInt64.toUInt64 &&& Int64.toUInt64 63)).toInt64) :: S) s) : hp_go sh me d r s1 pc L (.int y :: .long x :: S) s :=
  fun ad => ps_lushr hd (k ad)
theorem hq_lshl {x : Int64} {y : Int32} (hd : decode me.2.1 pc = .ok (.lshl, 1)) (k : hp_go sh me d r s1 (pc + 1) L (.long (x <<< (y.toInt64 &&& 63)) :: S) s) : hp_go sh me d r s1 pc L (.int y :: .long x :: S) s :=
  fun ad => ps_lshl hd (k ad)
theorem hq_lshr {x : Int64} {y : Int32} (hd : decode me.2.1 pc = .ok (.lshr, 1)) (k : hp_go sh me d r s1 (pc + 1) L (.long (x >>> (y.toInt64 &&& 63)) :: S) s) : hp_go sh me d r s1 pc L (.int y :: .long x :: S) s :=
  fun ad => ps_lshr hd (k ad)
theorem hq_i2l {x : Int32} (hd : decode me.2.1 pc = .ok (.i2l, 1)) (k : hp_go sh me d r s1 (pc + 1) L (.long x.toInt64 :: S) s) : hp_go sh me d r s1 pc L (.int x :: S) s :=
  fun ad => ps_i2l hd (k ad)
theorem hq_l2i {x : Int64} (hd : decode me.2.1 pc = .ok (.l2i, 1)) (k : hp_go sh me d r s1 (pc + 1) L (.int x.toInt32 :: S) s) : hp_go sh me d r s1 pc L (.long x :: S) s :=
  fun ad => ps_l2i hd (k ad)
theorem hq_i2b {x : Int32} (hd : decode me.2.1 pc = .ok (.i2b, 1)) (k : hp_go sh me d r s1 (pc + 1) L (.int x.toInt8.toInt32 :: S) s) : hp_go sh me d r s1 pc L (.int x :: S) s :=
  fun ad => ps_i2b hd (k ad)
theorem hq_i2c {x : Int32} (hd : decode me.2.1 pc = .ok (.i2c, 1)) (k : hp_go sh me d r s1 (pc + 1) L (.int (x.toUInt32 % 65536).toInt32 :: S) s) : hp_go sh me d r s1 pc L (.int x :: S) s :=
  fun ad => ps_i2c hd (k ad)
theorem hq_ishr {x y : Int32} (hd : decode me.2.1 pc = .ok (.ishr, 1)) (k : hp_go sh me d r s1 (pc + 1) L (.int (x >>> (y &&& 31)) :: S) s) : hp_go sh me d r s1 pc L (.int y :: .int x :: S) s :=
  fun ad => ps_ishr hd (k ad)
theorem hq_lcmp {x y : Int64} (hd : decode me.2.1 pc = .ok (.lcmp, 1)) (k : hp_go sh me d r s1 (pc + 1) L (.int (lg_cmp x y) :: S) s) : hp_go sh me d r s1 pc L (.long y :: .long x :: S) s :=
  fun ad => ps_lcmp hd (k ad)
theorem hq_dup {u : Value} (hd : decode me.2.1 pc = .ok (.dup, 1)) (hu : u.category = 1) (k : hp_go sh me d r s1 (pc + 1) L (u :: u :: S) s) : hp_go sh me d r s1 pc L (u :: S) s :=
  fun ad => ps_dup hd hu (k ad)
theorem hq_pop {u : Value} (hd : decode me.2.1 pc = .ok (.pop, 1)) (hu : u.category = 1) (k : hp_go sh me d r s1 (pc + 1) L (S) s) : hp_go sh me d r s1 pc L (u :: S) s :=
  fun ad => ps_pop hd hu (k ad)
theorem hq_dup2 {u w : Value} (hd : decode me.2.1 pc = .ok (.dup2, 1)) (hu : u.category = 1) (hw : w.category = 1) (k : hp_go sh me d r s1 (pc + 1) L (u :: w :: u :: w :: S) s) : hp_go sh me d r s1 pc L (u :: w :: S) s :=
  fun ad => ps_dup2 hd hu hw (k ad)
theorem hq_if_eq {x : Int32} {off : Int} (tgt : Nat) (hd : decode me.2.1 pc = .ok (.ifCond .eq off, 3)) (ht : (pc : Int) + off = (tgt : Int)) (kt : x = 0 → hp_go sh me d r s1 tgt L S s) (kf : ¬ x = 0 → hp_go sh me d r s1 (pc + 3) L S s) : hp_go sh me d r s1 pc L (.int x :: S) s :=
  fun ad => ps_if_eq tgt hd ht (fun h => kt h ad) (fun h => kf h ad)
theorem hq_if_ne {x : Int32} {off : Int} (tgt : Nat) (hd : decode me.2.1 pc = .ok (.ifCond .ne off, 3)) (ht : (pc : Int) + off = (tgt : Int)) (kt : ¬ x = 0 → hp_go sh me d r s1 tgt L S s) (kf : x = 0 → hp_go sh me d r s1 (pc + 3) L S s) : hp_go sh me d r s1 pc L (.int x :: S) s :=
  fun ad => ps_if_ne tgt hd ht (fun h => kt h ad) (fun h => kf h ad)
theorem hq_if_lt {x : Int32} {off : Int} (tgt : Nat) (hd : decode me.2.1 pc = .ok (.ifCond .lt off, 3)) (ht : (pc : Int) + off = (tgt : Int)) (kt : x < 0 → hp_go sh me d r s1 tgt L S s) (kf : ¬ x < 0 → hp_go sh me d r s1 (pc + 3) L S s) : hp_go sh me d r s1 pc L (.int x :: S) s :=
  fun ad => ps_if_lt tgt hd ht (fun h => kt h ad) (fun h => kf h ad)
theorem hq_if_ge {x : Int32} {off : Int} (tgt : Nat) (hd : decode me.2.1 pc = .ok (.ifCond .ge off, 3)) (ht : (pc : Int) + off = (tgt : Int)) (kt : 0 ≤ x → hp_go sh me d r s1 tgt L S s) (kf : ¬ 0 ≤ x → hp_go sh me d r s1 (pc + 3) L S s) : hp_go sh me d r s1 pc L (.int x :: S) s :=
  fun ad => ps_if_ge tgt hd ht (fun h => kt h ad) (fun h => kf h ad)
theorem hq_if_gt {x : Int32} {off : Int} (tgt : Nat) (hd : decode me.2.1 pc = .ok (.ifCond .gt off, 3)) (ht : (pc : Int) + off = (tgt : Int)) (kt : 0 < x → hp_go sh me d r s1 tgt L S s) (kf : ¬ 0 < x → hp_go sh me d r s1 (pc + 3) L S s) : hp_go sh me d r s1 pc L (.int x :: S) s :=
  fun ad => ps_if_gt tgt hd ht (fun h => kt h ad) (fun h => kf h ad)
theorem hq_if_le {x : Int32} {off : Int} (tgt : Nat) (hd : decode me.2.1 pc = .ok (.ifCond .le off, 3)) (ht : (pc : Int) + off = (tgt : Int)) (kt : x ≤ 0 → hp_go sh me d r s1 tgt L S s) (kf : ¬ x ≤ 0 → hp_go sh me d r s1 (pc + 3) L S s) : hp_go sh me d r s1 pc L (.int x :: S) s :=
  fun ad => ps_if_le tgt hd ht (fun h => kt h ad) (fun h => kf h ad)
theorem hq_icmp_eq {x y : Int32} {off : Int} (tgt : Nat) (hd : decode me.2.1 pc = .ok (.if_icmp .eq off, 3)) (ht : (pc : Int) + off = (tgt : Int)) (kt : x = y → hp_go sh me d r s1 tgt L S s) (kf : ¬ x = y → hp_go sh me d r s1 (pc + 3) L S s) : hp_go sh me d r s1 pc L (.int y :: .int x :: S) s :=
  fun ad => ps_icmp_eq tgt hd ht (fun h => kt h ad) (fun h => kf h ad)
theorem hq_icmp_ne {x y : Int32} {off : Int} (tgt : Nat) (hd : decode me.2.1 pc = .ok (.if_icmp .ne off, 3)) (ht : (pc : Int) + off = (tgt : Int)) (kt : ¬ x = y → hp_go sh me d r s1 tgt L S s) (kf : x = y → hp_go sh me d r s1 (pc + 3) L S s) : hp_go sh me d r s1 pc L (.int y :: .int x :: S) s :=
  fun ad => ps_icmp_ne tgt hd ht (fun h => kt h ad) (fun h => kf h ad)
theorem hq_icmp_lt {x y : Int32} {off : Int} (tgt : Nat) (hd : decode me.2.1 pc = .ok (.if_icmp .lt off, 3)) (ht : (pc : Int) + off = (tgt : Int)) (kt : x < y → hp_go sh me d r s1 tgt L S s) (kf : ¬ x < y → hp_go sh me d r s1 (pc + 3) L S s) : hp_go sh me d r s1 pc L (.int y :: .int x :: S) s :=
  fun ad => ps_icmp_lt tgt hd ht (fun h => kt h ad) (fun h => kf h ad)
theorem hq_icmp_ge {x y : Int32} {off : Int} (tgt : Nat) (hd : decode me.2.1 pc = .ok (.if_icmp .ge off, 3)) (ht : (pc : Int) + off = (tgt : Int)) (kt : y ≤ x → hp_go sh me d r s1 tgt L S s) (kf : ¬ y ≤ x → hp_go sh me d r s1 (pc + 3) L S s) : hp_go sh me d r s1 pc L (.int y :: .int x :: S) s :=
  fun ad => ps_icmp_ge tgt hd ht (fun h => kt h ad) (fun h => kf h ad)
theorem hq_icmp_gt {x y : Int32} {off : Int} (tgt : Nat) (hd : decode me.2.1 pc = .ok (.if_icmp .gt off, 3)) (ht : (pc : Int) + off = (tgt : Int)) (kt : y < x → hp_go sh me d r s1 tgt L S s) (kf : ¬ y < x → hp_go sh me d r s1 (pc + 3) L S s) : hp_go sh me d r s1 pc L (.int y :: .int x :: S) s :=
  fun ad => ps_icmp_gt tgt hd ht (fun h => kt h ad) (fun h => kf h ad)
theorem hq_icmp_le {x y : Int32} {off : Int} (tgt : Nat) (hd : decode me.2.1 pc = .ok (.if_icmp .le off, 3)) (ht : (pc : Int) + off = (tgt : Int)) (kt : x ≤ y → hp_go sh me d r s1 tgt L S s) (kf : ¬ x ≤ y → hp_go sh me d r s1 (pc + 3) L S s) : hp_go sh me d r s1 pc L (.int y :: .int x :: S) s :=
  fun ad => ps_icmp_le tgt hd ht (fun h => kt h ad) (fun h => kf h ad)
theorem hq_goto {off : Int} (tgt : Nat) (hd : decode me.2.1 pc = .ok (.goto off, 3)) (ht : (pc : Int) + off = (tgt : Int)) (k : hp_go sh me d r s1 tgt L S s) : hp_go sh me d r s1 pc L S s :=
  fun ad => ps_goto tgt hd ht (k ad)
theorem hq_tableIn {dflt lo hi : Int} {offs : Array Int} {len : Nat} {x : Int32} {off : Int} (tgt : Nat) (hd : decode me.2.1 pc = .ok (.tableswitch dflt lo hi offs, len)) (g1 : ¬ x.toInt < lo) (g2 : ¬ hi < x.toInt) (ho : offs[(x.toInt - lo).toNat]? = some off) (ht : (pc : Int) + off = (tgt : Int)) (k : hp_go sh me d r s1 tgt L S s) : hp_go sh me d r s1 pc L (.int x :: S) s :=
  fun ad => ps_tableIn tgt hd g1 g2 ho ht (k ad)
theorem hq_tableOut {dflt lo hi : Int} {offs : Array Int} {len : Nat} {x : Int32} (tgt : Nat) (hd : decode me.2.1 pc = .ok (.tableswitch dflt lo hi offs, len)) (g : x.toInt < lo ∨ hi < x.toInt) (ht : (pc : Int) + dflt = (tgt : Int)) (k : hp_go sh me d r s1 tgt L S s) : hp_go sh me d r s1 pc L (.int x :: S) s :=
  fun ad => ps_tableOut tgt hd g ht (k ad)
theorem hq_lookup {dflt : Int} {ps : Array (Int × Int)} {len : Nat} {x : Int32} {off : Int} (tgt : Nat) (hd : decode me.2.1 pc = .ok (.lookupswitch dflt ps, len)) (hp : (ps.toList.zip (ps.toList.drop 1)).all (fun (a, next) => a.1 < next.1) = true) (ho : Op.lookupswitch.offset ps.toList dflt x.toInt = off) (ht : (pc : Int) + off = (tgt : Int)) (k : hp_go sh me d r s1 tgt L S s) : hp_go sh me d r s1 pc L (.int x :: S) s :=
  fun ad => ps_lookup tgt hd hp ho ht (k ad)
theorem hq_getI {index ci a : Nat} {fs : List (Option Nat)} {fin : Bool} {ty : FieldType} (q : Nat) (hd : decode me.2.1 pc = .ok (.getfield index, 3)) (hf : pm_fl me.1.cls index ci q fin ty) (ho : sh[a]? = some (.inr (ci, fs))) (hv : fs[q]? = some none) (k : hp_go sh me d r s1 (pc + 3) L (.int (hs_I s a q) :: S) s) : hp_go sh me d r s1 pc L (.ref a :: S) s :=
  fun ad => ps_getfield q hd hf (hp_obj ho) (by rw [hp_f_get, hv]; simp) (k ad)
theorem hq_getR {index ci a h : Nat} {fs : List (Option Nat)} {fin : Bool} {ty : FieldType} (q : Nat) (hd : decode me.2.1 pc = .ok (.getfield index, 3)) (hf : pm_fl me.1.cls index ci q fin ty) (ho : sh[a]? = some (.inr (ci, fs))) (hv : fs[q]? = some (some h)) (k : hp_go sh me d r s1 (pc + 3) L (.ref h :: S) s) : hp_go sh me d r s1 pc L (.ref a :: S) s :=
  fun ad => ps_getfield q hd hf (hp_obj ho) (by rw [hp_f_get, hv]; simp) (k ad)
theorem hq_putI {index ci a : Nat} {fs : List (Option Nat)} {v : Int32} (q : Nat) (hd : decode me.2.1 pc = .ok (.putfield index, 3)) (hf : pm_fl me.1.cls index ci q false .int) (ho : sh[a]? = some (.inr (ci, fs))) (hv : fs[q]? = some none) (k : hp_go sh me d r s1 (pc + 3) L S (hs_pI s a q v)) : hp_go sh me d r s1 pc L (.int v :: .ref a :: S) s :=
  fun ad => ps_putfield q hd hf (hp_obj ho) (by rw [hp_f_len]; exact (List.getElem?_eq_some_iff.mp hv).1) rfl rfl (hp_setI ho hv) (k ad)
/-- a boolean field: the value's lowest bit -/
theorem hq_putZ {index ci a : Nat} {fs : List (Option Nat)} {v : Int32} (q : Nat) (hd : decode me.2.1 pc = .ok (.putfield index, 3)) (hf : pm_fl me.1.cls index ci q false .boolean) (ho : sh[a]? = some (.inr (ci, fs))) (hv : fs[q]? = some none) (hn : narrow .boolean (.int v) = .int v) (hfit : fits .boolean (.int v) = true) (k : hp_go sh me d r s1 (pc + 3) L S (hs_pI s a q v)) : hp_go sh me d r s1 pc L (.int v :: .ref a :: S) s :=
  fun ad => ps_putfield q hd hf (hp_obj ho) (by rw [hp_f_len]; exact (List.getElem?_eq_some_iff.mp hv).1) hn hfit (hp_setI ho hv) (k ad)
theorem hq_iaload {a n : Nat} {i : Int32} (hd : decode me.2.1 pc = .ok (.iaload, 1)) (ho : sh[a]? = some (.inl (.int, n))) (hi : pm_ib i n = true) (k : hp_go sh me d r s1 (pc + 1) L (.int (hs_A s a i.toNatClampNeg) :: S) s) : hp_go sh me d r s1 pc L (.int i :: .ref a :: S) s :=
  fun ad => ps_iaload hd (hp_arr ho) (pm_ib_in hi) (k ad)
theorem hq_baload {a n : Nat} {i : Int32} (hd : decode me.2.1 pc = .ok (.baload, 1)) (ho : sh[a]? = some (.inl (.byte, n))) (hi : pm_ib i n = true) (k : hp_go sh me d r s1 (pc + 1) L (.int (hs_A s a i.toNatClampNeg) :: S) s) : hp_go sh me d r s1 pc L (.int i :: .ref a :: S) s :=
  fun ad => ps_baload hd (hp_arr ho) (pm_ib_in hi) (k ad)
theorem hq_zaload {a n : Nat} {i : Int32} (hd : decode me.2.1 pc = .ok (.baload, 1)) (ho : sh[a]? = some (.inl (.boolean, n))) (hi : pm_ib i n = true) (k : hp_go sh me d r s1 (pc + 1) L (.int (hs_A s a i.toNatClampNeg) :: S) s) : hp_go sh me d r s1 pc L (.int i :: .ref a :: S) s :=
  fun ad => ps_zaload hd (hp_arr ho) (pm_ib_in hi) (k ad)
theorem hq_iastore {a n : Nat} {i x : Int32} (hd : decode me.2.1 pc = .ok (.iastore, 1)) (ho : sh[a]? = some (.inl (.int, n))) (hi : pm_ib i n = true) (k : hp_go sh me d r s1 (pc + 1) L S (hs_pA s a i.toNatClampNeg x)) : hp_go sh me d r s1 pc L (.int x :: .int i :: .ref a :: S) s :=
  fun ad => ps_iastore hd (hp_arr ho) (pm_ib_in hi) (hp_setA ho) (k ad)
theorem hq_bastore {a n : Nat} {i x : Int32} (hd : decode me.2.1 pc = .ok (.bastore, 1)) (ho : sh[a]? = some (.inl (.byte, n))) (hi : pm_ib i n = true) (k : hp_go sh me d r s1 (pc + 1) L S (hs_pA s a i.toNatClampNeg (vp_nar .byte x))) : hp_go sh me d r s1 pc L (.int x :: .int i :: .ref a :: S) s :=
  fun ad => ps_bastore hd (hp_arr ho) (pm_ib_in hi) (hp_setA ho) (k ad)
theorem hq_zastore {a n : Nat} {i x : Int32} (hd : decode me.2.1 pc = .ok (.bastore, 1)) (ho : sh[a]? = some (.inl (.boolean, n))) (hi : pm_ib i n = true) (k : hp_go sh me d r s1 (pc + 1) L S (hs_pA s a i.toNatClampNeg (vp_nar .boolean x))) : hp_go sh me d r s1 pc L (.int x :: .int i :: .ref a :: S) s :=
  fun ad => ps_zastore hd (hp_arr ho) (pm_ib_in hi) (hp_setA ho) (k ad)
theorem hq_alen {a n : Nat} {ty : FieldType} {v : Int32} (t0 : Nat) (hd : decode me.2.1 pc = .ok (.arraylength, 1)) (ho : sh[a]? = some (.inl (ty, n))) (ht : ∀ cT : FieldType → ClassId, (pm_ty cT)[t0]? = some (cT ty, ty)) (hv : Int32.ofNat n = v) (k : hp_go sh me d r s1 (pc + 1) L (.int v :: S) s) : hp_go sh me d r s1 pc L (.ref a :: S) s :=
  fun ad => ps_alen t0 hd (hp_arr ho) ht hv (k ad)
theorem hq_iret {v x : Int32} (hd : decode me.2.1 pc = .ok (.ireturn, 1)) (hr : me.2.2.2 = some .int) (h : some (v, s) = some (x, s1)) : hp_go sh me d (some (.int x)) s1 pc L [.int v] s := by
  cases h
  exact fun ad => ps_iret hd hr hp_len hp_tot ⟨rfl, rfl, rfl⟩
theorem hq_zret {v x : Int32} {ty : FieldType} (hd : decode me.2.1 pc = .ok (.ireturn, 1)) (hr : me.2.2.2 = some ty) (hz : narrow ty (.int v) = .int v) (h : some (v, s) = some (x, s1)) : hp_go sh me d (some (.int x)) s1 pc L [.int v] s := by
  cases h
  exact fun ad => ps_zret hd hr hz hp_len hp_tot ⟨rfl, rfl, rfl⟩
theorem hq_lret {v x : Int64} (hd : decode me.2.1 pc = .ok (.lreturn, 1)) (hr : me.2.2.2 = some .long) (h : some (v, s) = some (x, s1)) : hp_go sh me d (some (.long x)) s1 pc L [.long v] s := by
  cases h
  exact fun ad => ps_lret hd hr hp_len hp_tot ⟨rfl, rfl, rfl⟩
theorem hq_vret (hd : decode me.2.1 pc = .ok (.return_, 1)) (hr : me.2.2.2 = none) (h : some s = some s1) : hp_go sh me d none s1 pc L [] s := by
  cases h
  exact fun ad => ps_vret hd hr hp_len hp_tot ⟨rfl, rfl, rfl⟩
theorem hq_aret {a : Nat} {rt : FieldType} (hd : decode me.2.1 pc = .ok (.areturn, 1)) (hr : me.2.2.2 = some rt) (hrt : (∃ n, rt = .object n) ∨ ∃ t, rt = .array t) (h : some s = some s1) : hp_go sh me d (some (.ref a)) s1 pc L [.ref a] s := by
  cases h
  exact fun ad => ps_aret hd hr hrt hp_len hp_tot ⟨rfl, rfl, rfl⟩
theorem hq_ldc {index : Nat} {v : Int32} (hd : decode me.2.1 pc = .ok (.ldc index, 2)) (hc : Cond.constant me.1.cls index v ∈ pm_T) (k : hp_go sh me d r s1 (pc + 2) L (.int v :: S) s) : hp_go sh me d r s1 pc L S s := fun ad => ps_ldc hd hc (k ad)
theorem hq_ldc2 {index : Nat} {v : Int64} (hd : decode me.2.1 pc = .ok (.ldc2_w index, 3)) (hc : Cond.constantLong me.1.cls index v ∈ pm_T) (k : hp_go sh me d r s1 (pc + 3) L (.long v :: S) s) : hp_go sh me d r s1 pc L S s := fun ad => ps_ldc2 hd hc (k ad)
theorem hq_ldcS {index : Nat} {tx : String} (i : Nat) (hd : decode me.2.1 pc = .ok (.ldc index, 2)) (hi : pm_refS[i]? = some (me.1.cls, index, tx)) (k : hp_go sh me d r s1 (pc + 2) L (.ref (1000 + i) :: S) s) : hp_go sh me d r s1 pc L S s := fun ad => ps_ldcS i hd hi (k ad)
theorem hp_cs {sh : hp_Sh} {s : hp_S} {r : Option Value} {s2 : hp_S} {ad : Nat → Nat} : ∀ (ad' : Nat → Nat) (r' : Option Value) (σ' : pm_H), hp_Q sh r s2 ad ad' r' σ' → pm_agree (hp sh s).length ad ad' := fun ad' r' σ' h => by
  rw [h.1]
  exact pm_agree.rf
theorem hp_ce {sh : hp_Sh} {r : Option Value} {s2 : hp_S} {ad : Nat → Nat} {L : List (Nat × Value)} {S : List Value} : ∀ (ad' : Nat → Nat) (r' : Option Value) (σ' : pm_H), hp_Q sh r s2 ad ad' r' σ' → pm_L ad' L = pm_L ad L ∧ S.map (pm_v ad') = S.map (pm_v ad) := fun ad' r' σ' h => by
  rw [h.1]
  exact ⟨rfl, rfl⟩
theorem hq_callV {cal : pm_Me} {index n a ci : Nat} {fs : List (Option Nat)} {q : vw_C} {S0 : List Value} {rv : Option Value} {s2 : hp_S} (As : List Value) (S : List Value) (hd : decode me.2.1 pc = .ok (.invokevirtual index, 3)) (hm : pm_ml me.1.cls index cal n) (hi : Cond.instanceMethod cal.1 ∈ pm_T ∧ Cond.selects cal.1.cls cal.1 cal.1 ∈ pm_T) (ho : sh[a]? = some (.inr (ci, fs))) (hc : vwCl[ci]? = some q) (hq : q.1 = cal.1.cls) (hs : S0 = As.reverse ++ .ref a :: S) (hn : As.length = n) (hw : (S.map fun v => v.category).sum ≤ 8) (hM : hp_is sh cal d (.ref a :: As) s rv s2) (k : hp_go sh me (d + 1) r s1 (pc + 3) L (rv.toList ++ S) s2) : hp_go sh me (d + 1) r s1 pc L S0 s := by
  intro ad
  refine ps_callV (S := S) As hd hm hi (Or.inl ⟨ci, _, q, hp_obj ho, hc, hq⟩) hs hn hw ⟨by rw [hp_len]; exact Nat.le_refl _, Nat.le_refl _⟩ ⟨by rw [hp_tot]; exact Nat.le_refl _, Nat.le_refl _⟩ (hM ad) (hp_cs (s := s)) hp_ce (fun ad' r' σ' h => ?_)
  obtain ⟨rfl, rfl, rfl⟩ := h
  exact k _
theorem hq_callVS {cal : pm_Me} {index n i : Nat} {S0 : List Value} {rv : Option Value} {s2 : hp_S} (As : List Value) (S : List Value) (hd : decode me.2.1 pc = .ok (.invokevirtual index, 3)) (hm : pm_ml me.1.cls index cal n) (hi : Cond.instanceMethod cal.1 ∈ pm_T ∧ Cond.selects cal.1.cls cal.1 cal.1 ∈ pm_T) (hi13 : i < 13) (hq : cal.1.cls = "java/lang/String") (hs : S0 = As.reverse ++ .ref (1000 + i) :: S) (hn : As.length = n) (hw : (S.map fun v => v.category).sum ≤ 8) (hM : hp_is sh cal d (.ref (1000 + i) :: As) s rv s2) (k : hp_go sh me (d + 1) r s1 (pc + 3) L (rv.toList ++ S) s2) : hp_go sh me (d + 1) r s1 pc L S0 s := by
  intro ad
  refine ps_callV (S := S) As hd hm hi (Or.inr ⟨i, hi13, rfl, hq⟩) hs hn hw ⟨by rw [hp_len]; exact Nat.le_refl _, Nat.le_refl _⟩ ⟨by rw [hp_tot]; exact Nat.le_refl _, Nat.le_refl _⟩ (hM ad) (hp_cs (s := s)) hp_ce (fun ad' r' σ' h => ?_)
  obtain ⟨rfl, rfl, rfl⟩ := h
  exact k _
theorem hq_callS {cal : pm_Me} {index n : Nat} {S0 : List Value} {rv : Option Value} {s2 : hp_S} (As : List Value) (S : List Value) (hd : decode me.2.1 pc = .ok (.invokestatic index, 3)) (hm : pm_ml me.1.cls index cal n) (hi : Cond.static cal.1 ∈ pm_T) (hs : S0 = As.reverse ++ S) (hn : As.length = n) (hw : (S.map fun v => v.category).sum ≤ 8) (hM : hp_is sh cal d As s rv s2) (k : hp_go sh me (d + 1) r s1 (pc + 3) L (rv.toList ++ S) s2) : hp_go sh me (d + 1) r s1 pc L S0 s := by
  intro ad
  refine ps_callS (S := S) As hd hm hi hs hn hw ⟨by rw [hp_len]; exact Nat.le_refl _, Nat.le_refl _⟩ ⟨by rw [hp_tot]; exact Nat.le_refl _, Nat.le_refl _⟩ (hM ad) (hp_cs (s := s)) hp_ce (fun ad' r' σ' h => ?_)
  obtain ⟨rfl, rfl, rfl⟩ := h
  exact k _
theorem hq_strValue {index i : Nat} (hi : i < 13) (hd : decode me.2.1 pc = .ok (.getfield index, 3)) (hl1 : Cond.fieldLink me.1.cls index "java/lang/String" "value" "[B" ∈ pm_T) (k : hp_go sh me d r s1 (pc + 3) L (.ref (2000 + i) :: S) s) : hp_go sh me d r s1 pc L (.ref (1000 + i) :: S) s := fun ad => ps_strValue hi hd hl1 (k ad)
theorem hq_strCoder {index i : Nat} (hi : i < 13) (hd : decode me.2.1 pc = .ok (.getfield index, 3)) (hl1 : Cond.fieldLink me.1.cls index "java/lang/String" "coder" "B" ∈ pm_T) (k : hp_go sh me d r s1 (pc + 3) L (.int 0 :: S) s) : hp_go sh me d r s1 pc L (.ref (1000 + i) :: S) s := fun ad => ps_strCoder hi hd hl1 (k ad)
theorem hq_compact {index : Nat} (hd : decode me.2.1 pc = .ok (.getstatic index, 3)) (hl1 : Cond.fieldLink me.1.cls index "java/lang/String" "COMPACT_STRINGS" "Z" ∈ pm_T) (k : hp_go sh me d r s1 (pc + 3) L (.int 1 :: S) s) : hp_go sh me d r s1 pc L S s := fun ad => ps_compact hd hl1 (k ad)
theorem hq_formatter {index : Nat} (hd : decode me.2.1 pc = .ok (.getstatic index, 3)) (hl1 : Cond.fieldLink me.1.cls index "jdk/internal/util/Preconditions" "SIOOBE_FORMATTER" "Ljava/util/function/BiFunction;" ∈ pm_T) (k1 : hp_go sh me d r s1 (pc + 3) L (.null :: S) s) (k2 : hp_go sh me d r s1 (pc + 3) L (.ref 3000 :: S) s) : hp_go sh me d r s1 pc L S s := fun ad => ps_formatter hd hl1 (k1 ad) (k2 ad)
theorem hq_strAt {i : Nat} {j : Int32} (hi : i < 13) (hj : pm_ib j (pm_lenS.getD i 0) = true) (hd : decode me.2.1 pc = .ok (.baload, 1)) (k : hp_go sh me d r s1 (pc + 1) L (.int ((pm_bytS.getD i []).getD j.toNatClampNeg 0) :: S) s) : hp_go sh me d r s1 pc L (.int j :: .ref (2000 + i) :: S) s := fun ad => ps_strAt hi (pm_ib_in hj) hd (k ad)
theorem hq_strLen {i : Nat} {v : Int32} (hi : i < 13) (hd : decode me.2.1 pc = .ok (.arraylength, 1)) (hv : Int32.ofNat (pm_lenS.getD i 0) = v) (k : hp_go sh me d r s1 (pc + 1) L (.int v :: S) s) : hp_go sh me d r s1 pc L (.ref (2000 + i) :: S) s := fun ad => ps_strLen hi hd hv (k ad)
end HQ
