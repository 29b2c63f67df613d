/-! THE PURE MACHINE. pm_wp: a frame of a method over a heap of numbered cells (handles), said without any word of the machine below; each rule ps_.. is one instruction. A handle k stands for the address ad k; handles from 1000 on are the String constants. -/
abbrev pm_C : Type := (FieldType × Nat × (Nat → Int32)) ⊕ (Nat × List Value)
abbrev pm_H : Type := List pm_C
abbrev pm_Me : Type := MethodName × ByteArray × Nat × Option FieldType
def pm_v (ad : Nat → Nat) : Value → Value
  | .int x => .int x
  | .long x => .long x
  | .float x => .float x
  | .double x => .double x
  | .null => .null
  | .ref a => .ref (ad a)
  | .retAddr q => .retAddr q
theorem pm_v_cat (ad : Nat → Nat) (v : Value) : (pm_v ad v).category = v.category := by cases v <;> rfl
def pm_c (ad : Nat → Nat) (cT : FieldType → ClassId) : pm_C → va_E
  | .inl a => .inl (cT a.1, a.2.1, .inl a.2.2)
  | .inr o => .inr (o.1, o.2.map (pm_v ad))
def pm_w (ad : Nat → Nat) (cT : FieldType → ClassId) (σ : pm_H) : va_W := σ.mapIdx fun k c => (ad k, pm_c ad cT c)
def pm_L (ad : Nat → Nat) (L : List (Nat × Value)) : List (Nat × Value) := L.map fun q => (q.1, pm_v ad q.2)
def pm_sz : pm_C → Nat
  | .inl a => a.2.1
  | .inr o => o.2.length
def pm_tot (σ : pm_H) : Nat := (σ.map pm_sz).sum
def pm_ty (cT : FieldType → ClassId) : List (ClassId × FieldType) := [(cT .int, .int), (cT .byte, .byte), (cT .boolean, .boolean)]
def pm_T : List Cond := lw_tbl.filter goodWord
def pm_ws (me : pm_Me) : List Cond := .code me.1 me.2.1 me.2.2.1 me.2.2.2 :: pm_T
theorem pm_in {w : Cond} (i : Nat) (h : lw_tbl[i]? = some w) (hg : goodWord w = true) : w ∈ pm_T := List.mem_filter.mpr ⟨List.mem_of_getElem? h, hg⟩
theorem pm_good {w : Cond} (h : w ∈ pm_T) : goodWord w = true := (List.mem_filter.mp h).2
theorem pm_w_get {ad : Nat → Nat} {cT : FieldType → ClassId} {σ : pm_H} {k : Nat} {c : pm_C} (h : σ[k]? = some c) : (pm_w ad cT σ)[k]? = some (ad k, pm_c ad cT c) := by
  simp [pm_w, List.getElem?_mapIdx, h]
theorem pm_w_set {ad : Nat → Nat} {cT : FieldType → ClassId} {σ : pm_H} {k : Nat} {c : pm_C} : (pm_w ad cT σ).set k (ad k, pm_c ad cT c) = pm_w ad cT (σ.set k c) := by
  apply List.ext_getElem?
  intro j
  simp only [pm_w, List.getElem?_set, List.getElem?_mapIdx, List.length_mapIdx]
  by_cases hj : k = j
  · subst hj
    by_cases hk : k < σ.length
    · simp [hk]
    · simp [hk]
  · simp [hj]
theorem pm_w_app {ad : Nat → Nat} {cT : FieldType → ClassId} {σ : pm_H} {c : pm_C} : pm_w ad cT (σ ++ [c]) = pm_w ad cT σ ++ [(ad σ.length, pm_c ad cT c)] := by
  simp [pm_w, List.mapIdx_append]
theorem pm_w_len {ad : Nat → Nat} {cT : FieldType → ClassId} {σ : pm_H} : (pm_w ad cT σ).length = σ.length := by simp [pm_w]
theorem pm_L_get {ad : Nat → Nat} {L : List (Nat × Value)} {k i : Nat} {v : Value} (h : L[k]? = some (i, v)) : (pm_L ad L)[k]? = some (i, pm_v ad v) := by
  simp [pm_L, h]
theorem pm_L_f1 {ad : Nat → Nat} {L : List (Nat × Value)} {i : Nat} : (pm_L ad L).filter (fun q => !(q.1 == i) && !(q.1 + 1 == i && q.2.category == 2)) = pm_L ad (L.filter (fun q => !(q.1 == i) && !(q.1 + 1 == i && q.2.category == 2))) := by
  rw [pm_L, pm_L, List.filter_map]
  congr 1
  apply List.filter_congr
  intro q _
  simp [pm_v_cat]
theorem pm_L_f2 {ad : Nat → Nat} {L : List (Nat × Value)} {i : Nat} : (pm_L ad L).filter (fun q => !(q.1 == i) && (!(q.1 == i + 1) && !(q.1 + 1 == i && q.2.category == 2))) = pm_L ad (L.filter (fun q => !(q.1 == i) && (!(q.1 == i + 1) && !(q.1 + 1 == i && q.2.category == 2)))) := by
  rw [pm_L, pm_L, List.filter_map]
  congr 1
  apply List.filter_congr
  intro q _
  simp [pm_v_cat]
theorem pm_L_args {ad : Nat → Nat} : ∀ (As : List Value) (i : Nat), lv_args i (As.map (pm_v ad)) = pm_L ad (lv_args i As)
  | [], _ => rfl
  | v :: vs, i => by
    simp only [List.map_cons, lv_args, pm_L, pm_v_cat]
    rw [pm_L_args vs]
    rfl
theorem pm_cats {ad : Nat → Nat} : ∀ S : List Value, ((S.map (pm_v ad)).map fun v => v.category) = S.map fun v => v.category
  | [] => rfl
  | v :: vs => by simp [pm_v_cat, pm_cats vs]
theorem pm_tot_set {σ : pm_H} {k : Nat} {c c' : pm_C} (h : σ[k]? = some c) (hs : pm_sz c' = pm_sz c) : pm_tot (σ.set k c') = pm_tot σ := by
  unfold pm_tot
  congr 1
  apply List.ext_getElem?
  intro j
  simp only [List.getElem?_map, List.getElem?_set]
  by_cases hj : k = j
  · subst hj
    obtain ⟨hk, he⟩ := List.getElem?_eq_some_iff.mp h
    simp [hk, he, hs]
  · simp [hj]
theorem pm_tot_app {σ : pm_H} {c : pm_C} : pm_tot (σ ++ [c]) = pm_tot σ + pm_sz c := by simp [pm_tot]
theorem pm_sl {ad : Nat → Nat} : ∀ As : List Value, (lg_sl (As.map (pm_v ad))).length = (lg_sl As).length
  | [] => rfl
  | v :: vs => by
    have ih := pm_sl (ad := ad) vs
    simp only [List.map_cons, lg_sl, List.flatMap_cons, List.length_append] at ih ⊢
    rw [ih]
    congr 1
    cases v <;> rfl
/-- the String constants of the class, by their places: where they are loaded, their text, its bytes -/
def pm_refS : List (String × Nat × String) := [("ErrorSlices$Tokens", 88, "fn   let  in   if   then else true falsenot  fst  snd  "), ("ErrorSlices$TypeWriter", 85, "("), ("ErrorSlices$TypeWriter", 87, ""), ("ErrorSlices$TypeWriter", 92, ") -> "), ("ErrorSlices$TypeWriter", 94, " -> "), ("ErrorSlices$TypeWriter", 99, ", "), ("ErrorSlices$TypeWriter", 101, ")"), ("ErrorSlices$TypeWriter", 68, "int"), ("ErrorSlices$TypeWriter", 74, "bool"), ("ErrorSlices", 185, ".. "), ("ErrorSlices", 187, " .. "), ("ErrorSlices", 193, " "), ("ErrorSlices", 199, " ..")]
def pm_bytS : List (List Int32) := [[102, 110, 32, 32, 32, 108, 101, 116, 32, 32, 105, 110, 32, 32, 32, 105, 102, 32, 32, 32, 116, 104, 101, 110, 32, 101, 108, 115, 101, 32, 116, 114, 117, 101, 32, 102, 97, 108, 115, 101, 110, 111, 116, 32, 32, 102, 115, 116, 32, 32, 115, 110, 100, 32, 32], [40], [], [41, 32, 45, 62, 32], [32, 45, 62, 32], [44, 32], [41], [105, 110, 116], [98, 111, 111, 108], [46, 46, 32], [32, 46, 46, 32], [32], [32, 46, 46]]
def pm_lenS : List Nat := [55, 1, 0, 5, 4, 2, 1, 3, 4, 3, 4, 1, 3]
/-- links to private constructors of nest mates -/
def pm_nest : List (String × Nat × MethodName × String) := [("ErrorSlices", 9, ⟨"ErrorSlices$Text", "<init>", "()V"⟩, "ErrorSlices"), ("ErrorSlices", 36, ⟨"ErrorSlices$Tree", "<init>", "()V"⟩, "ErrorSlices"), ("ErrorSlices", 52, ⟨"ErrorSlices$Types", "<init>", "()V"⟩, "ErrorSlices"), ("ErrorSlices", 68, ⟨"ErrorSlices$Output", "<init>", "()V"⟩, "ErrorSlices")]
/-- what stays outside of the world: the String constants and String.COMPACT_STRINGS -/
def pm_E (ad : Nat → Nat) (A : Nat → Prop) (U : State) : Prop :=
  vk_S 13 pm_lenS pm_bytS (fun i => ad (1000 + i)) (fun i => ad (2000 + i)) A U U.heap ∧ va_Z "java/lang/String" "COMPACT_STRINGS" "Z" (.int 1) A U U.heap ∧ (va_Z "jdk/internal/util/Preconditions" "SIOOBE_FORMATTER" "Ljava/util/function/BiFunction;" .null A U U.heap ∨ va_Z "jdk/internal/util/Preconditions" "SIOOBE_FORMATTER" "Ljava/util/function/BiFunction;" (.ref (ad 3000)) A U U.heap) ∧ (∀ (i : Nat) (q : String × Nat × String), pm_refS[i]? = some q → vk_R q.1 q.2.1 q.2.2 (ad (1000 + i)) U) ∧ ∀ q ∈ pm_nest, va_Nw (.methodLinkNest q.1 q.2.1 q.2.2.1 q.2.2.2) U
theorem pm_E.call {ad : Nat → Nat} {A B : Nat → Prop} {s U : State} {H : Heap} {locs : List Loc} (h : pm_E ad A s) (hS : va_S A s.heap H locs) (hU : U.heap = H) (hW : s.WarmedH U.vm) (hB : ∀ q, B q → A q) : pm_E ad B U := by
  obtain ⟨h1, h2, h4, h3, h5⟩ := h
  refine ⟨?_, ?_, ?_, fun i q hq => (h3 i q hq).warm hW, fun q hq => (h5 q hq).warmM hW⟩
  · rw [hU]
    exact ((h1.kept hS.2.1).narrow hB).moved hW.alike
  · rw [hU]
    exact ((h2.kept hS.2.1).narrow hB).moved hW.alike
  · rw [hU]
    exact h4.imp (fun h => ((h.kept hS.2.1).narrow hB).moved hW.alike) (fun h => ((h.kept hS.2.1).narrow hB).moved hW.alike)
theorem pm_E.blind {ad : Nat → Nat} {A : Nat → Prop} {U V : State} (hh : V.heap = U.heap) (hv : V.vm = U.vm) (h : pm_E ad A U) : pm_E ad A V := by
  obtain ⟨h1, h2, h4, h3, h5⟩ := h
  have ha : U.vm.Alike V.vm := by rw [hv]; exact Vm.Alike.refl U.vm
  refine ⟨?_, ?_, ?_, fun i q hq => (h3 i q hq).same hv, fun q hq => (h5 q hq).same rfl hv.symm⟩
  · rw [hh]
    exact h1.moved ha
  · rw [hh]
    exact h2.moved ha
  · rw [hh]
    exact h4.imp (fun h => h.moved ha) (fun h => h.moved ha)
/-- the same addresses, for the first n handles and for what is outside -/
def pm_agree (n : Nat) (ad ad' : Nat → Nat) : Prop := ∀ a, (a < n ∨ 1000 ≤ a) → ad' a = ad a
theorem pm_agree.rf {n : Nat} {ad : Nat → Nat} : pm_agree n ad ad := fun _ _ => rfl
theorem pm_agree.tr {n m : Nat} {ad ad' ad2 : Nat → Nat} (h : pm_agree n ad ad') (hnm : n ≤ m) (h2 : pm_agree m ad' ad2) : pm_agree n ad ad2 := fun a ha => (h2 a (by omega)).trans (h a ha)
theorem pm_E.ad {n : Nat} {ad ad' : Nat → Nat} {A : Nat → Prop} {U : State} (h : pm_E ad A U) (he : pm_agree n ad ad') : pm_E ad' A U := by
  obtain ⟨h1, h2, h4, h3, h5⟩ := h
  have e : (fun i => ad' (1000 + i)) = fun i => ad (1000 + i) := funext fun i => he _ (by omega)
  have e2 : (fun i => ad' (2000 + i)) = fun i => ad (2000 + i) := funext fun i => he _ (by omega)
  exact ⟨by rw [e, e2]; exact h1, h2, by rw [he 3000 (by omega)]; exact h4, fun i q hq => by rw [he _ (by omega)]; exact h3 i q hq, h5⟩
def pm_okv (n : Nat) : Value → Bool
  | .ref a => decide (a < n) || decide (1000 ≤ a)
  | _ => true
def pm_okc (n : Nat) : pm_C → Bool
  | .inl _ => true
  | .inr o => o.2.all (pm_okv n)
theorem pm_v_agree {n : Nat} {ad ad' : Nat → Nat} (h : pm_agree n ad ad') {v : Value} (hv : pm_okv n v = true) : pm_v ad' v = pm_v ad v := by
  cases v <;> try rfl
  simp only [pm_okv, Bool.or_eq_true, decide_eq_true_eq] at hv
  simp only [pm_v]
  rw [h _ hv]
theorem pm_S_agree {n : Nat} {ad ad' : Nat → Nat} (h : pm_agree n ad ad') {S : List Value} (hv : S.all (pm_okv n) = true) : S.map (pm_v ad') = S.map (pm_v ad) := by
  apply List.map_congr_left
  intro v hm
  exact pm_v_agree h (List.all_eq_true.mp hv v hm)
theorem pm_L_agree {n : Nat} {ad ad' : Nat → Nat} (h : pm_agree n ad ad') {L : List (Nat × Value)} (hv : L.all (fun q => pm_okv n q.2) = true) : pm_L ad' L = pm_L ad L := by
  apply List.map_congr_left
  intro q hm
  rw [pm_v_agree h (List.all_eq_true.mp hv q hm)]
theorem pm_w_agree {n : Nat} {ad ad' : Nat → Nat} {cT : FieldType → ClassId} (h : pm_agree n ad ad') {σ : pm_H} (hn : σ.length ≤ n) (hv : σ.all (pm_okc n) = true) : pm_w ad' cT σ = pm_w ad cT σ := by
  apply List.ext_getElem?
  intro j
  simp only [pm_w, List.getElem?_mapIdx]
  cases hj : σ[j]? with
  | none => rfl
  | some c =>
    have hl : j < σ.length := (List.getElem?_eq_some_iff.mp hj).1
    have hc := List.all_eq_true.mp hv c (List.mem_of_getElem? hj)
    simp only [Option.map_some]
    rw [h j (Or.inl (by omega))]
    congr 2
    cases c with
    | inl a => rfl
    | inr o =>
      simp only [pm_c]
      rw [pm_S_agree h hc]
/-- what holds all through a method -/
def pm_X (me : pm_Me) (d mc ms : Nat) (ad : Nat → Nat) (p : Program) (R : Room) (s : State) (m : MethodId) (args : Array Value) (meth : Method) (c : Code) (D : va_G) (cT : FieldType → ClassId) (A : Nat → Prop) : Prop :=
  p.tables.exec = Jvm.exec ∧ c.code = me.2.1 ∧ meth.sig.returnType = me.2.2.2 ∧ c.maxLocals = me.2.2.1 ∧ s.vm.findClass me.1.cls = some m.cls ∧ meth.locks = false ∧ meth.name = me.1.name ∧ (∀ w ∈ pm_T, w.before args s = true) ∧ (d ≤ R.frames ∧ 40 * d ≤ R.locals) ∧ R.cells = mc ∧ R.slots = ms ∧ (∀ q, s.heap.size ≤ q → A q) ∧ va_K D vwCl (pm_ty cT) s ∧ pm_E ad A s
/-- how a method ends -/
def pm_Q (D : va_G) (cT : FieldType → ClassId) (A : Nat → Prop) (N1 T1 : Nat) (Q : (Nat → Nat) → Option Value → pm_H → Prop) : Array Value → State → Outcome → State → Prop := fun _ st oc t =>
  (∃ (ad : Nat → Nat) (r : Option Value) (σ : pm_H), oc = .returned (r.map (pm_v ad)) ∧ Q ad r σ ∧ σ.length = N1 ∧ pm_tot σ = T1 ∧ va_P D vwCl (pm_w ad cT σ) t.heap ∧ va_D A (pm_w ad cT σ)) ∧ va_F A st t
/-- from pc on, with locals L, operands S, heap σ (addresses ad), the method comes to its end with Q; N1 cells of T1 slots are there then -/
def pm_wp (me : pm_Me) (d N1 T1 : Nat) (Q : (Nat → Nat) → Option Value → pm_H → Prop) (ad : Nat → Nat) (pc : Nat) (L : List (Nat × Value)) (S : List Value) (σ : pm_H) : Prop :=
  ∀ (p : Program) (l : Launch) (e : Env) (R : Room) (s : State) (m : MethodId) (args : Array Value) (below : List Frame) (meth : Method) (c : Code) (D : va_G) (cT : FieldType → ClassId) (A : Nat → Prop) (mc ms : Nat) (H : Heap) (locs : List Loc) (cells slots : Nat) (ls : Array Slot),
    pm_X me d mc ms ad p R s m args meth c D cT A → cells + N1 = mc + σ.length → slots + T1 = ms + pm_tot σ → va_P D vwCl (pm_w ad cT σ) H → va_D A (pm_w ad cT σ) → va_S A s.heap H locs → lv_has ls me.2.2.1 (pm_L ad L) →
    W p l e R s m args below meth c H locs cells slots (MQ below (pm_Q D cT A N1 T1 Q) args s mc ms A) (F0 m pc ls (S.map (pm_v ad)))
/-- a method's contract: from the heap σ with the arguments As, at depth d -/
def pm_met (me : pm_Me) (d N1 T1 : Nat) (Q : (Nat → Nat) → Option Value → pm_H → Prop) (ad : Nat → Nat) (As : List Value) (σ : pm_H) : Prop :=
  ∀ (l : Launch) (D : va_G) (cT : FieldType → ClassId) (sz : Nat), Met l me.1 (pm_ws me) { frames := d, cells := N1 - σ.length, slots := T1 - pm_tot σ, locals := 40 * d }
    (va_Pc (As.map (pm_v ad)) (fun U => U.heap.size = sz ∧ va_P D vwCl (pm_w ad cT σ) U.heap ∧ va_K D vwCl (pm_ty cT) U ∧ va_D (fun _ => True) (pm_w ad cT σ) ∧ pm_E ad (va_A (pm_w ad cT σ) sz) U))
    (pm_Q D cT (va_A (pm_w ad cT σ) sz) N1 T1 Q) (N1 - σ.length) (T1 - pm_tot σ) (va_A (pm_w ad cT σ) sz)
theorem pm_met_of {me : pm_Me} {d N1 T1 : Nat} {Q : (Nat → Nat) → Option Value → pm_H → Prop} {ad : Nat → Nat} {As : List Value} {σ : pm_H} (L : List (Nat × Value)) (hN : σ.length ≤ N1) (hT : pm_tot σ ≤ T1) (hy : plainName me.1.cls = true) (hA : (lg_sl As).length ≤ me.2.2.1) (hL : lv_args 0 As = L) (hw : pm_wp me d N1 T1 Q ad 0 L [] σ) : pm_met me d N1 T1 Q ad As σ := by
  intro l D cT sz
  obtain ⟨y, cc, maxL, ret⟩ := me
  refine Met.ofW (cc := cc) (maxL := maxL) (ret := ret) hy rfl ?_
  intro p e s m args below meth c s₁ B hml hv
  obtain ⟨rfl, hsz, hP, hK, hD0, hE⟩ := hv
  have hts := atoms_spec (ws := pm_ws (y, cc, maxL, ret)) B.pre
  have hown : s.vm.findClass y.cls = some m.cls := findClass_of_methodNamed B.named
  have hin : meth.name = y.name := (name_of_methodNamed B.named B.method).1
  subst hsz
  have hD := hD0.self (sz := s.heap.size)
  have hsl := pm_sl (ad := ad) As
  have hl := lv_entry (As.map (pm_v ad)) (n := maxL) (by rw [hsl]; exact hA)
  rw [lg_entry_eq]
  rw [pm_L_args, hL] at hl
  refine hw p l e _ s m _ below meth c D cT (va_A (pm_w ad cT σ) s.heap.size) _ _ s.heap [] 0 0 _ ⟨B.exec, B.bytes, B.returns, hml, hown, B.notSynchronized, hin, fun w hw => hts w (List.mem_cons_of_mem _ hw), ⟨Nat.le_refl _, Nat.le_refl _⟩, rfl, rfl, fun q h => Or.inr h, hK, hE⟩ ?_ ?_ hP hD va_S.rf hl
  · omega
  · omega
section PS
variable {me : pm_Me} {d N1 T1 : Nat} {Q : (Nat → Nat) → Option Value → pm_H → Prop} {ad : Nat → Nat} {pc : Nat} {L : List (Nat × Value)} {S : List Value} {σ : pm_H}
theorem ps_iconst {n : Int} {v : Int32} (hd : decode me.2.1 pc = .ok (.iconst n, 1)) (hv : Int32.ofInt n = v) (k : pm_wp me d N1 T1 Q ad (pc + 1) L (.int v :: S) σ) : pm_wp me d N1 T1 Q ad pc L (S) σ :=
  fun p l e R s m args below meth c D cT A mc ms H locs cells slots ls hX h1 h2 hP hD hS hl => lv_iconst hX.1 hX.2.1 hd hv (k p l e R s m args below meth c D cT A mc ms H locs cells slots ls hX h1 h2 hP hD hS hl)
theorem ps_bipush {n : Int} {v : Int32} (hd : decode me.2.1 pc = .ok (.bipush n, 2)) (hv : (Int8.ofInt n).toInt32 = v) (k : pm_wp me d N1 T1 Q ad (pc + 2) L (.int v :: S) σ) : pm_wp me d N1 T1 Q ad pc L (S) σ :=
  fun p l e R s m args below meth c D cT A mc ms H locs cells slots ls hX h1 h2 hP hD hS hl => lv_bipush hX.1 hX.2.1 hd hv (k p l e R s m args below meth c D cT A mc ms H locs cells slots ls hX h1 h2 hP hD hS hl)
theorem ps_sipush {n : Int} {v : Int32} (hd : decode me.2.1 pc = .ok (.sipush n, 3)) (hv : (Int16.ofInt n).toInt32 = v) (k : pm_wp me d N1 T1 Q ad (pc + 3) L (.int v :: S) σ) : pm_wp me d N1 T1 Q ad pc L (S) σ :=
  fun p l e R s m args below meth c D cT A mc ms H locs cells slots ls hX h1 h2 hP hD hS hl => lv_sipush hX.1 hX.2.1 hd hv (k p l e R s m args below meth c D cT A mc ms H locs cells slots ls hX h1 h2 hP hD hS hl)
theorem ps_lconst {n : Fin 2} {v : Int64} (hd : decode me.2.1 pc = .ok (.lconst n, 1)) (hv : Int64.ofNat (n : Nat) = v) (k : pm_wp me d N1 T1 Q ad (pc + 1) L (.long v :: S) σ) : pm_wp me d N1 T1 Q ad pc L (S) σ :=
  fun p l e R s m args below meth c D cT A mc ms H locs cells slots ls hX h1 h2 hP hD hS hl => lv_lconst hX.1 hX.2.1 hd hv (k p l e R s m args below meth c D cT A mc ms H locs cells slots ls hX h1 h2 hP hD hS hl)
theorem ps_iload_n {q : Fin 4} {i : Nat} {x : Int32} (hd : decode me.2.1 pc = .ok (.iload_n q, 1)) (hi : (q : Nat) = i) (j : Nat) (hj : L[j]? = some (i, .int x)) (k : pm_wp me d N1 T1 Q ad (pc + 1) L (.int x :: S) σ) : pm_wp me d N1 T1 Q ad pc L (S) σ :=
  fun p l e R s m args below meth c D cT A mc ms H locs cells slots ls hX h1 h2 hP hD hS hl => lv_iload_n hX.1 hX.2.1 hd hi (lv_at hl j (pm_L_get hj)) (k p l e R s m args below meth c D cT A mc ms H locs cells slots ls hX h1 h2 hP hD hS hl)
theorem ps_iload {i : Nat} {x : Int32} (hd : decode me.2.1 pc = .ok (.iload i, 2)) (j : Nat) (hj : L[j]? = some (i, .int x)) (k : pm_wp me d N1 T1 Q ad (pc + 2) L (.int x :: S) σ) : pm_wp me d N1 T1 Q ad pc L (S) σ :=
  fun p l e R s m args below meth c D cT A mc ms H locs cells slots ls hX h1 h2 hP hD hS hl => lv_iload hX.1 hX.2.1 hd (lv_at hl j (pm_L_get hj)) (k p l e R s m args below meth c D cT A mc ms H locs cells slots ls hX h1 h2 hP hD hS hl)
theorem ps_lload_n {q : Fin 4} {i : Nat} {x : Int64} (hd : decode me.2.1 pc = .ok (.lload_n q, 1)) (hi : (q : Nat) = i) (j : Nat) (hj : L[j]? = some (i, .long x)) (k : pm_wp me d N1 T1 Q ad (pc + 1) L (.long x :: S) σ) : pm_wp me d N1 T1 Q ad pc L (S) σ :=
  fun p l e R s m args below meth c D cT A mc ms H locs cells slots ls hX h1 h2 hP hD hS hl => lv_lload_n hX.1 hX.2.1 hd hi (lv_at hl j (pm_L_get hj)) (k p l e R s m args below meth c D cT A mc ms H locs cells slots ls hX h1 h2 hP hD hS hl)
theorem ps_lload {i : Nat} {x : Int64} (hd : decode me.2.1 pc = .ok (.lload i, 2)) (j : Nat) (hj : L[j]? = some (i, .long x)) (k : pm_wp me d N1 T1 Q ad (pc + 2) L (.long x :: S) σ) : pm_wp me d N1 T1 Q ad pc L (S) σ :=
  fun p l e R s m args below meth c D cT A mc ms H locs cells slots ls hX h1 h2 hP hD hS hl => lv_lload hX.1 hX.2.1 hd (lv_at hl j (pm_L_get hj)) (k p l e R s m args below meth c D cT A mc ms H locs cells slots ls hX h1 h2 hP hD hS hl)
theorem ps_aload_n {q : Fin 4} {i : Nat} {x : Nat} (hd : decode me.2.1 pc = .ok (.aload_n q, 1)) (hi : (q : Nat) = i) (j : Nat) (hj : L[j]? = some (i, .ref x)) (k : pm_wp me d N1 T1 Q ad (pc + 1) L (.ref x :: S) σ) : pm_wp me d N1 T1 Q ad pc L (S) σ :=
  fun p l e R s m args below meth c D cT A mc ms H locs cells slots ls hX h1 h2 hP hD hS hl => lv_aload_n hX.1 hX.2.1 hd hi (lv_at hl j (pm_L_get hj)) (k p l e R s m args below meth c D cT A mc ms H locs cells slots ls hX h1 h2 hP hD hS hl)
theorem ps_aload {i : Nat} {x : Nat} (hd : decode me.2.1 pc = .ok (.aload i, 2)) (j : Nat) (hj : L[j]? = some (i, .ref x)) (k : pm_wp me d N1 T1 Q ad (pc + 2) L (.ref x :: S) σ) : pm_wp me d N1 T1 Q ad pc L (S) σ :=
  fun p l e R s m args below meth c D cT A mc ms H locs cells slots ls hX h1 h2 hP hD hS hl => lv_aload hX.1 hX.2.1 hd (lv_at hl j (pm_L_get hj)) (k p l e R s m args below meth c D cT A mc ms H locs cells slots ls hX h1 h2 hP hD hS hl)
theorem ps_istore_n {q : Fin 4} {i : Nat} {x : Int32} {L1 : List (Nat × Value)} (hd : decode me.2.1 pc = .ok (.istore_n q, 1)) (hi : (q : Nat) = i) (hn : i < me.2.2.1) (hL : (i, Value.int x) :: L.filter (fun q => !(q.1 == i) && !(q.1 + 1 == i && q.2.category == 2)) = L1) (k : pm_wp me d N1 T1 Q ad (pc + 1) L1 S σ) : pm_wp me d N1 T1 Q ad pc L (.int x :: S) σ :=
  fun p l e R s m args below meth c D cT A mc ms H locs cells slots ls hX h1 h2 hP hD hS hl => lv_istore_n hX.1 hX.2.1 hd hi hl hn rfl (fun ls2 hl2 => k p l e R s m args below meth c D cT A mc ms H locs cells slots ls2 hX h1 h2 hP hD hS (by rw [pm_L_f1] at hl2; rw [← hL]; exact hl2))
theorem ps_istore {i : Nat} {x : Int32} {L1 : List (Nat × Value)} (hd : decode me.2.1 pc = .ok (.istore i, 2)) (hn : i < me.2.2.1) (hL : (i, Value.int x) :: L.filter (fun q => !(q.1 == i) && !(q.1 + 1 == i && q.2.category == 2)) = L1) (k : pm_wp me d N1 T1 Q ad (pc + 2) L1 S σ) : pm_wp me d N1 T1 Q ad pc L (.int x :: S) σ :=
  fun p l e R s m args below meth c D cT A mc ms H locs cells slots ls hX h1 h2 hP hD hS hl => lv_istore hX.1 hX.2.1 hd hl hn rfl (fun ls2 hl2 => k p l e R s m args below meth c D cT A mc ms H locs cells slots ls2 hX h1 h2 hP hD hS (by rw [pm_L_f1] at hl2; rw [← hL]; exact hl2))
theorem ps_lstore_n {q : Fin 4} {i : Nat} {x : Int64} {L1 : List (Nat × Value)} (hd : decode me.2.1 pc = .ok (.lstore_n q, 1)) (hi : (q : Nat) = i) (hn : i + 1 < me.2.2.1) (hL : (i, Value.long x) :: L.filter (fun q => !(q.1 == i) && (!(q.1 == i + 1) && !(q.1 + 1 == i && q.2.category == 2))) = L1) (k : pm_wp me d N1 T1 Q ad (pc + 1) L1 S σ) : pm_wp me d N1 T1 Q ad pc L (.long x :: S) σ :=
  fun p l e R s m args below meth c D cT A mc ms H locs cells slots ls hX h1 h2 hP hD hS hl => lv_lstore_n hX.1 hX.2.1 hd hi hl hn rfl (fun ls2 hl2 => k p l e R s m args below meth c D cT A mc ms H locs cells slots ls2 hX h1 h2 hP hD hS (by rw [pm_L_f2] at hl2; rw [← hL]; exact hl2))
theorem ps_lstore {i : Nat} {x : Int64} {L1 : List (Nat × Value)} (hd : decode me.2.1 pc = .ok (.lstore i, 2)) (hn : i + 1 < me.2.2.1) (hL : (i, Value.long x) :: L.filter (fun q => !(q.1 == i) && (!(q.1 == i + 1) && !(q.1 + 1 == i && q.2.category == 2))) = L1) (k : pm_wp me d N1 T1 Q ad (pc + 2) L1 S σ) : pm_wp me d N1 T1 Q ad pc L (.long x :: S) σ :=
  fun p l e R s m args below meth c D cT A mc ms H locs cells slots ls hX h1 h2 hP hD hS hl => lv_lstore hX.1 hX.2.1 hd hl hn rfl (fun ls2 hl2 => k p l e R s m args below meth c D cT A mc ms H locs cells slots ls2 hX h1 h2 hP hD hS (by rw [pm_L_f2] at hl2; rw [← hL]; exact hl2))
theorem ps_astore_n {q : Fin 4} {i : Nat} {x : Nat} {L1 : List (Nat × Value)} (hd : decode me.2.1 pc = .ok (.astore_n q, 1)) (hi : (q : Nat) = i) (hn : i < me.2.2.1) (hL : (i, Value.ref x) :: L.filter (fun q => !(q.1 == i) && !(q.1 + 1 == i && q.2.category == 2)) = L1) (k : pm_wp me d N1 T1 Q ad (pc + 1) L1 S σ) : pm_wp me d N1 T1 Q ad pc L (.ref x :: S) σ :=
  fun p l e R s m args below meth c D cT A mc ms H locs cells slots ls hX h1 h2 hP hD hS hl => lv_astore_n hX.1 hX.2.1 hd hi hl hn rfl (fun ls2 hl2 => k p l e R s m args below meth c D cT A mc ms H locs cells slots ls2 hX h1 h2 hP hD hS (by rw [pm_L_f1] at hl2; rw [← hL]; exact hl2))
theorem ps_astore {i : Nat} {x : Nat} {L1 : List (Nat × Value)} (hd : decode me.2.1 pc = .ok (.astore i, 2)) (hn : i < me.2.2.1) (hL : (i, Value.ref x) :: L.filter (fun q => !(q.1 == i) && !(q.1 + 1 == i && q.2.category == 2)) = L1) (k : pm_wp me d N1 T1 Q ad (pc + 2) L1 S σ) : pm_wp me d N1 T1 Q ad pc L (.ref x :: S) σ :=
  fun p l e R s m args below meth c D cT A mc ms H locs cells slots ls hX h1 h2 hP hD hS hl => lv_astore hX.1 hX.2.1 hd hl hn rfl (fun ls2 hl2 => k p l e R s m args below meth c D cT A mc ms H locs cells slots ls2 hX h1 h2 hP hD hS (by rw [pm_L_f1] at hl2; rw [← hL]; exact hl2))
theorem ps_iinc {i : Nat} {n : Int} {x v : Int32} {L1 : List (Nat × Value)} (hd : decode me.2.1 pc = .ok (.iinc i n, 3)) (j : Nat) (hj : L[j]? = some (i, .int x)) (hv : x + Int32.ofInt n = v) (hn : i < me.2.2.1) (hL : (i, Value.int v) :: L.filter (fun q => !(q.1 == i) && !(q.1 + 1 == i && q.2.category == 2)) = L1) (k : pm_wp me d N1 T1 Q ad (pc + 3) L1 S σ) : pm_wp me d N1 T1 Q ad pc L S σ :=
  fun p l e R s m args below meth c D cT A mc ms H locs cells slots ls hX h1 h2 hP hD hS hl => lv_iinc hX.1 hX.2.1 hd hl (pm_L_get hj) hv hn rfl (fun ls2 hl2 => k p l e R s m args below meth c D cT A mc ms H locs cells slots ls2 hX h1 h2 hP hD hS (by rw [pm_L_f1] at hl2; rw [← hL]; exact hl2))
theorem ps_iadd {x y : Int32} (hd : decode me.2.1 pc = .ok (.iadd, 1)) (k : pm_wp me d N1 T1 Q ad (pc + 1) L (.int (x + y) :: S) σ) : pm_wp me d N1 T1 Q ad pc L (.int y :: .int x :: S) σ :=
  fun p l e R s m args below meth c D cT A mc ms H locs cells slots ls hX h1 h2 hP hD hS hl => lv_iadd hX.1 hX.2.1 hd (k p l e R s m args below meth c D cT A mc ms H locs cells slots ls hX h1 h2 hP hD hS hl)
theorem ps_isub {x y : Int32} (hd : decode me.2.1 pc = .ok (.isub, 1)) (k : pm_wp me d N1 T1 Q ad (pc + 1) L (.int (x - y) :: S) σ) : pm_wp me d N1 T1 Q ad pc L (.int y :: .int x :: S) σ :=
  fun p l e R s m args below meth c D cT A mc ms H locs cells slots ls hX h1 h2 hP hD hS hl => lv_isub hX.1 hX.2.1 hd (k p l e R s m args below meth c D cT A mc ms H locs cells slots ls hX h1 h2 hP hD hS hl)
theorem ps_imul {x y : Int32} (hd : decode me.2.1 pc = .ok (.imul, 1)) (k : pm_wp me d N1 T1 Q ad (pc + 1) L (.int (x * y) :: S) σ) : pm_wp me d N1 T1 Q ad pc L (.int y :: .int x :: S) σ :=
  fun p l e R s m args below meth c D cT A mc ms H locs cells slots ls hX h1 h2 hP hD hS hl => lv_imul hX.1 hX.2.1 hd (k p l e R s m args below meth c D cT A mc ms H locs cells slots ls hX h1 h2 hP hD hS hl)
theorem ps_iand {x y : Int32} (hd : decode me.2.1 pc = .ok (.iand, 1)) (k : pm_wp me d N1 T1 Q ad (pc + 1) L (.int (x &&& y) :: S) σ) : pm_wp me d N1 T1 Q ad pc L (.int y :: .int x :: S) σ :=
  fun p l e R s m args below meth c D cT A mc ms H locs cells slots ls hX h1 h2 hP hD hS hl => lv_iand hX.1 hX.2.1 hd (k p l e R s m args below meth c D cT A mc ms H locs cells slots ls hX h1 h2 hP hD hS hl)
theorem ps_ishl {x y : Int32} (hd : decode me.2.1 pc = .ok (.ishl, 1)) (k : pm_wp me d N1 T1 Q ad (pc + 1) L (.int (x <<< (y &&& 31)) :: S) σ) : pm_wp me d N1 T1 Q ad pc L (.int y :: .int x :: S) σ :=
  fun p l e R s m args below meth c D cT A mc ms H locs cells slots ls hX h1 h2 hP hD hS hl => lv_ishl hX.1 hX.2.1 hd (k p l e R s m args below meth c D cT A mc ms H locs cells slots ls hX h1 h2 hP hD hS hl)
theorem ps_idiv {x y : Int32} (hd : decode me.2.1 pc = .ok (.idiv, 1)) (hz : ¬ y = 0) (k : pm_wp me d N1 T1 Q ad (pc + 1) L (.int (x / y) :: S) σ) : pm_wp me d N1 T1 Q ad pc L (.int y :: .int x :: S) σ :=
  fun p l e R s m args below meth c D cT A mc ms H locs cells slots ls hX h1 h2 hP hD hS hl => lv_idiv hX.1 hX.2.1 hd hz (k p l e R s m args below meth c D cT A mc ms H locs cells slots ls hX h1 h2 hP hD hS hl)
theorem ps_irem {x y : Int32} (hd : decode me.2.1 pc = .ok (.irem, 1)) (hz : ¬ y = 0) (k : pm_wp me d N1 T1 Q ad (pc + 1) L (.int (x - x / y * y) :: S) σ) : pm_wp me d N1 T1 Q ad pc L (.int y :: .int x :: S) σ :=
  fun p l e R s m args below meth c D cT A mc ms H locs cells slots ls hX h1 h2 hP hD hS hl => lv_irem hX.1 hX.2.1 hd hz (k p l e R s m args below meth c D cT A mc ms H locs cells slots ls hX h1 h2 hP hD hS hl)
theorem ps_land {x y : Int64} (hd : decode me.2.1 pc = .ok (.land, 1)) (k : pm_wp me d N1 T1 Q ad (pc + 1) L (.long (x &&& y) :: S) σ) : pm_wp me d N1 T1 Q ad pc L (.long y :: .long x :: S) σ :=
  fun p l e R s m args below meth c D cT A mc ms H locs cells slots ls hX h1 h2 hP hD hS hl => lv_land hX.1 hX.2.1 hd (k p l e R s m args below meth c D cT A mc ms H locs cells slots ls hX h1 h2 hP hD hS hl)
theorem ps_lor {x y : Int64} (hd : decode me.2.1 pc = .ok (.lor, 1)) (k : pm_wp me d N1 T1 Q ad (pc + 1) L (.long (x ||| y) :: S) σ) : pm_wp me d N1 T1 Q ad pc L (.long y :: .long x :: S) σ :=
  fun p l e R s m args below meth c D cT A mc ms H locs cells slots ls hX h1 h2 hP hD hS hl => lv_lor hX.1 hX.2.1 hd (k p l e R s m args below meth c D cT A mc ms H locs cells slots ls hX h1 h2 hP hD hS hl)
theorem ps_lushr {x : Int64} {y : Int32} (hd : decode me.2.1 pc = .ok (.lushr, 1)) (k : pm_wp me d N1 T1 Q ad (pc + 1) L (.long ((x.toUInt64 >>> (y.toInt64.toUInt64 &&& Int64.toUInt64 63)).toInt64) :: S) σ) : pm_wp me d N1 T1 Q ad pc L (.int y :: .long x :: S) σ :=
  fun p l e R s m args below meth c D cT A mc ms H locs cells slots ls hX h1 h2 hP hD hS hl => lv_lushr hX.1 hX.2.1 hd rfl (k p l e R s m args below meth c D cT A mc ms H locs cells slots ls hX h1 h2 hP hD hS hl)
theorem ps_lshl {x : Int64} {y : Int32} (hd : decode me.2.1 pc = .ok (.lshl, 1)) (k : pm_wp me d N1 T1 Q ad (pc + 1) L (.long (x <<< (y.toInt64 &&& 63)) :: S) σ) : pm_wp me d N1 T1 Q ad pc L (.int y :: .long x :: S) σ :=
  fun p l e R s m args below meth c D cT A mc ms H locs cells slots ls hX h1 h2 hP hD hS hl => lv_lshl hX.1 hX.2.1 hd rfl (k p l e R s m args below meth c D cT A mc ms H locs cells slots ls hX h1 h2 hP hD hS hl)
theorem ps_lshr {x : Int64} {y : Int32} (hd : decode me.2.1 pc = .ok (.lshr, 1)) (k : pm_wp me d N1 T1 Q ad (pc + 1) L (.long (x >>> (y.toInt64 &&& 63)) :: S) σ) : pm_wp me d N1 T1 Q ad pc L (.int y :: .long x :: S) σ :=
  fun p l e R s m args below meth c D cT A mc ms H locs cells slots ls hX h1 h2 hP hD hS hl => lv_lshr hX.1 hX.2.1 hd rfl (k p l e R s m args below meth c D cT A mc ms H locs cells slots ls hX h1 h2 hP hD hS hl)
theorem ps_i2l {x : Int32} (hd : decode me.2.1 pc = .ok (.i2l, 1)) (k : pm_wp me d N1 T1 Q ad (pc + 1) L (.long x.toInt64 :: S) σ) : pm_wp me d N1 T1 Q ad pc L (.int x :: S) σ :=
  fun p l e R s m args below meth c D cT A mc ms H locs cells slots ls hX h1 h2 hP hD hS hl => lv_i2l hX.1 hX.2.1 hd rfl (k p l e R s m args below meth c D cT A mc ms H locs cells slots ls hX h1 h2 hP hD hS hl)
theorem ps_l2i {x : Int64} (hd : decode me.2.1 pc = .ok (.l2i, 1)) (k : pm_wp me d N1 T1 Q ad (pc + 1) L (.int x.toInt32 :: S) σ) : pm_wp me d N1 T1 Q ad pc L (.long x :: S) σ :=
  fun p l e R s m args below meth c D cT A mc ms H locs cells slots ls hX h1 h2 hP hD hS hl => lv_l2i hX.1 hX.2.1 hd rfl (k p l e R s m args below meth c D cT A mc ms H locs cells slots ls hX h1 h2 hP hD hS hl)
theorem ps_i2b {x : Int32} (hd : decode me.2.1 pc = .ok (.i2b, 1)) (k : pm_wp me d N1 T1 Q ad (pc + 1) L (.int x.toInt8.toInt32 :: S) σ) : pm_wp me d N1 T1 Q ad pc L (.int x :: S) σ :=
  fun p l e R s m args below meth c D cT A mc ms H locs cells slots ls hX h1 h2 hP hD hS hl => lv_i2b hX.1 hX.2.1 hd rfl (k p l e R s m args below meth c D cT A mc ms H locs cells slots ls hX h1 h2 hP hD hS hl)
theorem ps_i2c {x : Int32} (hd : decode me.2.1 pc = .ok (.i2c, 1)) (k : pm_wp me d N1 T1 Q ad (pc + 1) L (.int (x.toUInt32 % 65536).toInt32 :: S) σ) : pm_wp me d N1 T1 Q ad pc L (.int x :: S) σ :=
  fun p l e R s m args below meth c D cT A mc ms H locs cells slots ls hX h1 h2 hP hD hS hl => lv_i2c hX.1 hX.2.1 hd rfl (k p l e R s m args below meth c D cT A mc ms H locs cells slots ls hX h1 h2 hP hD hS hl)
theorem ps_ishr {x y : Int32} (hd : decode me.2.1 pc = .ok (.ishr, 1)) (k : pm_wp me d N1 T1 Q ad (pc + 1) L (.int (x >>> (y &&& 31)) :: S) σ) : pm_wp me d N1 T1 Q ad pc L (.int y :: .int x :: S) σ :=
  fun p l e R s m args below meth c D cT A mc ms H locs cells slots ls hX h1 h2 hP hD hS hl => lv_ishr hX.1 hX.2.1 hd (k p l e R s m args below meth c D cT A mc ms H locs cells slots ls hX h1 h2 hP hD hS hl)
theorem ps_lcmp {x y : Int64} (hd : decode me.2.1 pc = .ok (.lcmp, 1)) (k : pm_wp me d N1 T1 Q ad (pc + 1) L (.int (lg_cmp x y) :: S) σ) : pm_wp me d N1 T1 Q ad pc L (.long y :: .long x :: S) σ :=
  fun p l e R s m args below meth c D cT A mc ms H locs cells slots ls hX h1 h2 hP hD hS hl => W.lcmp hX.1 hX.2.1 hd (k p l e R s m args below meth c D cT A mc ms H locs cells slots ls hX h1 h2 hP hD hS hl)
theorem ps_dup {u : Value} (hd : decode me.2.1 pc = .ok (.dup, 1)) (hu : u.category = 1) (k : pm_wp me d N1 T1 Q ad (pc + 1) L (u :: u :: S) σ) : pm_wp me d N1 T1 Q ad pc L (u :: S) σ :=
  fun p l e R s m args below meth c D cT A mc ms H locs cells slots ls hX h1 h2 hP hD hS hl => lv_dup hX.1 hX.2.1 hd ((pm_v_cat ad u).trans hu) (k p l e R s m args below meth c D cT A mc ms H locs cells slots ls hX h1 h2 hP hD hS hl)
theorem ps_pop {u : Value} (hd : decode me.2.1 pc = .ok (.pop, 1)) (hu : u.category = 1) (k : pm_wp me d N1 T1 Q ad (pc + 1) L (S) σ) : pm_wp me d N1 T1 Q ad pc L (u :: S) σ :=
  fun p l e R s m args below meth c D cT A mc ms H locs cells slots ls hX h1 h2 hP hD hS hl => lv_pop hX.1 hX.2.1 hd ((pm_v_cat ad u).trans hu) (k p l e R s m args below meth c D cT A mc ms H locs cells slots ls hX h1 h2 hP hD hS hl)
theorem ps_dup2 {u w : Value} (hd : decode me.2.1 pc = .ok (.dup2, 1)) (hu : u.category = 1) (hw : w.category = 1) (k : pm_wp me d N1 T1 Q ad (pc + 1) L (u :: w :: u :: w :: S) σ) : pm_wp me d N1 T1 Q ad pc L (u :: w :: S) σ :=
  fun p l e R s m args below meth c D cT A mc ms H locs cells slots ls hX h1 h2 hP hD hS hl => lv_dup2_11 hX.1 hX.2.1 hd ((pm_v_cat ad u).trans hu) ((pm_v_cat ad w).trans hw) (k p l e R s m args below meth c D cT A mc ms H locs cells slots ls hX h1 h2 hP hD hS hl)
theorem ps_if_eq {x : Int32} {off : Int} (tgt : Nat) (hd : decode me.2.1 pc = .ok (.ifCond .eq off, 3)) (ht : (pc : Int) + off = (tgt : Int)) (kt : x = 0 → pm_wp me d N1 T1 Q ad tgt L S σ) (kf : ¬ x = 0 → pm_wp me d N1 T1 Q ad (pc + 3) L S σ) : pm_wp me d N1 T1 Q ad pc L (.int x :: S) σ :=
  fun p l e R s m args below meth c D cT A mc ms H locs cells slots ls hX h1 h2 hP hD hS hl => lv_if_eq hX.1 hX.2.1 hd ht (fun h => kt h p l e R s m args below meth c D cT A mc ms H locs cells slots ls hX h1 h2 hP hD hS hl) (fun h => kf h p l e R s m args below meth c D cT A mc ms H locs cells slots ls hX h1 h2 hP hD hS hl)
theorem ps_if_ne {x : Int32} {off : Int} (tgt : Nat) (hd : decode me.2.1 pc = .ok (.ifCond .ne off, 3)) (ht : (pc : Int) + off = (tgt : Int)) (kt : ¬ x = 0 → pm_wp me d N1 T1 Q ad tgt L S σ) (kf : x = 0 → pm_wp me d N1 T1 Q ad (pc + 3) L S σ) : pm_wp me d N1 T1 Q ad pc L (.int x :: S) σ :=
  fun p l e R s m args below meth c D cT A mc ms H locs cells slots ls hX h1 h2 hP hD hS hl => lv_if_ne hX.1 hX.2.1 hd ht (fun h => kt h p l e R s m args below meth c D cT A mc ms H locs cells slots ls hX h1 h2 hP hD hS hl) (fun h => kf h p l e R s m args below meth c D cT A mc ms H locs cells slots ls hX h1 h2 hP hD hS hl)
theorem ps_if_lt {x : Int32} {off : Int} (tgt : Nat) (hd : decode me.2.1 pc = .ok (.ifCond .lt off, 3)) (ht : (pc : Int) + off = (tgt : Int)) (kt : x < 0 → pm_wp me d N1 T1 Q ad tgt L S σ) (kf : ¬ x < 0 → pm_wp me d N1 T1 Q ad (pc + 3) L S σ) : pm_wp me d N1 T1 Q ad pc L (.int x :: S) σ :=
  fun p l e R s m args below meth c D cT A mc ms H locs cells slots ls hX h1 h2 hP hD hS hl => lv_if_lt hX.1 hX.2.1 hd ht (fun h => kt h p l e R s m args below meth c D cT A mc ms H locs cells slots ls hX h1 h2 hP hD hS hl) (fun h => kf h p l e R s m args below meth c D cT A mc ms H locs cells slots ls hX h1 h2 hP hD hS hl)
theorem ps_if_ge {x : Int32} {off : Int} (tgt : Nat) (hd : decode me.2.1 pc = .ok (.ifCond .ge off, 3)) (ht : (pc : Int) + off = (tgt : Int)) (kt : 0 ≤ x → pm_wp me d N1 T1 Q ad tgt L S σ) (kf : ¬ 0 ≤ x → pm_wp me d N1 T1 Q ad (pc + 3) L S σ) : pm_wp me d N1 T1 Q ad pc L (.int x :: S) σ :=
  fun p l e R s m args below meth c D cT A mc ms H locs cells slots ls hX h1 h2 hP hD hS hl => lv_if_ge hX.1 hX.2.1 hd ht (fun h => kt h p l e R s m args below meth c D cT A mc ms H locs cells slots ls hX h1 h2 hP hD hS hl) (fun h => kf h p l e R s m args below meth c D cT A mc ms H locs cells slots ls hX h1 h2 hP hD hS hl)
theorem ps_if_gt {x : Int32} {off : Int} (tgt : Nat) (hd : decode me.2.1 pc = .ok (.ifCond .gt off, 3)) (ht : (pc : Int) + off = (tgt : Int)) (kt : 0 < x → pm_wp me d N1 T1 Q ad tgt L S σ) (kf : ¬ 0 < x → pm_wp me d N1 T1 Q ad (pc + 3) L S σ) : pm_wp me d N1 T1 Q ad pc L (.int x :: S) σ :=
  fun p l e R s m args below meth c D cT A mc ms H locs cells slots ls hX h1 h2 hP hD hS hl => lv_if_gt hX.1 hX.2.1 hd ht (fun h => kt h p l e R s m args below meth c D cT A mc ms H locs cells slots ls hX h1 h2 hP hD hS hl) (fun h => kf h p l e R s m args below meth c D cT A mc ms H locs cells slots ls hX h1 h2 hP hD hS hl)
theorem ps_if_le {x : Int32} {off : Int} (tgt : Nat) (hd : decode me.2.1 pc = .ok (.ifCond .le off, 3)) (ht : (pc : Int) + off = (tgt : Int)) (kt : x ≤ 0 → pm_wp me d N1 T1 Q ad tgt L S σ) (kf : ¬ x ≤ 0 → pm_wp me d N1 T1 Q ad (pc + 3) L S σ) : pm_wp me d N1 T1 Q ad pc L (.int x :: S) σ :=
  fun p l e R s m args below meth c D cT A mc ms H locs cells slots ls hX h1 h2 hP hD hS hl => lv_if_le hX.1 hX.2.1 hd ht (fun h => kt h p l e R s m args below meth c D cT A mc ms H locs cells slots ls hX h1 h2 hP hD hS hl) (fun h => kf h p l e R s m args below meth c D cT A mc ms H locs cells slots ls hX h1 h2 hP hD hS hl)
theorem ps_icmp_eq {x y : Int32} {off : Int} (tgt : Nat) (hd : decode me.2.1 pc = .ok (.if_icmp .eq off, 3)) (ht : (pc : Int) + off = (tgt : Int)) (kt : x = y → pm_wp me d N1 T1 Q ad tgt L S σ) (kf : ¬ x = y → pm_wp me d N1 T1 Q ad (pc + 3) L S σ) : pm_wp me d N1 T1 Q ad pc L (.int y :: .int x :: S) σ :=
  fun p l e R s m args below meth c D cT A mc ms H locs cells slots ls hX h1 h2 hP hD hS hl => lv_icmp_eq hX.1 hX.2.1 hd ht (fun h => kt h p l e R s m args below meth c D cT A mc ms H locs cells slots ls hX h1 h2 hP hD hS hl) (fun h => kf h p l e R s m args below meth c D cT A mc ms H locs cells slots ls hX h1 h2 hP hD hS hl)
theorem ps_icmp_ne {x y : Int32} {off : Int} (tgt : Nat) (hd : decode me.2.1 pc = .ok (.if_icmp .ne off, 3)) (ht : (pc : Int) + off = (tgt : Int)) (kt : ¬ x = y → pm_wp me d N1 T1 Q ad tgt L S σ) (kf : x = y → pm_wp me d N1 T1 Q ad (pc + 3) L S σ) : pm_wp me d N1 T1 Q ad pc L (.int y :: .int x :: S) σ :=
  fun p l e R s m args below meth c D cT A mc ms H locs cells slots ls hX h1 h2 hP hD hS hl => lv_icmp_ne hX.1 hX.2.1 hd ht (fun h => kt h p l e R s m args below meth c D cT A mc ms H locs cells slots ls hX h1 h2 hP hD hS hl) (fun h => kf h p l e R s m args below meth c D cT A mc ms H locs cells slots ls hX h1 h2 hP hD hS hl)
theorem ps_icmp_lt {x y : Int32} {off : Int} (tgt : Nat) (hd : decode me.2.1 pc = .ok (.if_icmp .lt off, 3)) (ht : (pc : Int) + off = (tgt : Int)) (kt : x < y → pm_wp me d N1 T1 Q ad tgt L S σ) (kf : ¬ x < y → pm_wp me d N1 T1 Q ad (pc + 3) L S σ) : pm_wp me d N1 T1 Q ad pc L (.int y :: .int x :: S) σ :=
  fun p l e R s m args below meth c D cT A mc ms H locs cells slots ls hX h1 h2 hP hD hS hl => lv_icmp_lt hX.1 hX.2.1 hd ht (fun h => kt h p l e R s m args below meth c D cT A mc ms H locs cells slots ls hX h1 h2 hP hD hS hl) (fun h => kf h p l e R s m args below meth c D cT A mc ms H locs cells slots ls hX h1 h2 hP hD hS hl)
theorem ps_icmp_ge {x y : Int32} {off : Int} (tgt : Nat) (hd : decode me.2.1 pc = .ok (.if_icmp .ge off, 3)) (ht : (pc : Int) + off = (tgt : Int)) (kt : y ≤ x → pm_wp me d N1 T1 Q ad tgt L S σ) (kf : ¬ y ≤ x → pm_wp me d N1 T1 Q ad (pc + 3) L S σ) : pm_wp me d N1 T1 Q ad pc L (.int y :: .int x :: S) σ :=
  fun p l e R s m args below meth c D cT A mc ms H locs cells slots ls hX h1 h2 hP hD hS hl => lv_icmp_ge hX.1 hX.2.1 hd ht (fun h => kt h p l e R s m args below meth c D cT A mc ms H locs cells slots ls hX h1 h2 hP hD hS hl) (fun h => kf h p l e R s m args below meth c D cT A mc ms H locs cells slots ls hX h1 h2 hP hD hS hl)
theorem ps_icmp_gt {x y : Int32} {off : Int} (tgt : Nat) (hd : decode me.2.1 pc = .ok (.if_icmp .gt off, 3)) (ht : (pc : Int) + off = (tgt : Int)) (kt : y < x → pm_wp me d N1 T1 Q ad tgt L S σ) (kf : ¬ y < x → pm_wp me d N1 T1 Q ad (pc + 3) L S σ) : pm_wp me d N1 T1 Q ad pc L (.int y :: .int x :: S) σ :=
  fun p l e R s m args below meth c D cT A mc ms H locs cells slots ls hX h1 h2 hP hD hS hl => lv_icmp_gt hX.1 hX.2.1 hd ht (fun h => kt h p l e R s m args below meth c D cT A mc ms H locs cells slots ls hX h1 h2 hP hD hS hl) (fun h => kf h p l e R s m args below meth c D cT A mc ms H locs cells slots ls hX h1 h2 hP hD hS hl)
theorem ps_icmp_le {x y : Int32} {off : Int} (tgt : Nat) (hd : decode me.2.1 pc = .ok (.if_icmp .le off, 3)) (ht : (pc : Int) + off = (tgt : Int)) (kt : x ≤ y → pm_wp me d N1 T1 Q ad tgt L S σ) (kf : ¬ x ≤ y → pm_wp me d N1 T1 Q ad (pc + 3) L S σ) : pm_wp me d N1 T1 Q ad pc L (.int y :: .int x :: S) σ :=
  fun p l e R s m args below meth c D cT A mc ms H locs cells slots ls hX h1 h2 hP hD hS hl => lv_icmp_le hX.1 hX.2.1 hd ht (fun h => kt h p l e R s m args below meth c D cT A mc ms H locs cells slots ls hX h1 h2 hP hD hS hl) (fun h => kf h p l e R s m args below meth c D cT A mc ms H locs cells slots ls hX h1 h2 hP hD hS hl)
theorem ps_goto {off : Int} (tgt : Nat) (hd : decode me.2.1 pc = .ok (.goto off, 3)) (ht : (pc : Int) + off = (tgt : Int)) (k : pm_wp me d N1 T1 Q ad tgt L S σ) : pm_wp me d N1 T1 Q ad pc L S σ :=
  fun p l e R s m args below meth c D cT A mc ms H locs cells slots ls hX h1 h2 hP hD hS hl => lv_goto hX.1 hX.2.1 hd ht (k p l e R s m args below meth c D cT A mc ms H locs cells slots ls hX h1 h2 hP hD hS hl)
theorem ps_tableIn {dflt lo hi : Int} {offs : Array Int} {len : Nat} {x : Int32} {off : Int} (tgt : Nat) (hd : decode me.2.1 pc = .ok (.tableswitch dflt lo hi offs, len)) (g1 : ¬ x.toInt < lo) (g2 : ¬ hi < x.toInt) (ho : offs[(x.toInt - lo).toNat]? = some off) (ht : (pc : Int) + off = (tgt : Int)) (k : pm_wp me d N1 T1 Q ad tgt L S σ) : pm_wp me d N1 T1 Q ad pc L (.int x :: S) σ :=
  fun p l e R s m args below meth c D cT A mc ms H locs cells slots ls hX h1 h2 hP hD hS hl => lv_tableIn hX.1 hX.2.1 hd g1 g2 ho ht (k p l e R s m args below meth c D cT A mc ms H locs cells slots ls hX h1 h2 hP hD hS hl)
theorem ps_tableOut {dflt lo hi : Int} {offs : Array Int} {len : Nat} {x : Int32} (tgt : Nat) (hd : decode me.2.1 pc = .ok (.tableswitch dflt lo hi offs, len)) (g : x.toInt < lo ∨ hi < x.toInt) (ht : (pc : Int) + dflt = (tgt : Int)) (k : pm_wp me d N1 T1 Q ad tgt L S σ) : pm_wp me d N1 T1 Q ad pc L (.int x :: S) σ :=
  fun p l e R s m args below meth c D cT A mc ms H locs cells slots ls hX h1 h2 hP hD hS hl => lv_tableOut hX.1 hX.2.1 hd g ht (k p l e R s m args below meth c D cT A mc ms H locs cells slots ls hX h1 h2 hP hD hS hl)
theorem ps_lookup {dflt : Int} {ps : Array (Int × Int)} {len : Nat} {x : Int32} {off : Int} (tgt : Nat) (hd : decode me.2.1 pc = .ok (.lookupswitch dflt ps, len)) (hp : (ps.toList.zip (ps.toList.drop 1)).all (fun (a, next) => a.1 < next.1) = true) (ho : Op.lookupswitch.offset ps.toList dflt x.toInt = off) (ht : (pc : Int) + off = (tgt : Int)) (k : pm_wp me d N1 T1 Q ad tgt L S σ) : pm_wp me d N1 T1 Q ad pc L (.int x :: S) σ :=
  fun p l e R s m args below meth c D cT A mc ms H locs cells slots ls hX h1 h2 hP hD hS hl => lv_lookup hX.1 hX.2.1 hd hp ho ht (k p l e R s m args below meth c D cT A mc ms H locs cells slots ls hX h1 h2 hP hD hS hl)
/-- a class of the world: its tables -/
def pm_cl (ci : Nat) (C : String) (T : u_T) (N : Nat) (ty : Nat → FieldType) : Prop :=
  vwCl[ci]? = some (C, T, N) ∧ (∀ w ∈ u_ws C T N, w ∈ pm_T) ∧ (∀ k, k < N → parseFieldDescriptor (T k).2.2.1 = some (ty k)) ∧ ∀ a, a < N → ∀ b, b < N → a ≠ b → (T a).2.1 ≠ (T b).2.1
/-- the field that the entry 'index' of the class own names: of the class ci the k-th -/
def pm_fl (own : String) (index ci k : Nat) (fin : Bool) (ty : FieldType) : Prop :=
  ∃ (C : String) (T : u_T) (N : Nat) (ty0 : Nat → FieldType), pm_cl ci C T N ty0 ∧ k < N ∧ Cond.fieldLink own index (T k).1 (T k).2.1 (T k).2.2.1 ∈ pm_T ∧ (T k).2.2.2 = fin ∧ ty0 k = ty ∧ (fin = true → (T k).1 = own)
theorem ps_getfield {index ci a : Nat} {fs : List Value} {v : Value} {fin : Bool} {ty : FieldType} (q : Nat) (hd : decode me.2.1 pc = .ok (.getfield index, 3)) (hf : pm_fl me.1.cls index ci q fin ty) (ho : σ[a]? = some (.inr (ci, fs))) (hv : fs[q]? = some v) (k : pm_wp me d N1 T1 Q ad (pc + 3) L (v :: S) σ) : pm_wp me d N1 T1 Q ad pc L (.ref a :: S) σ := by
  intro p l e R s m args below meth c D cT A mc ms H locs cells slots ls hX h1 h2 hP hD hS hl
  obtain ⟨C, T, N, ty0, ⟨hc, hin, hty, hnm⟩, hk, hlk, hfi, hte, -⟩ := hf
  obtain ⟨x1, x2, x3, x4, x5, x6, x7, x8, x9, x10, x11, x12, x13, x14⟩ := id hX
  exact va_get (D := D) (cl := vwCl) (C := C) (T := T) (N := N) x1 x2 x8 hin x5 x13 hP a (pm_w_get ho) hc q hk (x8 _ hlk) (fun _ h => h) (v := pm_v ad v) (by show (fs.map (pm_v ad))[q]? = _; rw [List.getElem?_map, hv]; rfl) hd (k p l e R s m args below meth c D cT A mc ms H locs cells slots ls hX h1 h2 hP hD hS hl)
theorem pm_w_put {ad : Nat → Nat} {cT : FieldType → ClassId} {σ : pm_H} {a ci q : Nat} {fs : List Value} {v : Value} : (pm_w ad cT σ).set a (ad a, .inr (ci, (fs.map (pm_v ad)).set q (pm_v ad v))) = pm_w ad cT (σ.set a (.inr (ci, fs.set q v))) := by
  rw [← pm_w_set]
  simp only [pm_c, List.map_set]
theorem ps_putfield {index ci a : Nat} {fs : List Value} {v : Value} {ty : FieldType} {σ1 : pm_H} (q : Nat) (hd : decode me.2.1 pc = .ok (.putfield index, 3)) (hf : pm_fl me.1.cls index ci q false ty) (ho : σ[a]? = some (.inr (ci, fs))) (hq : q < fs.length) (hn : narrow ty (pm_v ad v) = pm_v ad v) (hfit : fits ty (pm_v ad v) = true) (hσ : σ.set a (.inr (ci, fs.set q v)) = σ1) (k : pm_wp me d N1 T1 Q ad (pc + 3) L S σ1) : pm_wp me d N1 T1 Q ad pc L (v :: .ref a :: S) σ := by
  intro p l e R s m args below meth c D cT A mc ms H locs cells slots ls hX h1 h2 hP hD hS hl
  obtain ⟨C, T, N, ty0, ⟨hc, hin, hty, hnm⟩, hk, hlk, hfi, hte, -⟩ := hf
  obtain ⟨x1, x2, x3, x4, x5, x6, x7, x8, x9, x10, x11, x12, x13, x14⟩ := id hX
  refine va_put (D := D) (cl := vwCl) (C := C) (T := T) (N := N) x1 x2 x8 hin ty0 hty hnm x5 x13 hP hD hS a (pm_w_get ho) hc q hk (x8 _ hlk) (fun _ h => h) hfi (by rw [hty q hk, hte]) (v := pm_v ad v) hn hfit (by rw [List.length_map]; exact hq) hd (fun H1 locs1 hP1 hD1 hS1 => ?_)
  rw [pm_w_put, hσ] at hP1 hD1
  subst hσ
  exact k p l e R s m args below meth c D cT A mc ms H1 locs1 cells slots ls hX (by rw [List.length_set]; exact h1) (by rw [pm_tot_set ho (by simp [pm_sz])]; exact h2) hP1 hD1 hS1 hl
theorem ps_putfinal {index ci a : Nat} {fs : List Value} {v : Value} {ty : FieldType} {σ1 : pm_H} (q : Nat) (hi : me.1.name = "<init>") (hd : decode me.2.1 pc = .ok (.putfield index, 3)) (hf : pm_fl me.1.cls index ci q true ty) (ho : σ[a]? = some (.inr (ci, fs))) (hq : q < fs.length) (hn : narrow ty (pm_v ad v) = pm_v ad v) (hfit : fits ty (pm_v ad v) = true) (hσ : σ.set a (.inr (ci, fs.set q v)) = σ1) (k : pm_wp me d N1 T1 Q ad (pc + 3) L S σ1) : pm_wp me d N1 T1 Q ad pc L (v :: .ref a :: S) σ := by
  intro p l e R s m args below meth c D cT A mc ms H locs cells slots ls hX h1 h2 hP hD hS hl
  obtain ⟨C, T, N, ty0, ⟨hc, hin, hty, hnm⟩, hk, hlk, hfi, hte, hdl⟩ := hf
  obtain ⟨x1, x2, x3, x4, x5, x6, x7, x8, x9, x10, x11, x12, x13, x14⟩ := id hX
  refine va_putF (D := D) (cl := vwCl) (C := C) (T := T) (N := N) x1 x2 x8 hin ty0 hty hnm x5 x13 hP hD hS a (pm_w_get ho) hc q hk (x8 _ hlk) (fun _ h => h) hfi (x7.trans hi) (hdl rfl) (by rw [hty q hk, hte]) (v := pm_v ad v) hn hfit (by rw [List.length_map]; exact hq) hd (fun H1 locs1 hP1 hD1 hS1 => ?_)
  rw [pm_w_put, hσ] at hP1 hD1
  subst hσ
  exact k p l e R s m args below meth c D cT A mc ms H1 locs1 cells slots ls hX (by rw [List.length_set]; exact h1) (by rw [pm_tot_set ho (by simp [pm_sz])]; exact h2) hP1 hD1 hS1 hl
theorem ps_iaload {a n : Nat} {f : Nat → Int32} {i : Int32} (hd : decode me.2.1 pc = .ok (.iaload, 1)) (ho : σ[a]? = some (.inl (.int, n, f))) (hi : vp_in i n) (k : pm_wp me d N1 T1 Q ad (pc + 1) L (.int (f i.toNatClampNeg) :: S) σ) : pm_wp me d N1 T1 Q ad pc L (.int i :: .ref a :: S) σ := by
  intro p l e R s m args below meth c D cT A mc ms H locs cells slots ls hX h1 h2 hP hD hS hl
  obtain ⟨x1, x2, x3, x4, x5, x6, x7, x8, x9, x10, x11, x12, x13, x14⟩ := id hX
  exact va_iald x1 x2 x13 hP a 0 (pm_w_get ho) rfl hi hd (k p l e R s m args below meth c D cT A mc ms H locs cells slots ls hX h1 h2 hP hD hS hl)
theorem ps_baload {a n : Nat} {f : Nat → Int32} {i : Int32} (hd : decode me.2.1 pc = .ok (.baload, 1)) (ho : σ[a]? = some (.inl (.byte, n, f))) (hi : vp_in i n) (k : pm_wp me d N1 T1 Q ad (pc + 1) L (.int (f i.toNatClampNeg) :: S) σ) : pm_wp me d N1 T1 Q ad pc L (.int i :: .ref a :: S) σ := by
  intro p l e R s m args below meth c D cT A mc ms H locs cells slots ls hX h1 h2 hP hD hS hl
  obtain ⟨x1, x2, x3, x4, x5, x6, x7, x8, x9, x10, x11, x12, x13, x14⟩ := id hX
  exact va_bald x1 x2 x13 hP a 1 (pm_w_get ho) rfl hi hd (k p l e R s m args below meth c D cT A mc ms H locs cells slots ls hX h1 h2 hP hD hS hl)
theorem ps_zaload {a n : Nat} {f : Nat → Int32} {i : Int32} (hd : decode me.2.1 pc = .ok (.baload, 1)) (ho : σ[a]? = some (.inl (.boolean, n, f))) (hi : vp_in i n) (k : pm_wp me d N1 T1 Q ad (pc + 1) L (.int (f i.toNatClampNeg) :: S) σ) : pm_wp me d N1 T1 Q ad pc L (.int i :: .ref a :: S) σ := by
  intro p l e R s m args below meth c D cT A mc ms H locs cells slots ls hX h1 h2 hP hD hS hl
  obtain ⟨x1, x2, x3, x4, x5, x6, x7, x8, x9, x10, x11, x12, x13, x14⟩ := id hX
  exact va_zald x1 x2 x13 hP a 2 (pm_w_get ho) rfl hi hd (k p l e R s m args below meth c D cT A mc ms H locs cells slots ls hX h1 h2 hP hD hS hl)
theorem pm_w_putA {ad : Nat → Nat} {cT : FieldType → ClassId} {σ : pm_H} {a n : Nat} {ty : FieldType} {f : Nat → Int32} : (pm_w ad cT σ).set a (ad a, .inl (cT ty, n, .inl f)) = pm_w ad cT (σ.set a (.inl (ty, n, f))) := by
  rw [← pm_w_set]
  rfl
theorem ps_iastore {a n : Nat} {f : Nat → Int32} {i x : Int32} {σ1 : pm_H} (hd : decode me.2.1 pc = .ok (.iastore, 1)) (ho : σ[a]? = some (.inl (.int, n, f))) (hi : vp_in i n) (hσ : σ.set a (.inl (.int, n, upd f i.toNatClampNeg x)) = σ1) (k : pm_wp me d N1 T1 Q ad (pc + 1) L S σ1) : pm_wp me d N1 T1 Q ad pc L (.int x :: .int i :: .ref a :: S) σ := by
  intro p l e R s m args below meth c D cT A mc ms H locs cells slots ls hX h1 h2 hP hD hS hl
  obtain ⟨x1, x2, x3, x4, x5, x6, x7, x8, x9, x10, x11, x12, x13, x14⟩ := id hX
  refine va_iast x1 x2 x13 hP hD hS a 0 (pm_w_get ho) rfl hi hd (fun H1 locs1 hP1 hD1 hS1 => ?_)
  rw [pm_w_putA, hσ] at hP1 hD1
  subst hσ
  exact k p l e R s m args below meth c D cT A mc ms H1 locs1 cells slots ls hX (by rw [List.length_set]; exact h1) (by rw [pm_tot_set ho (by simp [pm_sz])]; exact h2) hP1 hD1 hS1 hl
theorem ps_bastore {a n : Nat} {f : Nat → Int32} {i x : Int32} {σ1 : pm_H} (hd : decode me.2.1 pc = .ok (.bastore, 1)) (ho : σ[a]? = some (.inl (.byte, n, f))) (hi : vp_in i n) (hσ : σ.set a (.inl (.byte, n, upd f i.toNatClampNeg (vp_nar .byte x))) = σ1) (k : pm_wp me d N1 T1 Q ad (pc + 1) L S σ1) : pm_wp me d N1 T1 Q ad pc L (.int x :: .int i :: .ref a :: S) σ := by
  intro p l e R s m args below meth c D cT A mc ms H locs cells slots ls hX h1 h2 hP hD hS hl
  obtain ⟨x1, x2, x3, x4, x5, x6, x7, x8, x9, x10, x11, x12, x13, x14⟩ := id hX
  refine va_bast x1 x2 x13 hP hD hS a 1 (pm_w_get ho) rfl hi hd (fun H1 locs1 hP1 hD1 hS1 => ?_)
  rw [pm_w_putA, hσ] at hP1 hD1
  subst hσ
  exact k p l e R s m args below meth c D cT A mc ms H1 locs1 cells slots ls hX (by rw [List.length_set]; exact h1) (by rw [pm_tot_set ho (by simp [pm_sz])]; exact h2) hP1 hD1 hS1 hl
theorem ps_zastore {a n : Nat} {f : Nat → Int32} {i x : Int32} {σ1 : pm_H} (hd : decode me.2.1 pc = .ok (.bastore, 1)) (ho : σ[a]? = some (.inl (.boolean, n, f))) (hi : vp_in i n) (hσ : σ.set a (.inl (.boolean, n, upd f i.toNatClampNeg (vp_nar .boolean x))) = σ1) (k : pm_wp me d N1 T1 Q ad (pc + 1) L S σ1) : pm_wp me d N1 T1 Q ad pc L (.int x :: .int i :: .ref a :: S) σ := by
  intro p l e R s m args below meth c D cT A mc ms H locs cells slots ls hX h1 h2 hP hD hS hl
  obtain ⟨x1, x2, x3, x4, x5, x6, x7, x8, x9, x10, x11, x12, x13, x14⟩ := id hX
  refine va_zast x1 x2 x13 hP hD hS a 2 (pm_w_get ho) rfl hi hd (fun H1 locs1 hP1 hD1 hS1 => ?_)
  rw [pm_w_putA, hσ] at hP1 hD1
  subst hσ
  exact k p l e R s m args below meth c D cT A mc ms H1 locs1 cells slots ls hX (by rw [List.length_set]; exact h1) (by rw [pm_tot_set ho (by simp [pm_sz])]; exact h2) hP1 hD1 hS1 hl
theorem ps_alen {a n : Nat} {ty : FieldType} {f : Nat → Int32} {v : Int32} (t0 : Nat) (hd : decode me.2.1 pc = .ok (.arraylength, 1)) (ho : σ[a]? = some (.inl (ty, n, f))) (ht : ∀ cT : FieldType → ClassId, (pm_ty cT)[t0]? = some (cT ty, ty)) (hv : Int32.ofNat n = v) (k : pm_wp me d N1 T1 Q ad (pc + 1) L (.int v :: S) σ) : pm_wp me d N1 T1 Q ad pc L (.ref a :: S) σ := by
  intro p l e R s m args below meth c D cT A mc ms H locs cells slots ls hX h1 h2 hP hD hS hl
  obtain ⟨x1, x2, x3, x4, x5, x6, x7, x8, x9, x10, x11, x12, x13, x14⟩ := id hX
  exact va_alen x1 x2 x13 hP a t0 (pm_w_get ho) (ht cT) hv hd (k p l e R s m args below meth c D cT A mc ms H locs cells slots ls hX h1 h2 hP hD hS hl)
theorem ps_iret {v : Int32} (hd : decode me.2.1 pc = .ok (.ireturn, 1)) (hr : me.2.2.2 = some .int) (hn : σ.length = N1) (ht : pm_tot σ = T1) (hq : Q ad (some (.int v)) σ) : pm_wp me d N1 T1 Q ad pc L [.int v] σ := by
  intro p l e R s m args below meth c D cT A mc ms H locs cells slots ls hX h1 h2 hP hD hS hl
  obtain ⟨x1, x2, x3, x4, x5, x6, x7, x8, x9, x10, x11, x12, x13, x14⟩ := id hX
  obtain rfl : cells = mc := by omega
  obtain rfl : slots = ms := by omega
  exact W.iret (v := v) x1 x2 (x3.trans hr) (fun t h hW => ⟨⟨ad, some (.int v), σ, rfl, hq, hn, ht, by rw [h]; exact hP, hD⟩, hS.F h⟩) hS.2.2 hd x6
theorem ps_zret {v : Int32} {ty : FieldType} (hd : decode me.2.1 pc = .ok (.ireturn, 1)) (hr : me.2.2.2 = some ty) (hz : narrow ty (.int v) = .int v) (hn : σ.length = N1) (ht : pm_tot σ = T1) (hq : Q ad (some (.int v)) σ) : pm_wp me d N1 T1 Q ad pc L [.int v] σ := by
  intro p l e R s m args below meth c D cT A mc ms H locs cells slots ls hX h1 h2 hP hD hS hl
  obtain ⟨x1, x2, x3, x4, x5, x6, x7, x8, x9, x10, x11, x12, x13, x14⟩ := id hX
  obtain rfl : cells = mc := by omega
  obtain rfl : slots = ms := by omega
  exact W.zret (v := v) x1 x2 (x3.trans hr) hz (fun t h hW => ⟨⟨ad, some (.int v), σ, rfl, hq, hn, ht, by rw [h]; exact hP, hD⟩, hS.F h⟩) hS.2.2 hd x6
theorem ps_lret {v : Int64} (hd : decode me.2.1 pc = .ok (.lreturn, 1)) (hr : me.2.2.2 = some .long) (hn : σ.length = N1) (ht : pm_tot σ = T1) (hq : Q ad (some (.long v)) σ) : pm_wp me d N1 T1 Q ad pc L [.long v] σ := by
  intro p l e R s m args below meth c D cT A mc ms H locs cells slots ls hX h1 h2 hP hD hS hl
  obtain ⟨x1, x2, x3, x4, x5, x6, x7, x8, x9, x10, x11, x12, x13, x14⟩ := id hX
  obtain rfl : cells = mc := by omega
  obtain rfl : slots = ms := by omega
  exact W.lret (v := v) x1 x2 (x3.trans hr) (fun t h hW => ⟨⟨ad, some (.long v), σ, rfl, hq, hn, ht, by rw [h]; exact hP, hD⟩, hS.F h⟩) hS.2.2 hd x6
theorem ps_vret (hd : decode me.2.1 pc = .ok (.return_, 1)) (hr : me.2.2.2 = none) (hn : σ.length = N1) (ht : pm_tot σ = T1) (hq : Q ad none σ) : pm_wp me d N1 T1 Q ad pc L [] σ := by
  intro p l e R s m args below meth c D cT A mc ms H locs cells slots ls hX h1 h2 hP hD hS hl
  obtain ⟨x1, x2, x3, x4, x5, x6, x7, x8, x9, x10, x11, x12, x13, x14⟩ := id hX
  obtain rfl : cells = mc := by omega
  obtain rfl : slots = ms := by omega
  exact W.vret x1 x2 (x3.trans hr) (fun t h hW => ⟨⟨ad, none, σ, rfl, hq, hn, ht, by rw [h]; exact hP, hD⟩, hS.F h⟩) hS.2.2 hd x6
theorem ps_aret {a : Nat} {rt : FieldType} (hd : decode me.2.1 pc = .ok (.areturn, 1)) (hr : me.2.2.2 = some rt) (hrt : (∃ n, rt = .object n) ∨ ∃ t, rt = .array t) (hn : σ.length = N1) (ht : pm_tot σ = T1) (hq : Q ad (some (.ref a)) σ) : pm_wp me d N1 T1 Q ad pc L [.ref a] σ := by
  intro p l e R s m args below meth c D cT A mc ms H locs cells slots ls hX h1 h2 hP hD hS hl
  obtain ⟨x1, x2, x3, x4, x5, x6, x7, x8, x9, x10, x11, x12, x13, x14⟩ := id hX
  obtain rfl : cells = mc := by omega
  obtain rfl : slots = ms := by omega
  exact W.aret (v := .ref (ad a)) x1 x2 (x3.trans hr) hrt (Or.inr ⟨_, rfl⟩) (fun t h hW => ⟨⟨ad, some (.ref a), σ, rfl, hq, hn, ht, by rw [h]; exact hP, hD⟩, hS.F h⟩) hS.2.2 hd x6
theorem ps_ldc {index : Nat} {v : Int32} (hd : decode me.2.1 pc = .ok (.ldc index, 2)) (hc : Cond.constant me.1.cls index v ∈ pm_T) (k : pm_wp me d N1 T1 Q ad (pc + 2) L (.int v :: S) σ) : pm_wp me d N1 T1 Q ad pc L S σ := by
  intro p l e R s m args below meth c D cT A mc ms H locs cells slots ls hX h1 h2 hP hD hS hl
  obtain ⟨x1, x2, x3, x4, x5, x6, x7, x8, x9, x10, x11, x12, x13, x14⟩ := id hX
  exact lv_ldc x1 x2 x5 (x8 _ hc) hd (k p l e R s m args below meth c D cT A mc ms H locs cells slots ls hX h1 h2 hP hD hS hl)
theorem ps_ldc2 {index : Nat} {v : Int64} (hd : decode me.2.1 pc = .ok (.ldc2_w index, 3)) (hc : Cond.constantLong me.1.cls index v ∈ pm_T) (k : pm_wp me d N1 T1 Q ad (pc + 3) L (.long v :: S) σ) : pm_wp me d N1 T1 Q ad pc L S σ := by
  intro p l e R s m args below meth c D cT A mc ms H locs cells slots ls hX h1 h2 hP hD hS hl
  obtain ⟨x1, x2, x3, x4, x5, x6, x7, x8, x9, x10, x11, x12, x13, x14⟩ := id hX
  exact lv_ldc2 x1 x2 x5 (x8 _ hc) hd (k p l e R s m args below meth c D cT A mc ms H locs cells slots ls hX h1 h2 hP hD hS hl)
theorem ps_ldcS {index : Nat} {tx : String} (i : Nat) (hd : decode me.2.1 pc = .ok (.ldc index, 2)) (hi : pm_refS[i]? = some (me.1.cls, index, tx)) (k : pm_wp me d N1 T1 Q ad (pc + 2) L (.ref (1000 + i) :: S) σ) : pm_wp me d N1 T1 Q ad pc L S σ := by
  intro p l e R s m args below meth c D cT A mc ms H locs cells slots ls hX h1 h2 hP hD hS hl
  obtain ⟨x1, x2, x3, x4, x5, x6, x7, x8, x9, x10, x11, x12, x13, x14⟩ := id hX
  exact va_ldcS x1 x2 x5 (x14.2.2.2.1 i _ hi) hd (k p l e R s m args below meth c D cT A mc ms H locs cells slots ls hX h1 h2 hP hD hS hl)
theorem ps_objInit {index a : Nat} (hd : decode me.2.1 pc = .ok (.invokespecial index, 3)) (hl1 : Cond.methodLink me.1.cls index Lib.objectInit ∈ pm_T) (hl2 : Cond.instanceMethod Lib.objectInit ∈ pm_T) (hl3 : Cond.code Lib.objectInit ⟨#[0xb1]⟩ 1 none ∈ pm_T) (hs : (S.map fun v => v.category).sum ≤ 8) (k : pm_wp me (d + 1) N1 T1 Q ad (pc + 3) L S σ) : pm_wp me (d + 1) N1 T1 Q ad pc L (.ref a :: S) σ := by
  intro p l e R s m args below meth c D cT A mc ms H locs cells slots ls hX h1 h2 hP hD hS hl
  obtain ⟨x1, x2, x3, x4, x5, x6, x7, x8, x9, x10, x11, x12, x13, x14⟩ := id hX
  have hrm : 2 * (F0 m pc ls ((Value.ref a :: S).map (pm_v ad))).monitorRoom + ((S.map (pm_v ad)).map fun v => v.category).sum ≤ 8 := lv_room (by rw [pm_cats]; exact hs)
  refine W.objInit x1 x2 x5 (x8 _ hl1) (x8 _ hl2) (x8 _ hl3) rfl (by rw [x4]; exact hl.1) rfl hd (by omega) (by omega) ?_
  exact k p l e R s m args below meth c D cT A mc ms H locs cells slots ls hX h1 h2 hP hD hS hl
/-- what comes behind a call -/
theorem pm_back {p : Program} {l : Launch} {e : Env} {R : Room} {s : State} {m : MethodId} {args : Array Value} {below : List Frame} {meth : Method} {c : Code} {D : va_G} {cT : FieldType → ClassId} {A : Nat → Prop} {H : Heap} {locs : List Loc} {cells slots mc ms : Nat} {ls : Array Slot} {ad : Nat → Nat} {σ : pm_H} {N2 T2 : Nat} {Q2 : (Nat → Nat) → Option Value → pm_H → Prop} {Qz : State → Prop} {pc : Nat} {st0 rest : List Value} {a : Array Value}
    (hr : va_Run p l e R s m args below meth c H locs cells slots mc ms (F0 m pc ls st0) rest (pm_Q D cT (va_A (pm_w ad cT σ) H.size) N2 T2 Q2 a) (va_A (pm_w ad cT σ) H.size)) (hS : va_S A s.heap H locs) (hB : ∀ q, va_A (pm_w ad cT σ) H.size q → A q)
    (kk : ∀ (ad' : Nat → Nat) (r : Option Value) (σ' : pm_H) (H1 : Heap) (locs1 : List Loc), Q2 ad' r σ' → σ'.length = N2 → pm_tot σ' = T2 → va_P D vwCl (pm_w ad' cT σ') H1 → va_D A (pm_w ad' cT σ') → va_S A s.heap H1 locs1 → W p l e R s m args below meth c H1 locs1 (cells + mc) (slots + ms) Qz (F0 m (pc + 3) ls ((r.map (pm_v ad')).toList ++ rest))) : W p l e R s m args below meth c H locs cells slots Qz (F0 m pc ls st0) := by
  intro T hT X
  obtain ⟨v, st₀, t, T', L, h0, X', hL, e1, e2, ⟨⟨ad', r, σ', hv, hq, hn, ht, hP1, hD1⟩, hz, hk⟩, st⟩ := hr T hT X
  cases hv
  rw [h0] at hz hk
  obtain ⟨t2, a1, b1⟩ := kk ad' r σ' T'.heap (locs ++ L) hq hn ht (by rw [e1]; exact hP1) (hD1.weaken (fun _ q _ h => hB _ h))
    ⟨Nat.le_trans hS.1 (by rw [e1]; exact hz), fun q g1 g2 => by rw [e1, hk q (Nat.lt_of_lt_of_le g1 hS.1) (fun z => g2 (hB q z))]; exact hS.2.1 q g1 g2, fun q hq => by
      rcases List.mem_append.mp hq with h | h
      · exact hS.2.2 q h
      · exact hB _ (hL q h)⟩ T' rfl X'
  exact ⟨t2, st t2 a1, b1⟩
/-- the method that the entry 'index' of the class own names, with n arguments beside the receiver -/
def pm_ml (own : String) (index : Nat) (cal : pm_Me) (n : Nat) : Prop := Cond.methodLink own index cal.1 ∈ pm_T ∧ Cond.code cal.1 cal.2.1 cal.2.2.1 cal.2.2.2 ∈ pm_T ∧ Cond.initialized cal.1.cls ∈ pm_T ∧ (cal.1.cls ≠ "java/lang/invoke/MethodHandle" ∧ cal.1.cls ≠ "java/lang/invoke/VarHandle" ∧ (parseMethodDescriptor cal.1.desc).map (fun d => d.parameters.length) = some n) ∧ cal.2.2.1 ≤ 21
def pm_rc (σ : pm_H) (a : Nat) (C : String) : Prop := (∃ (ci : Nat) (fs : List Value) (q : vw_C), σ[a]? = some (.inr (ci, fs)) ∧ vwCl[ci]? = some q ∧ q.1 = C) ∨ ∃ i, i < 13 ∧ a = 1000 + i ∧ C = "java/lang/String"
theorem pm_gd {cal : pm_Me} (hc : Cond.code cal.1 cal.2.1 cal.2.2.1 cal.2.2.2 ∈ pm_T) : GoodIn pm_T (pm_ws cal) := fun w hw => by
  rcases List.mem_cons.mp hw with rfl | h
  · exact ⟨hc, good_of_word (pm_good hc)⟩
  · exact ⟨h, good_of_word (pm_good h)⟩
/-- a callee's start, from the caller's place -/
theorem pm_pre {s : State} {H : Heap} {locs : List Loc} {D : va_G} {cT : FieldType → ClassId} {A : Nat → Prop} {ad : Nat → Nat} {σ : pm_H} (As : List Value) (hP : va_P D vwCl (pm_w ad cT σ) H) (hD : va_D A (pm_w ad cT σ)) (hS : va_S A s.heap H locs) (hK : va_K D vwCl (pm_ty cT) s) (hE : pm_E ad A s) (hB : ∀ q, va_A (pm_w ad cT σ) H.size q → A q) :
    PreS s H (va_Pc (As.map (pm_v ad)) (fun U => U.heap.size = H.size ∧ va_P D vwCl (pm_w ad cT σ) U.heap ∧ va_K D vwCl (pm_ty cT) U ∧ va_D (fun _ => True) (pm_w ad cT σ) ∧ pm_E ad (va_A (pm_w ad cT σ) H.size) U)) (As.map (pm_v ad)) :=
  ⟨fun a U g mk q => by
    obtain ⟨q0, q1, qP, qK, qD, qE⟩ := q
    exact ⟨q0, q1, qP, va_K.moved (u := U) (U := U.calling g mk a) (Vm.Alike.refl U.vm) qK, qD, qE.blind rfl rfl⟩,
   fun U hU hW => ⟨rfl, by rw [hU], by rw [hU]; exact hP, va_K.moved hW.alike hK, hD.weaken (fun _ _ _ _ => trivial), hE.call hS hU hW hB⟩⟩
theorem pm_free {s : State} {H : Heap} {locs : List Loc} {A : Nat → Prop} {ws : va_W} (hD : va_D A ws) (hS : va_S A s.heap H locs) (hA : ∀ q, s.heap.size ≤ q → A q) : ∀ q, va_A ws H.size q → A q := by
  intro q h
  rcases h with ⟨k, e, h⟩ | h
  · exact hD.2 k _ h
  · exact hA q (Nat.le_trans hS.1 h)
/-- invokevirtual -/
theorem ps_callV {cal : pm_Me} {index n a N2 T2 : Nat} {S0 : List Value} {Q2 : (Nat → Nat) → Option Value → pm_H → Prop} (As : List Value) (hd : decode me.2.1 pc = .ok (.invokevirtual index, 3)) (hm : pm_ml me.1.cls index cal n) (hi : Cond.instanceMethod cal.1 ∈ pm_T ∧ Cond.selects cal.1.cls cal.1 cal.1 ∈ pm_T) (hrc : pm_rc σ a cal.1.cls) (hs : S0 = As.reverse ++ .ref a :: S) (hn : As.length = n) (hw : (S.map fun v => v.category).sum ≤ 8) (hN : σ.length ≤ N2 ∧ N2 ≤ N1) (hT : pm_tot σ ≤ T2 ∧ T2 ≤ T1)
    (hM : pm_met cal d N2 T2 Q2 ad (.ref a :: As) σ) (hv : ∀ (ad' : Nat → Nat) (r : Option Value) (σ' : pm_H), Q2 ad' r σ' → pm_agree σ.length ad ad') (hL : ∀ (ad' : Nat → Nat) (r : Option Value) (σ' : pm_H), Q2 ad' r σ' → pm_L ad' L = pm_L ad L ∧ S.map (pm_v ad') = S.map (pm_v ad)) (k : ∀ (ad' : Nat → Nat) (r : Option Value) (σ' : pm_H), Q2 ad' r σ' → pm_wp me (d + 1) N1 T1 Q ad' (pc + 3) L (r.toList ++ S) σ') : pm_wp me (d + 1) N1 T1 Q ad pc L S0 σ := by
  intro p l e R s m args below meth c D cT A mc ms H locs cells slots ls hX h1 h2 hP hD hS hl
  obtain ⟨x1, x2, x3, x4, x5, x6, x7, x8, x9, x10, x11, x12, x13, x14⟩ := id hX
  obtain ⟨m1, m2, m3, m4, m5⟩ := hm
  have hB := pm_free hD hS x12
  have hpre := pm_pre (.ref a :: As) hP hD hS x13 x14 hB
  have hrecv : ∃ cellB : Cell, H[ad a]? = some cellB ∧ cellB.vm.isStatics = false ∧ s.vm.findClass cal.1.cls = some cellB.cls := by
    rcases hrc with ⟨ci, fs, q, g1, g2, g3⟩ | ⟨i, g1, g2, g3⟩
    · rw [← g3]
      exact va_recv x13 hP g2 (pm_w_get g1)
    · rw [g3, g2]
      exact vk_recv (i := i) x14.1 g1 hS
  subst hs
  have hstk : (As.reverse ++ .ref a :: S).map (pm_v ad) = (As.map (pm_v ad)).reverse ++ .ref (ad a) :: S.map (pm_v ad) := by simp [pm_v]
  have hrun := va_runV (l := l) (e := e) (below := below) (meth := meth) (locs := locs) (cells := cells) (slots := slots) (R := R) (C := cal.1.cls) (bytes := cal.2.1) (maxL := cal.2.2.1) (ret := cal.2.2.2) (As := As.map (pm_v ad)) (rest := S.map (pm_v ad)) (g := F0 m pc ls ((As.reverse ++ .ref a :: S).map (pm_v ad))) (n := n) ⟨x1, x2, x4, x5, x8⟩ (hM l D cT H.size) ⟨callB_of n x8 (pm_gd m2) rfl rfl rfl (x8 _ m3) (x8 _ m1) m4 ⟨x9.1, by have := x9.2; show 8 + (cal.2.2.1 + 11) + 40 * d ≤ R.locals; omega⟩, x8 _ hi.1, x8 _ hi.2⟩ ⟨hpre.1, hrecv, hpre.2⟩ rfl (by rw [List.length_map]; exact hn) hl.1 hstk (lv_room (by rw [pm_cats]; exact hw)) hd ⟨by rw [x10]; omega, by rw [x11]; omega⟩
  refine pm_back hrun hS hB (fun ad' r σ' H1 locs1 hq hn2 ht2 hP1 hD1 hS1 => ?_)
  have hag := hv ad' r σ' hq
  obtain ⟨e1, e2⟩ := hL ad' r σ' hq
  have hwp := k ad' r σ' hq p l e R s m args below meth c D cT A mc ms H1 locs1 (cells + (N2 - σ.length)) (slots + (T2 - pm_tot σ)) ls ⟨x1, x2, x3, x4, x5, x6, x7, x8, x9, x10, x11, x12, x13, x14.ad hag⟩ (by omega) (by omega) hP1 hD1 hS1 (by rw [e1]; exact hl)
  have e3 : (r.toList ++ S).map (pm_v ad') = (r.map (pm_v ad')).toList ++ S.map (pm_v ad) := by
    rw [List.map_append, e2]
    cases r <;> rfl
  rw [e3] at hwp
  exact hwp
/-- invokestatic -/
theorem ps_callS {cal : pm_Me} {index n N2 T2 : Nat} {S0 : List Value} {Q2 : (Nat → Nat) → Option Value → pm_H → Prop} (As : List Value) (hd : decode me.2.1 pc = .ok (.invokestatic index, 3)) (hm : pm_ml me.1.cls index cal n) (hi : Cond.static cal.1 ∈ pm_T) (hs : S0 = As.reverse ++ S) (hn : As.length = n) (hw : (S.map fun v => v.category).sum ≤ 8) (hN : σ.length ≤ N2 ∧ N2 ≤ N1) (hT : pm_tot σ ≤ T2 ∧ T2 ≤ T1)
    (hM : pm_met cal d N2 T2 Q2 ad As σ) (hv : ∀ (ad' : Nat → Nat) (r : Option Value) (σ' : pm_H), Q2 ad' r σ' → pm_agree σ.length ad ad') (hL : ∀ (ad' : Nat → Nat) (r : Option Value) (σ' : pm_H), Q2 ad' r σ' → pm_L ad' L = pm_L ad L ∧ S.map (pm_v ad') = S.map (pm_v ad)) (k : ∀ (ad' : Nat → Nat) (r : Option Value) (σ' : pm_H), Q2 ad' r σ' → pm_wp me (d + 1) N1 T1 Q ad' (pc + 3) L (r.toList ++ S) σ') : pm_wp me (d + 1) N1 T1 Q ad pc L S0 σ := by
  intro p l e R s m args below meth c D cT A mc ms H locs cells slots ls hX h1 h2 hP hD hS hl
  obtain ⟨x1, x2, x3, x4, x5, x6, x7, x8, x9, x10, x11, x12, x13, x14⟩ := id hX
  obtain ⟨m1, m2, m3, m4, m5⟩ := hm
  have hB := pm_free hD hS x12
  have hpre := pm_pre As hP hD hS x13 x14 hB
  subst hs
  have hstk : (As.reverse ++ S).map (pm_v ad) = (As.map (pm_v ad)).reverse ++ S.map (pm_v ad) := by simp
  have hrun := va_runS (l := l) (e := e) (below := below) (meth := meth) (locs := locs) (cells := cells) (slots := slots) (R := R) (bytes := cal.2.1) (maxL := cal.2.2.1) (ret := cal.2.2.2) (As := As.map (pm_v ad)) (rest := S.map (pm_v ad)) (g := F0 m pc ls ((As.reverse ++ S).map (pm_v ad))) (n := n) ⟨x1, x2, x4, x5, x8⟩ (hM l D cT H.size) ⟨callB_of n x8 (pm_gd m2) rfl rfl rfl (x8 _ m3) (x8 _ m1) m4 ⟨x9.1, by have := x9.2; show 8 + (cal.2.2.1 + 11) + 40 * d ≤ R.locals; omega⟩, x8 _ hi⟩ hpre rfl (by rw [List.length_map]; exact hn) hl.1 hstk (lv_room (by rw [pm_cats]; exact hw)) hd ⟨by rw [x10]; omega, by rw [x11]; omega⟩
  refine pm_back hrun hS hB (fun ad' r σ' H1 locs1 hq hn2 ht2 hP1 hD1 hS1 => ?_)
  have hag := hv ad' r σ' hq
  obtain ⟨e1, e2⟩ := hL ad' r σ' hq
  have hwp := k ad' r σ' hq p l e R s m args below meth c D cT A mc ms H1 locs1 (cells + (N2 - σ.length)) (slots + (T2 - pm_tot σ)) ls ⟨x1, x2, x3, x4, x5, x6, x7, x8, x9, x10, x11, x12, x13, x14.ad hag⟩ (by omega) (by omega) hP1 hD1 hS1 (by rw [e1]; exact hl)
  have e3 : (r.toList ++ S).map (pm_v ad') = (r.map (pm_v ad')).toList ++ S.map (pm_v ad) := by
    rw [List.map_append, e2]
    cases r <;> rfl
  rw [e3] at hwp
  exact hwp
/-- invokespecial of a constructor -/
theorem ps_callI {cal : pm_Me} {index n a N2 T2 : Nat} {S0 : List Value} {Q2 : (Nat → Nat) → Option Value → pm_H → Prop} (As : List Value) (hd : decode me.2.1 pc = .ok (.invokespecial index, 3)) (hm : pm_ml me.1.cls index cal n) (hi : cal.1.name = "<init>" ∧ Cond.instanceMethod cal.1 ∈ pm_T ∧ cal.2.2.2 = none) (hs : S0 = As.reverse ++ .ref a :: S) (hn : As.length = n) (hw : (S.map fun v => v.category).sum ≤ 8) (hN : σ.length ≤ N2 ∧ N2 ≤ N1) (hT : pm_tot σ ≤ T2 ∧ T2 ≤ T1)
    (hM : pm_met cal d N2 T2 Q2 ad (.ref a :: As) σ) (hv : ∀ (ad' : Nat → Nat) (r : Option Value) (σ' : pm_H), Q2 ad' r σ' → pm_agree σ.length ad ad') (hL : ∀ (ad' : Nat → Nat) (r : Option Value) (σ' : pm_H), Q2 ad' r σ' → pm_L ad' L = pm_L ad L ∧ S.map (pm_v ad') = S.map (pm_v ad)) (k : ∀ (ad' : Nat → Nat) (r : Option Value) (σ' : pm_H), Q2 ad' r σ' → pm_wp me (d + 1) N1 T1 Q ad' (pc + 3) L (r.toList ++ S) σ') : pm_wp me (d + 1) N1 T1 Q ad pc L S0 σ := by
  intro p l e R s m args below meth c D cT A mc ms H locs cells slots ls hX h1 h2 hP hD hS hl
  obtain ⟨x1, x2, x3, x4, x5, x6, x7, x8, x9, x10, x11, x12, x13, x14⟩ := id hX
  obtain ⟨y, cc, maxL, ret⟩ := cal
  obtain ⟨m1, m2, m3, m4, m5⟩ := hm
  obtain ⟨hi1, hi2, hi3⟩ := hi
  cases hi3
  have hB := pm_free hD hS x12
  have hpre := pm_pre (.ref a :: As) hP hD hS x13 x14 hB
  subst hs
  have hstk : (As.reverse ++ .ref a :: S).map (pm_v ad) = (As.map (pm_v ad)).reverse ++ .ref (ad a) :: S.map (pm_v ad) := by simp [pm_v]
  have hrun := va_runI (l := l) (e := e) (below := below) (meth := meth) (locs := locs) (cells := cells) (slots := slots) (R := R) (bytes := cc) (maxL := maxL) (As := As.map (pm_v ad)) (rest := S.map (pm_v ad)) (g := F0 m pc ls ((As.reverse ++ .ref a :: S).map (pm_v ad))) (n := n) ⟨x1, x2, x4, x5, x8⟩ (hM l D cT H.size) ⟨callB_of n x8 (pm_gd m2) rfl rfl rfl (x8 _ m3) (x8 _ m1) m4 ⟨x9.1, by have := x9.2; show 8 + (maxL + 11) + 40 * d ≤ R.locals; have : maxL ≤ 21 := m5; omega⟩, hi1, x8 _ hi2⟩ hpre rfl (by rw [List.length_map]; exact hn) hl.1 hstk (lv_room (by rw [pm_cats]; exact hw)) hd ⟨by rw [x10]; omega, by rw [x11]; omega⟩
  refine pm_back hrun hS hB (fun ad' r σ' H1 locs1 hq hn2 ht2 hP1 hD1 hS1 => ?_)
  have hag := hv ad' r σ' hq
  obtain ⟨e1, e2⟩ := hL ad' r σ' hq
  have hwp := k ad' r σ' hq p l e R s m args below meth c D cT A mc ms H1 locs1 (cells + (N2 - σ.length)) (slots + (T2 - pm_tot σ)) ls ⟨x1, x2, x3, x4, x5, x6, x7, x8, x9, x10, x11, x12, x13, x14.ad hag⟩ (by omega) (by omega) hP1 hD1 hS1 (by rw [e1]; exact hl)
  have e3 : (r.toList ++ S).map (pm_v ad') = (r.map (pm_v ad')).toList ++ S.map (pm_v ad) := by
    rw [List.map_append, e2]
    cases r <;> rfl
  rw [e3] at hwp
  exact hwp
/-- invokespecial of a private constructor of a nest mate -/
theorem ps_callIN {cal : pm_Me} {index n a N2 T2 : Nat} {S0 : List Value} {host : String} {Q2 : (Nat → Nat) → Option Value → pm_H → Prop} (As : List Value) (hd : decode me.2.1 pc = .ok (.invokespecial index, 3)) (hm : (me.1.cls, index, cal.1, host) ∈ pm_nest ∧ Cond.code cal.1 cal.2.1 cal.2.2.1 cal.2.2.2 ∈ pm_T ∧ Cond.initialized cal.1.cls ∈ pm_T ∧ (cal.1.cls ≠ "java/lang/invoke/MethodHandle" ∧ cal.1.cls ≠ "java/lang/invoke/VarHandle" ∧ (parseMethodDescriptor cal.1.desc).map (fun d => d.parameters.length) = some n) ∧ cal.2.2.1 ≤ 21) (hi : cal.1.name = "<init>" ∧ Cond.instanceMethod cal.1 ∈ pm_T ∧ cal.2.2.2 = none) (hs : S0 = As.reverse ++ .ref a :: S) (hn : As.length = n) (hw : (S.map fun v => v.category).sum ≤ 8) (hN : σ.length ≤ N2 ∧ N2 ≤ N1) (hT : pm_tot σ ≤ T2 ∧ T2 ≤ T1)
    (hM : pm_met cal d N2 T2 Q2 ad (.ref a :: As) σ) (hv : ∀ (ad' : Nat → Nat) (r : Option Value) (σ' : pm_H), Q2 ad' r σ' → pm_agree σ.length ad ad') (hL : ∀ (ad' : Nat → Nat) (r : Option Value) (σ' : pm_H), Q2 ad' r σ' → pm_L ad' L = pm_L ad L ∧ S.map (pm_v ad') = S.map (pm_v ad)) (k : ∀ (ad' : Nat → Nat) (r : Option Value) (σ' : pm_H), Q2 ad' r σ' → pm_wp me (d + 1) N1 T1 Q ad' (pc + 3) L (r.toList ++ S) σ') : pm_wp me (d + 1) N1 T1 Q ad pc L S0 σ := by
  intro p l e R s m args below meth c D cT A mc ms H locs cells slots ls hX h1 h2 hP hD hS hl
  obtain ⟨x1, x2, x3, x4, x5, x6, x7, x8, x9, x10, x11, x12, x13, x14⟩ := id hX
  obtain ⟨y, cc, maxL, ret⟩ := cal
  obtain ⟨m1, m2, m3, m4, m5⟩ := hm
  obtain ⟨hi1, hi2, hi3⟩ := hi
  cases hi3
  have hB := pm_free hD hS x12
  have hpre := pm_pre (.ref a :: As) hP hD hS x13 x14 hB
  subst hs
  have hstk : (As.reverse ++ .ref a :: S).map (pm_v ad) = (As.map (pm_v ad)).reverse ++ .ref (ad a) :: S.map (pm_v ad) := by simp [pm_v]
  have hcode : Cond.code y cc maxL none ∈ pm_ws (y, cc, maxL, none) := List.mem_cons_self
  have hlen : ∀ sig, parseMethodDescriptor y.desc = some sig → n = sig.parameters.length := fun sig h => by
    have h2 := m4.2.2
    rw [h] at h2
    exact (Option.some.inj h2).symm
  have hrun := va_runIN (l := l) (e := e) (below := below) (meth := meth) (locs := locs) (cells := cells) (slots := slots) (R := R) (host := host) (bytes := cc) (maxL := maxL) (As := As.map (pm_v ad)) (rest := S.map (pm_v ad)) (g := F0 m pc ls ((As.reverse ++ .ref a :: S).map (pm_v ad))) (n := n) ⟨x1, x2, x4, x5, x8⟩ (hM l D cT H.size) ⟨⟨⟨rfl, rfl, x9.1, by have := x9.2; show 8 + (maxL + 11) + 40 * d ≤ R.locals; have : maxL ≤ 21 := m5; omega, pay_in x8 (pm_gd m2), hcode⟩, x8 _ m2, x8 _ m3, ⟨m4.1, m4.2.1⟩, hlen, va_Nw.use rfl (x14.2.2.2.2 _ m1)⟩, hi1, x8 _ hi2⟩ hpre rfl (by rw [List.length_map]; exact hn) hl.1 hstk (lv_room (by rw [pm_cats]; exact hw)) hd ⟨by rw [x10]; omega, by rw [x11]; omega⟩
  refine pm_back hrun hS hB (fun ad' r σ' H1 locs1 hq hn2 ht2 hP1 hD1 hS1 => ?_)
  have hag := hv ad' r σ' hq
  obtain ⟨e1, e2⟩ := hL ad' r σ' hq
  have hwp := k ad' r σ' hq p l e R s m args below meth c D cT A mc ms H1 locs1 (cells + (N2 - σ.length)) (slots + (T2 - pm_tot σ)) ls ⟨x1, x2, x3, x4, x5, x6, x7, x8, x9, x10, x11, x12, x13, x14.ad hag⟩ (by omega) (by omega) hP1 hD1 hS1 (by rw [e1]; exact hl)
  have e3 : (r.toList ++ S).map (pm_v ad') = (r.map (pm_v ad')).toList ++ S.map (pm_v ad) := by
    rw [List.map_append, e2]
    cases r <;> rfl
  rw [e3] at hwp
  exact hwp
theorem pm_up_agree {n q : Nat} {ad : Nat → Nat} (h : n < 1000) : pm_agree n ad (va_up ad n q) := fun a ha => va_up_ne ad q (by omega)
theorem ps_newarray {atype : ArrayType} {n : Int32} {M : Nat} {ty : FieldType} (t0 : Nat) (hd : decode me.2.1 pc = .ok (.newarray atype, 2)) (hty : newarray.typeOf atype = ty) (hT : Cond.arrayClass ty ∈ pm_T) (ht : ∀ cT : FieldType → ClassId, (pm_ty cT)[t0]? = some (cT ty, ty)) (hra : ∀ (U : State) (c : ClassId), va_RA U c ty → U.vm.findClass ("[" ++ ty.toString) = some c) (ha : ∀ cA : ClassId, vp_cell cA (M, .inl fun _ => 0) = arrV cA M (fun _ => defaultValue ty)) (hn : ¬ n < 0) (hM : n.toNatClampNeg = M) (hby : M * componentBytes ty ≤ 536870912) (hlen : σ.length + 1 ≤ N1) (htot : pm_tot σ + M ≤ T1) (hk : σ.length < 1000)
    (o1 : L.all (fun q => pm_okv σ.length q.2) = true) (o2 : S.all (pm_okv σ.length) = true) (o3 : σ.all (pm_okc σ.length) = true) (k : ∀ ad', pm_agree σ.length ad ad' → pm_wp me d N1 T1 Q ad' (pc + 2) L (.ref σ.length :: S) (σ ++ [.inl (ty, M, fun _ => 0)])) : pm_wp me d N1 T1 Q ad pc L (.int n :: S) σ := by
  intro p l e R s m args below meth c D cT A mc ms H locs cells slots ls hX h1 h2 hP hD hS hl
  obtain ⟨x1, x2, x3, x4, x5, x6, x7, x8, x9, x10, x11, x12, x13, x14⟩ := id hX
  refine va_newa (a0 := (M, .inl fun _ => 0)) x1 x2 (by rw [hty]; exact x8 _ hT) hty x13 hP hD hS x12 ha hn hM hby (by rw [x10]; omega) (by rw [x11]; omega) hd (fun q cA H1 hK1 hP1 hD1 hS1 => ?_)
  have hcA : cA = cT ty := by
    have g1 := hra s cA (hK1.2 3 (cA, ty) rfl).2
    have g2 := hra s (cT ty) (x13.2 t0 _ (ht cT)).2
    rw [g1] at g2
    exact Option.some.inj g2
  have hag : pm_agree σ.length ad (va_up ad σ.length q) := pm_up_agree hk
  have hw : pm_w (va_up ad σ.length q) cT (σ ++ [.inl (ty, M, fun _ => 0)]) = pm_w ad cT σ ++ [(q, .inl (cA, M, .inl fun _ => 0))] := by
    rw [pm_w_app, pm_w_agree hag (Nat.le_refl _) o3, va_up_self, hcA]
    rfl
  have hwp := k _ hag p l e R s m args below meth c D cT A mc ms H1 locs (cells + 1) (slots + M) ls ⟨x1, x2, x3, x4, x5, x6, x7, x8, x9, x10, x11, x12, x13, x14.ad hag⟩ (by rw [List.length_append]; simp only [List.length_singleton]; omega) (by rw [pm_tot_app]; simp only [pm_sz]; omega) (by rw [hw]; exact hP1) (by rw [hw]; exact hD1) hS1 (by rw [pm_L_agree hag o1]; exact hl)
  simp only [List.map_cons, pm_v, va_up_self] at hwp
  rw [pm_S_agree hag o2] at hwp
  exact hwp
theorem ps_new {index ci N : Nat} {C : String} {T : u_T} {ty : Nat → FieldType} {fs : List Value} (hd : decode me.2.1 pc = .ok (.new index, 3)) (hcl : pm_cl ci C T N ty) (hl1 : Cond.classLink me.1.cls index C ∈ pm_T) (hl2 : Cond.instantiable C N ∈ pm_T) (hl3 : Cond.initialized C ∈ pm_T) (hfs : ∀ j, j < N → defaultValue (ty j) = vp_V fs j) (hfn : fs.length = N) (hfv : ∀ ad, fs.map (pm_v ad) = fs) (hlen : σ.length + 1 ≤ N1) (htot : pm_tot σ + N ≤ T1) (hk : σ.length < 1000)
    (o1 : L.all (fun q => pm_okv σ.length q.2) = true) (o2 : S.all (pm_okv σ.length) = true) (o3 : σ.all (pm_okc σ.length) = true) (k : ∀ ad', pm_agree σ.length ad ad' → pm_wp me d N1 T1 Q ad' (pc + 3) L (.ref σ.length :: S) (σ ++ [.inr (ci, fs)])) : pm_wp me d N1 T1 Q ad pc L S σ := by
  intro p l e R s m args below meth c D cT A mc ms H locs cells slots ls hX h1 h2 hP hD hS hl
  obtain ⟨x1, x2, x3, x4, x5, x6, x7, x8, x9, x10, x11, x12, x13, x14⟩ := id hX
  obtain ⟨c1, c2, c3, c4⟩ := hcl
  refine va_new (ci := ci) (fs := fs) (C := C) (T := T) (N := N) x1 x2 x8 c2 ty c3 x5 (x8 _ hl1) (x8 _ hl2) (x8 _ hl3) x13 hP hD hS x12 c1 hfs (by rw [x10]; omega) (by rw [x11]; omega) hd (fun q H1 hP1 hD1 hS1 => ?_)
  have hag : pm_agree σ.length ad (va_up ad σ.length q) := pm_up_agree hk
  have hw : pm_w (va_up ad σ.length q) cT (σ ++ [.inr (ci, fs)]) = pm_w ad cT σ ++ [(q, .inr (ci, fs))] := by
    rw [pm_w_app, pm_w_agree hag (Nat.le_refl _) o3, va_up_self]
    simp only [pm_c, hfv]
  have hwp := k _ hag p l e R s m args below meth c D cT A mc ms H1 locs (cells + 1) (slots + N) ls ⟨x1, x2, x3, x4, x5, x6, x7, x8, x9, x10, x11, x12, x13, x14.ad hag⟩ (by rw [List.length_append]; simp only [List.length_singleton]; omega) (by rw [pm_tot_app]; simp only [pm_sz]; omega) (by rw [hw]; exact hP1) (by rw [hw]; exact hD1) hS1 (by rw [pm_L_agree hag o1]; exact hl)
  simp only [List.map_cons, pm_v, va_up_self] at hwp
  rw [pm_S_agree hag o2] at hwp
  exact hwp
/-! the String constants -/
theorem ps_strValue {index i : Nat} (hi : i < 13) (hd : decode me.2.1 pc = .ok (.getfield index, 3)) (hl1 : Cond.fieldLink me.1.cls index "java/lang/String" "value" "[B" ∈ pm_T) (k : pm_wp me d N1 T1 Q ad (pc + 3) L (.ref (2000 + i) :: S) σ) : pm_wp me d N1 T1 Q ad pc L (.ref (1000 + i) :: S) σ := by
  intro p l e R s m args below meth c D cT A mc ms H locs cells slots ls hX h1 h2 hP hD hS hl
  obtain ⟨x1, x2, x3, x4, x5, x6, x7, x8, x9, x10, x11, x12, x13, x14⟩ := id hX
  exact vk_getf x1 x2 (x14.1.1 i hi).2.2.1 hS x5 (x8 _ hl1) (fun _ h => h) hd (k p l e R s m args below meth c D cT A mc ms H locs cells slots ls hX h1 h2 hP hD hS hl)
theorem ps_strCoder {index i : Nat} (hi : i < 13) (hd : decode me.2.1 pc = .ok (.getfield index, 3)) (hl1 : Cond.fieldLink me.1.cls index "java/lang/String" "coder" "B" ∈ pm_T) (k : pm_wp me d N1 T1 Q ad (pc + 3) L (.int 0 :: S) σ) : pm_wp me d N1 T1 Q ad pc L (.ref (1000 + i) :: S) σ := by
  intro p l e R s m args below meth c D cT A mc ms H locs cells slots ls hX h1 h2 hP hD hS hl
  obtain ⟨x1, x2, x3, x4, x5, x6, x7, x8, x9, x10, x11, x12, x13, x14⟩ := id hX
  exact vk_getf x1 x2 (x14.1.1 i hi).2.1 hS x5 (x8 _ hl1) (fun _ h => h) hd (k p l e R s m args below meth c D cT A mc ms H locs cells slots ls hX h1 h2 hP hD hS hl)
theorem ps_compact {index : Nat} (hd : decode me.2.1 pc = .ok (.getstatic index, 3)) (hl1 : Cond.fieldLink me.1.cls index "java/lang/String" "COMPACT_STRINGS" "Z" ∈ pm_T) (k : pm_wp me d N1 T1 Q ad (pc + 3) L (.int 1 :: S) σ) : pm_wp me d N1 T1 Q ad pc L S σ := by
  intro p l e R s m args below meth c D cT A mc ms H locs cells slots ls hX h1 h2 hP hD hS hl
  obtain ⟨x1, x2, x3, x4, x5, x6, x7, x8, x9, x10, x11, x12, x13, x14⟩ := id hX
  exact va_gets x1 x2 x14.2.1 hS x5 (x8 _ hl1) (fun _ h => h) hd (k p l e R s m args below meth c D cT A mc ms H locs cells slots ls hX h1 h2 hP hD hS hl)
theorem ps_formatter {index : Nat} (hd : decode me.2.1 pc = .ok (.getstatic index, 3)) (hl1 : Cond.fieldLink me.1.cls index "jdk/internal/util/Preconditions" "SIOOBE_FORMATTER" "Ljava/util/function/BiFunction;" ∈ pm_T) (k1 : pm_wp me d N1 T1 Q ad (pc + 3) L (.null :: S) σ) (k2 : pm_wp me d N1 T1 Q ad (pc + 3) L (.ref 3000 :: S) σ) : pm_wp me d N1 T1 Q ad pc L S σ := by
  intro p l e R s m args below meth c D cT A mc ms H locs cells slots ls hX h1 h2 hP hD hS hl
  obtain ⟨x1, x2, x3, x4, x5, x6, x7, x8, x9, x10, x11, x12, x13, x14⟩ := id hX
  rcases x14.2.2.1 with h | h
  · exact va_gets x1 x2 h hS x5 (x8 _ hl1) (fun _ h => h) hd (k1 p l e R s m args below meth c D cT A mc ms H locs cells slots ls hX h1 h2 hP hD hS hl)
  · exact va_gets x1 x2 h hS x5 (x8 _ hl1) (fun _ h => h) hd (k2 p l e R s m args below meth c D cT A mc ms H locs cells slots ls hX h1 h2 hP hD hS hl)
theorem ps_strAt {i : Nat} {j : Int32} (hi : i < 13) (hj : vp_in j (pm_lenS.getD i 0)) (hd : decode me.2.1 pc = .ok (.baload, 1)) (k : pm_wp me d N1 T1 Q ad (pc + 1) L (.int ((pm_bytS.getD i []).getD j.toNatClampNeg 0) :: S) σ) : pm_wp me d N1 T1 Q ad pc L (.int j :: .ref (2000 + i) :: S) σ := by
  intro p l e R s m args below meth c D cT A mc ms H locs cells slots ls hX h1 h2 hP hD hS hl
  obtain ⟨x1, x2, x3, x4, x5, x6, x7, x8, x9, x10, x11, x12, x13, x14⟩ := id hX
  exact va_tb x1 x2 (x14.1.1 i hi).2.2.2 hS hj rfl hd (k p l e R s m args below meth c D cT A mc ms H locs cells slots ls hX h1 h2 hP hD hS hl)
theorem ps_strLen {i : Nat} {v : Int32} (hi : i < 13) (hd : decode me.2.1 pc = .ok (.arraylength, 1)) (hv : Int32.ofNat (pm_lenS.getD i 0) = v) (k : pm_wp me d N1 T1 Q ad (pc + 1) L (.int v :: S) σ) : pm_wp me d N1 T1 Q ad pc L (.ref (2000 + i) :: S) σ := by
  intro p l e R s m args below meth c D cT A mc ms H locs cells slots ls hX h1 h2 hP hD hS hl
  obtain ⟨x1, x2, x3, x4, x5, x6, x7, x8, x9, x10, x11, x12, x13, x14⟩ := id hX
  exact va_tlen x1 x2 (x14.1.1 i hi).2.2.2 hS hv hd (k p l e R s m args below meth c D cT A mc ms H locs cells slots ls hX h1 h2 hP hD hS hl)
end PS
