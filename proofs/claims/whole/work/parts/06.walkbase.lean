/-! a method's contract by its body, whatever its class is called, if no row of the natives stands for it -/
theorem pm_ofW {l : Launch} {y : MethodName} {ws ws' : List Cond} {rm : Room} {Pc : Array Value → State → Prop} {Qc : Array Value → State → Outcome → State → Prop} {mc ms : Nat} {free : Addr → Prop} {cc : ByteArray} {maxL : Nat} {ret : Option FieldType} (hy : plainFor y = true) (hw : ws = Cond.code y cc maxL ret :: ws')
    (body : ∀ p e s m args below meth c s₁, BodyLoose p l y (headSpec ws rm) cc maxL ret e s m args below meth c s₁ → c.maxLocals = maxL → Pc args s → W p l e (headSpec ws rm).room s m args below meth c s.heap [] 0 0 (MQ below Qc args s mc ms free) (entryFrame m args maxL)) : Met l y ws rm Pc Qc mc ms free := by
  refine MetFree.of_bodySF (code := cc) (maxLocals := maxL) (ret := ret) hy (fun args s m h hn => ?_) (fun p e s m args below meth c s₁ B hml hP _ => ?_)
  · have hc : (Cond.code y cc maxL ret).before args s = true := atoms_spec (ws := ws) h _ (by rw [hw]; exact List.mem_cons_self)
    obtain ⟨meth, c, h1, h2, h3, h4, h5, h6, -, -⟩ := Cond.code_spec hn hc
    exact ⟨meth, c, h1, h2, h3, h4, h5, h6⟩
  · obtain ⟨t, a1, o, b1, b2, b3, b4⟩ := body p e s m args below meth c s₁ B hml hP s₁ (by rw [B.state]; rfl) (Stand.of_body B)
    exact ⟨t, o, a1, b1, b2, ⟨b3, b4⟩⟩
theorem pm_met_ofF {me : pm_Me} {d N1 T1 : Nat} {Q : (Nat → Nat) → Option Value → pm_H → Prop} {ad : Nat → Nat} {As : List Value} {σ : pm_H} (L : List (Nat × Value)) (hN : σ.length ≤ N1) (hT : pm_tot σ ≤ T1) (hy : plainFor me.1 = true) (hA : (lg_sl As).length ≤ me.2.2.1) (hL : lv_args 0 As = L) (hw : pm_wp me d N1 T1 Q ad 0 L [] σ) : pm_met me d N1 T1 Q ad As σ := by
  intro l D cT sz
  obtain ⟨y, cc, maxL, ret⟩ := me
  refine pm_ofW (cc := cc) (maxL := maxL) (ret := ret) hy rfl ?_
  intro p e s m args below meth c s₁ B hml hv
  obtain ⟨rfl, hsz, hP, hK, hD0, hE⟩ := hv
  have hts := atoms_spec (ws := pm_ws (y, cc, maxL, ret)) B.pre
  have hown : s.vm.findClass y.cls = some m.cls := findClass_of_methodNamed B.named
  have hin : meth.name = y.name := (name_of_methodNamed B.named B.method).1
  subst hsz
  have hD := hD0.self (sz := s.heap.size)
  have hsl := pm_sl (ad := ad) As
  have hl := lv_entry (As.map (pm_v ad)) (n := maxL) (by rw [hsl]; exact hA)
  rw [lg_entry_eq]
  rw [pm_L_args, hL] at hl
  refine hw p l e _ s m _ below meth c D cT (va_A (pm_w ad cT σ) s.heap.size) _ _ s.heap [] 0 0 _ ⟨B.exec, B.bytes, B.returns, hml, hown, B.notSynchronized, hin, fun w hw => hts w (List.mem_cons_of_mem _ hw), ⟨Nat.le_refl _, Nat.le_refl _⟩, rfl, rfl, fun q h => Or.inr h, hK, hE⟩ ?_ ?_ hP hD va_S.rf hl
  · omega
  · omega
theorem hp_ofF {sh : hp_Sh} {me : pm_Me} {d : Nat} {As : List Value} {s : hp_S} {r : Option Value} {s1 : hp_S} (L : List (Nat × Value)) (hy : plainFor me.1 = true) (hA : (lg_sl As).length ≤ me.2.2.1) (hL : lv_args 0 As = L) (h : hp_go sh me d r s1 0 L [] s) : hp_is sh me d As s r s1 :=
  fun ad => pm_met_ofF L (by rw [hp_len]; exact Nat.le_refl _) (by rw [hp_tot]; exact Nat.le_refl _) hy hA hL (h ad)
theorem pm_13 {i : Nat} (h : decide (i < 13) = true) : i < 13 := of_decide_eq_true h
def pm_gn (ty : FieldType) (x : Int32) : Bool := decide (narrow ty (.int x) = .int x)
theorem pm_gn_i {ty : FieldType} {x : Int32} (h : pm_gn ty x = true) : narrow ty (.int x) = .int x := of_decide_eq_true h
/-! names for values, joins, fewer locals, calls by the kind of their answer -/
theorem pm_nm {α β : Type} {e : α} {f : α → β} {R : β} {G : α → Prop} (h : pm_let e f = R) (k : ∀ x, f x = R → G x) : G e := k e h
theorem pm_jn {α β : Type} {F : α} {G : α → β} {y : β} {C : Prop} (P : α → Prop) (h : pm_let F G = y) (hF : P F) (k : ∀ j, P j → G j = y → C) : C := k F hF h
theorem pm_L_pick {ad : Nat → Nat} {L : List (Nat × Value)} (ks : List Nat) : pm_L ad (lv_pick L ks) = lv_pick (pm_L ad L) ks := by
  simp only [lv_pick, pm_L, List.map_filterMap]
  congr 1
  funext k
  simp
def pm_bl (v : Int32) : Bool := decide (v = 0) || decide (v = 1)
theorem pm_bl_n {v : Int32} (h : pm_bl v = true) : narrow .boolean (.int v) = .int v := by
  simp only [pm_bl, Bool.or_eq_true, decide_eq_true_eq] at h
  rcases h with rfl | rfl <;> rfl
theorem tb_out {t lo : Int} (n : Nat) (h : ∀ k : Nat, k < n → t ≠ lo + k) : t < lo ∨ lo + n ≤ t := by
  rcases Int.lt_or_le t lo with q | q
  · exact Or.inl q
  · refine Or.inr ?_
    rcases Int.lt_or_le t (lo + n) with z | z
    · exact absurd (show t = lo + ((t - lo).toNat : Nat) by omega) (h (t - lo).toNat (by omega))
    · exact z
theorem tb_ne {x k : Int32} {m : Int} (hc : ¬ x = k) (hk : k.toInt = m) : x.toInt ≠ m := fun e => hc (Int32.toInt_inj.mp (e.trans hk.symm))
section HX
variable {sh : hp_Sh} {me : pm_Me} {d : Nat} {r : Option Value} {s1 : hp_S} {pc : Nat} {L : List (Nat × Value)} {S : List Value} {s : hp_S}
theorem hq_drop {L1 : List (Nat × Value)} (ks : List Nat) (hL : lv_pick L ks = L1) (k : hp_go sh me d r s1 pc L1 S s) : hp_go sh me d r s1 pc L S s := by
  intro ad p l e R st m args below meth c D cT A mc ms H locs cells slots ls hX h1 h2 hP hD hS hl
  exact k ad p l e R st m args below meth c D cT A mc ms H locs cells slots ls hX h1 h2 hP hD hS (by rw [← hL, pm_L_pick]; exact lv_sub hl ks rfl)
theorem hq_callVi {cal : pm_Me} {index n a ci : Nat} {fs : List (Option Nat)} {q : vw_C} {S0 : List Value} {x : Int32} {s2 : hp_S} (As : List Value) (S : List Value) (hd : decode me.2.1 pc = .ok (.invokevirtual index, 3)) (hm : pm_ml me.1.cls index cal n) (hi : Cond.instanceMethod cal.1 ∈ pm_T ∧ Cond.selects cal.1.cls cal.1 cal.1 ∈ pm_T) (ho : sh[a]? = some (.inr (ci, fs))) (hc : vwCl[ci]? = some q) (hq : q.1 = cal.1.cls) (hs : S0 = As.reverse ++ .ref a :: S) (hn : As.length = n) (hw : (S.map fun v => v.category).sum ≤ 8) (hM : hp_is sh cal d (.ref a :: As) s (some (.int x)) s2) (k : hp_go sh me (d + 1) r s1 (pc + 3) L (.int x :: S) s2) : hp_go sh me (d + 1) r s1 pc L S0 s := hq_callV As S hd hm hi ho hc hq hs hn hw hM k
theorem hq_callVl {cal : pm_Me} {index n a ci : Nat} {fs : List (Option Nat)} {q : vw_C} {S0 : List Value} {x : Int64} {s2 : hp_S} (As : List Value) (S : List Value) (hd : decode me.2.1 pc = .ok (.invokevirtual index, 3)) (hm : pm_ml me.1.cls index cal n) (hi : Cond.instanceMethod cal.1 ∈ pm_T ∧ Cond.selects cal.1.cls cal.1 cal.1 ∈ pm_T) (ho : sh[a]? = some (.inr (ci, fs))) (hc : vwCl[ci]? = some q) (hq : q.1 = cal.1.cls) (hs : S0 = As.reverse ++ .ref a :: S) (hn : As.length = n) (hw : (S.map fun v => v.category).sum ≤ 8) (hM : hp_is sh cal d (.ref a :: As) s (some (.long x)) s2) (k : hp_go sh me (d + 1) r s1 (pc + 3) L (.long x :: S) s2) : hp_go sh me (d + 1) r s1 pc L S0 s := hq_callV As S hd hm hi ho hc hq hs hn hw hM k
theorem hq_callVv {cal : pm_Me} {index n a ci : Nat} {fs : List (Option Nat)} {q : vw_C} {S0 : List Value} {s2 : hp_S} (As : List Value) (S : List Value) (hd : decode me.2.1 pc = .ok (.invokevirtual index, 3)) (hm : pm_ml me.1.cls index cal n) (hi : Cond.instanceMethod cal.1 ∈ pm_T ∧ Cond.selects cal.1.cls cal.1 cal.1 ∈ pm_T) (ho : sh[a]? = some (.inr (ci, fs))) (hc : vwCl[ci]? = some q) (hq : q.1 = cal.1.cls) (hs : S0 = As.reverse ++ .ref a :: S) (hn : As.length = n) (hw : (S.map fun v => v.category).sum ≤ 8) (hM : hp_is sh cal d (.ref a :: As) s none s2) (k : hp_go sh me (d + 1) r s1 (pc + 3) L S s2) : hp_go sh me (d + 1) r s1 pc L S0 s := hq_callV As S hd hm hi ho hc hq hs hn hw hM k
theorem hq_callVr {cal : pm_Me} {index n a ci b : Nat} {fs : List (Option Nat)} {q : vw_C} {S0 : List Value} {s2 : hp_S} (As : List Value) (S : List Value) (hd : decode me.2.1 pc = .ok (.invokevirtual index, 3)) (hm : pm_ml me.1.cls index cal n) (hi : Cond.instanceMethod cal.1 ∈ pm_T ∧ Cond.selects cal.1.cls cal.1 cal.1 ∈ pm_T) (ho : sh[a]? = some (.inr (ci, fs))) (hc : vwCl[ci]? = some q) (hq : q.1 = cal.1.cls) (hs : S0 = As.reverse ++ .ref a :: S) (hn : As.length = n) (hw : (S.map fun v => v.category).sum ≤ 8) (hM : hp_is sh cal d (.ref a :: As) s (some (.ref b)) s2) (k : hp_go sh me (d + 1) r s1 (pc + 3) L (.ref b :: S) s2) : hp_go sh me (d + 1) r s1 pc L S0 s := hq_callV As S hd hm hi ho hc hq hs hn hw hM k
theorem hq_callVSi {cal : pm_Me} {index n i : Nat} {S0 : List Value} {x : Int32} {s2 : hp_S} (As : List Value) (S : List Value) (hd : decode me.2.1 pc = .ok (.invokevirtual index, 3)) (hm : pm_ml me.1.cls index cal n) (hi : Cond.instanceMethod cal.1 ∈ pm_T ∧ Cond.selects cal.1.cls cal.1 cal.1 ∈ pm_T) (hi13 : i < 13) (hq : cal.1.cls = "java/lang/String") (hs : S0 = As.reverse ++ .ref (1000 + i) :: S) (hn : As.length = n) (hw : (S.map fun v => v.category).sum ≤ 8) (hM : hp_is sh cal d (.ref (1000 + i) :: As) s (some (.int x)) s2) (k : hp_go sh me (d + 1) r s1 (pc + 3) L (.int x :: S) s2) : hp_go sh me (d + 1) r s1 pc L S0 s := hq_callVS As S hd hm hi hi13 hq hs hn hw hM k
theorem hq_callSi {cal : pm_Me} {index n : Nat} {S0 : List Value} {x : Int32} {s2 : hp_S} (As : List Value) (S : List Value) (hd : decode me.2.1 pc = .ok (.invokestatic index, 3)) (hm : pm_ml me.1.cls index cal n) (hi : Cond.static cal.1 ∈ pm_T) (hs : S0 = As.reverse ++ S) (hn : As.length = n) (hw : (S.map fun v => v.category).sum ≤ 8) (hM : hp_is sh cal d As s (some (.int x)) s2) (k : hp_go sh me (d + 1) r s1 (pc + 3) L (.int x :: S) s2) : hp_go sh me (d + 1) r s1 pc L S0 s := hq_callS As S hd hm hi hs hn hw hM k
theorem hq_callSv {cal : pm_Me} {index n : Nat} {S0 : List Value} {s2 : hp_S} (As : List Value) (S : List Value) (hd : decode me.2.1 pc = .ok (.invokestatic index, 3)) (hm : pm_ml me.1.cls index cal n) (hi : Cond.static cal.1 ∈ pm_T) (hs : S0 = As.reverse ++ S) (hn : As.length = n) (hw : (S.map fun v => v.category).sum ≤ 8) (hM : hp_is sh cal d As s none s2) (k : hp_go sh me (d + 1) r s1 (pc + 3) L S s2) : hp_go sh me (d + 1) r s1 pc L S0 s := hq_callS As S hd hm hi hs hn hw hM k
end HX
def sh_C : hp_Sh := [.inr (10, [some 1, some 3, some 7, some 16, some 26, some 31, some 37, some 39, some 41, some 42, none, none, none, none]), .inr (5, [some 2, none]), .inl (.byte, 500), .inr (6, [some 1, some 4, some 5, some 6, none]), .inl (.int, 500), .inl (.int, 500), .inl (.int, 500), .inr (4, [some 3, some 8, some 14, some 15, none, none, none, none, none, none]), .inr (2, [some 9, some 10, some 11, some 12, some 13]), .inl (.int, 501), .inl (.int, 501), .inl (.int, 501), .inl (.int, 501), .inl (.int, 501), .inl (.int, 501), .inl (.int, 20), .inr (7, [some 17, some 23, some 24, some 25, none, none]), .inr (2, [some 18, some 19, some 20, some 21, some 22]), .inl (.int, 100), .inl (.int, 100), .inl (.int, 100), .inl (.int, 100), .inl (.int, 100), .inl (.int, 100), .inl (.int, 101), .inl (.int, 500), .inr (1, [some 16, some 17, some 27, some 28, some 29, some 30, none, none]), .inl (.int, 2000), .inl (.int, 2000), .inl (.int, 2000), .inl (.int, 2000), .inr (9, [some 32, some 33, some 34, some 35, some 36, none, none, none]), .inl (.int, 10002), .inl (.int, 10002), .inl (.int, 10002), .inl (.int, 10002), .inl (.int, 10002), .inr (0, [some 16, some 17, some 26, some 31, some 38]), .inl (.boolean, 100), .inr (3, [some 40, none, none]), .inl (.byte, 4000), .inr (8, [some 31, some 39, some 36, none, none]), .inl (.boolean, 100)]
def sh_M : hp_Sh := [.inr (11, [some 1, none, some 2, none, none, none, none, none, some 3, some 4, some 5, none, none, some 6, some 7, some 8, some 9, some 10, some 11, some 12, some 13, some 14, some 15, none, some 16, some 17, some 18, some 19, none, some 20, some 21, some 22, none, some 23, some 24, some 25, some 26, none, some 27, some 28, none, none, some 29, some 30, some 31, some 32, none, some 33, none, none, none, some 34, some 35, some 36, some 37, none, none, none, none]), .inl (.byte, 500), .inl (.byte, 500), .inl (.int, 501), .inl (.int, 501), .inl (.int, 501), .inl (.int, 101), .inl (.int, 101), .inl (.int, 101), .inl (.int, 101), .inl (.int, 101), .inl (.int, 101), .inl (.int, 101), .inl (.int, 101), .inl (.int, 101), .inl (.int, 101), .inl (.int, 101), .inl (.int, 101), .inl (.int, 102), .inl (.int, 101), .inl (.int, 2001), .inl (.int, 2001), .inl (.int, 2001), .inl (.int, 10200), .inl (.int, 10200), .inl (.int, 10200), .inl (.int, 10200), .inl (.int, 20000), .inl (.int, 20000), .inl (.boolean, 101), .inl (.boolean, 101), .inl (.int, 10200), .inl (.byte, 4000), .inl (.int, 10200), .inl (.int, 22), .inl (.int, 22), .inl (.int, 22), .inl (.int, 22)]
