/-! THE LAW'S BEGINNING: what the Statement gives of the start, two new objects, then the loop. -/
def tm_S (i : Nat) : Term := match pm_refS[i]? with
  | some q => .string q.1 q.2.1
  | none => .string "" 0
set_option maxRecDepth 100000 in
theorem st_1 : ∀ i, i < 13 → Cond.exactly (tm_S i) "java/lang/String" ∈ flatC (Jvm.Cond.and given_1 narrow_1) := by decide +kernel
set_option maxRecDepth 100000 in
theorem st_2 : ∀ i, i < 13 → Cond.eq (.field (tm_S i) "java/lang/String" "coder" "B") (.int 0) ∈ flatC (Jvm.Cond.and given_1 narrow_1) := by decide +kernel
set_option maxRecDepth 100000 in
theorem st_3 : ∀ i, i < 13 → Cond.arrayOf (.field (tm_S i) "java/lang/String" "value" "[B") .byte ∈ flatC (Jvm.Cond.and given_1 narrow_1) := by decide +kernel
set_option maxRecDepth 100000 in
theorem st_4 : ∀ i, i < 13 → Cond.eq (.length (.field (tm_S i) "java/lang/String" "value" "[B")) (.int (Int32.ofNat (pm_lenS.getD i 0))) ∈ flatC (Jvm.Cond.and given_1 narrow_1) := by decide +kernel
set_option maxRecDepth 100000 in
theorem st_5 : ∀ i, i < 13 → ∀ j, j < pm_lenS.getD i 0 → Cond.eq (.elem (.field (tm_S i) "java/lang/String" "value" "[B") (.int (Int32.ofNat j))) (.int ((pm_bytS.getD i []).getD j 0)) ∈ flatC (Jvm.Cond.and given_1 narrow_1) := by decide +kernel
set_option maxRecDepth 100000 in
theorem st_6_0 : ∀ j, j < 13 → 0 < j → (Cond.not (Cond.eq (tm_S 0) (tm_S j)) ∈ flatC (Jvm.Cond.and given_1 narrow_1) ∨ Cond.not (Cond.eq (tm_S j) (tm_S 0)) ∈ flatC (Jvm.Cond.and given_1 narrow_1)) := by decide +kernel
set_option maxRecDepth 100000 in
theorem st_6_1 : ∀ j, j < 13 → 1 < j → (Cond.not (Cond.eq (tm_S 1) (tm_S j)) ∈ flatC (Jvm.Cond.and given_1 narrow_1) ∨ Cond.not (Cond.eq (tm_S j) (tm_S 1)) ∈ flatC (Jvm.Cond.and given_1 narrow_1)) := by decide +kernel
set_option maxRecDepth 100000 in
theorem st_6_2 : ∀ j, j < 13 → 2 < j → (Cond.not (Cond.eq (tm_S 2) (tm_S j)) ∈ flatC (Jvm.Cond.and given_1 narrow_1) ∨ Cond.not (Cond.eq (tm_S j) (tm_S 2)) ∈ flatC (Jvm.Cond.and given_1 narrow_1)) := by decide +kernel
set_option maxRecDepth 100000 in
theorem st_6_3 : ∀ j, j < 13 → 3 < j → (Cond.not (Cond.eq (tm_S 3) (tm_S j)) ∈ flatC (Jvm.Cond.and given_1 narrow_1) ∨ Cond.not (Cond.eq (tm_S j) (tm_S 3)) ∈ flatC (Jvm.Cond.and given_1 narrow_1)) := by decide +kernel
set_option maxRecDepth 100000 in
theorem st_6_4 : ∀ j, j < 13 → 4 < j → (Cond.not (Cond.eq (tm_S 4) (tm_S j)) ∈ flatC (Jvm.Cond.and given_1 narrow_1) ∨ Cond.not (Cond.eq (tm_S j) (tm_S 4)) ∈ flatC (Jvm.Cond.and given_1 narrow_1)) := by decide +kernel
set_option maxRecDepth 100000 in
theorem st_6_5 : ∀ j, j < 13 → 5 < j → (Cond.not (Cond.eq (tm_S 5) (tm_S j)) ∈ flatC (Jvm.Cond.and given_1 narrow_1) ∨ Cond.not (Cond.eq (tm_S j) (tm_S 5)) ∈ flatC (Jvm.Cond.and given_1 narrow_1)) := by decide +kernel
set_option maxRecDepth 100000 in
theorem st_6_6 : ∀ j, j < 13 → 6 < j → (Cond.not (Cond.eq (tm_S 6) (tm_S j)) ∈ flatC (Jvm.Cond.and given_1 narrow_1) ∨ Cond.not (Cond.eq (tm_S j) (tm_S 6)) ∈ flatC (Jvm.Cond.and given_1 narrow_1)) := by decide +kernel
set_option maxRecDepth 100000 in
theorem st_6_7 : ∀ j, j < 13 → 7 < j → (Cond.not (Cond.eq (tm_S 7) (tm_S j)) ∈ flatC (Jvm.Cond.and given_1 narrow_1) ∨ Cond.not (Cond.eq (tm_S j) (tm_S 7)) ∈ flatC (Jvm.Cond.and given_1 narrow_1)) := by decide +kernel
set_option maxRecDepth 100000 in
theorem st_6_8 : ∀ j, j < 13 → 8 < j → (Cond.not (Cond.eq (tm_S 8) (tm_S j)) ∈ flatC (Jvm.Cond.and given_1 narrow_1) ∨ Cond.not (Cond.eq (tm_S j) (tm_S 8)) ∈ flatC (Jvm.Cond.and given_1 narrow_1)) := by decide +kernel
set_option maxRecDepth 100000 in
theorem st_6_9 : ∀ j, j < 13 → 9 < j → (Cond.not (Cond.eq (tm_S 9) (tm_S j)) ∈ flatC (Jvm.Cond.and given_1 narrow_1) ∨ Cond.not (Cond.eq (tm_S j) (tm_S 9)) ∈ flatC (Jvm.Cond.and given_1 narrow_1)) := by decide +kernel
set_option maxRecDepth 100000 in
theorem st_6_10 : ∀ j, j < 13 → 10 < j → (Cond.not (Cond.eq (tm_S 10) (tm_S j)) ∈ flatC (Jvm.Cond.and given_1 narrow_1) ∨ Cond.not (Cond.eq (tm_S j) (tm_S 10)) ∈ flatC (Jvm.Cond.and given_1 narrow_1)) := by decide +kernel
set_option maxRecDepth 100000 in
theorem st_6_11 : ∀ j, j < 13 → 11 < j → (Cond.not (Cond.eq (tm_S 11) (tm_S j)) ∈ flatC (Jvm.Cond.and given_1 narrow_1) ∨ Cond.not (Cond.eq (tm_S j) (tm_S 11)) ∈ flatC (Jvm.Cond.and given_1 narrow_1)) := by decide +kernel
theorem st_6 : ∀ i, i < 13 → ∀ j, j < 13 → i ≠ j → (Cond.not (Cond.eq (tm_S i) (tm_S j)) ∈ flatC (Jvm.Cond.and given_1 narrow_1) ∨ Cond.not (Cond.eq (tm_S j) (tm_S i)) ∈ flatC (Jvm.Cond.and given_1 narrow_1)) := by
  have key : ∀ i, i < 13 → ∀ j, j < 13 → i < j → (Cond.not (Cond.eq (tm_S i) (tm_S j)) ∈ flatC (Jvm.Cond.and given_1 narrow_1) ∨ Cond.not (Cond.eq (tm_S j) (tm_S i)) ∈ flatC (Jvm.Cond.and given_1 narrow_1)) := by
    intro i hi
    rcases (show i = 0 ∨ i = 1 ∨ i = 2 ∨ i = 3 ∨ i = 4 ∨ i = 5 ∨ i = 6 ∨ i = 7 ∨ i = 8 ∨ i = 9 ∨ i = 10 ∨ i = 11 ∨ i = 12 by omega) with rfl | rfl | rfl | rfl | rfl | rfl | rfl | rfl | rfl | rfl | rfl | rfl | rfl
    · exact st_6_0
    · exact st_6_1
    · exact st_6_2
    · exact st_6_3
    · exact st_6_4
    · exact st_6_5
    · exact st_6_6
    · exact st_6_7
    · exact st_6_8
    · exact st_6_9
    · exact st_6_10
    · exact st_6_11
    · intro j h1 h2
      omega
  intro i hi j hj h
  rcases Nat.lt_or_gt_of_ne h with g | g
  · exact key i hi j hj g
  · exact (key j hj i hi g).symm
set_option maxRecDepth 100000 in
theorem st_7 : ∀ q ∈ pm_refS, Cond.stringRef q.1 q.2.1 q.2.2 ∈ lw_tbl := by decide +kernel
set_option maxRecDepth 100000 in
theorem st_8 : ∀ q ∈ pm_nest, Cond.methodLinkNest q.1 q.2.1 q.2.2.1 q.2.2.2 ∈ lw_tbl := by decide +kernel
set_option maxRecDepth 100000 in
theorem st_9 : Cond.eq (.static "java/lang/String" "COMPACT_STRINGS" "Z") (.int 1) ∈ flatC (Jvm.Cond.and given_1 narrow_1) ∧ Cond.isRef (.static "jdk/internal/util/Preconditions" "SIOOBE_FORMATTER" "Ljava/util/function/BiFunction;") ∈ flatC (Jvm.Cond.and given_1 narrow_1) ∧ Cond.laysStatic "java/lang/String" "COMPACT_STRINGS" "Z" ∈ lw_tbl ∧ Cond.initialized "java/lang/String" ∈ lw_tbl ∧ Cond.laysStatic "jdk/internal/util/Preconditions" "SIOOBE_FORMATTER" "Ljava/util/function/BiFunction;" ∈ lw_tbl ∧ Cond.initialized "jdk/internal/util/Preconditions" ∈ lw_tbl := by decide +kernel
theorem lg_E {s : State} {b : Nat} (hts : ∀ w ∈ lw_tbl, w.before #[Value.ref b] s = true) (hgv : (Jvm.Cond.and given_1 narrow_1).before #[Value.ref b] s = true) : ∃ ad, pm_E ad (fun q : Nat => s.heap.size ≤ q) s := by
  have hs := flat_of_before _ hgv
  have hA : ∀ a : Nat, a < s.heap.size → ¬ (fun q : Nat => s.heap.size ≤ q) a := fun a h => Nat.not_le.mpr h
  obtain ⟨adK, adV, hS, hev⟩ := vk_Sof (N := 13) (tm := tm_S) (len := pm_lenS) (byt := pm_bytS) (by decide) (fun i hi => hs _ (st_1 i hi)) (fun i hi => hs _ (st_2 i hi)) (fun i hi => hs _ (st_3 i hi)) (fun i hi => hs _ (st_4 i hi)) (fun i hi j hj => hs _ (st_5 i hi j hj)) (fun i j hi hj hij => (st_6 i hi j hj hij).imp (hs _) (hs _)) hA
  obtain ⟨z1, z2, z3, z4, z5, z6⟩ := st_9
  have hz := va_Zof (v := .int 1) (hts _ z3) (hts _ z4) (va_eqt (hs _ z1)) hA
  have key : ∀ t : Nat, (va_Z "jdk/internal/util/Preconditions" "SIOOBE_FORMATTER" "Ljava/util/function/BiFunction;" .null (fun q : Nat => s.heap.size ≤ q) s s.heap ∨ va_Z "jdk/internal/util/Preconditions" "SIOOBE_FORMATTER" "Ljava/util/function/BiFunction;" (.ref t) (fun q : Nat => s.heap.size ≤ q) s s.heap) → ∃ ad, pm_E ad (fun q : Nat => s.heap.size ≤ q) s := by
    intro t ht
    refine ⟨fun k => if k = 3000 then t else if 2000 ≤ k then adV (k - 2000) else adK (k - 1000), ⟨fun i hi => ?_, fun i j hi hj e => ?_⟩, hz, ?_, fun i q hq => ?_, fun q hq => va_Nw.of rfl (hts _ (st_8 q hq))⟩
    · have e1 : ¬ 1000 + i = 3000 := by omega
      have e2 : ¬ 2000 ≤ 1000 + i := by omega
      have e3 : ¬ 2000 + i = 3000 := by omega
      have e4 : 2000 ≤ 2000 + i := by omega
      simp only [e1, e2, e3, e4, if_false, if_true, Nat.add_sub_cancel_left]
      exact hS.1 i hi
    · have e1 : ∀ i, i < 13 → ¬ 1000 + i = 3000 := fun i hi => by omega
      have e2 : ∀ i, i < 13 → ¬ 2000 ≤ 1000 + i := fun i hi => by omega
      simp only [e1 i hi, e2 i hi, e1 j hj, e2 j hj, if_false, Nat.add_sub_cancel_left] at e
      exact hS.2 i j hi hj e
    · simpa using ht
    · have hi : i < 13 := (List.getElem?_eq_some_iff.mp hq).1
      have e1 : ¬ 1000 + i = 3000 := by omega
      have e2 : ¬ 2000 ≤ 1000 + i := by omega
      simp only [e1, e2, if_false, Nat.add_sub_cancel_left]
      refine vk_R.of (A := #[Value.ref b]) (hts _ (st_7 q (List.mem_of_getElem? hq))) ?_
      have h1 := hev i hi
      have h2 : tm_S i = .string q.1 q.2.1 := by simp only [tm_S, hq]
      rw [h2] at h1
      exact h1
  rcases va_Zqof (hts _ z5) (hts _ z6) (hs _ z2) hA with h | ⟨t, h⟩
  · exact key 0 (Or.inl h)
  · exact key t (Or.inr h)
theorem lg_arr {s : State} {b : Nat} {ty : FieldType} (h : (Cond.arrayClass ty).before #[Value.ref b] s = true) : ∃ cA, ArrOfT s cA ty ∧ s.vm.findClass ("[" ++ ty.toString) = some cA := by
  obtain ⟨cA, kA, comp, h1, h2, h3⟩ := Cond.arrayClass_spec h
  exact ⟨cA, fun n z => ⟨fun k h => (by cases h), kA, h2, comp, h3⟩, h1⟩

theorem lg_K {s : State} {b : Nat} (hts : ∀ w ∈ lw_tbl, w.before #[Value.ref b] s = true) : ∃ (D : va_G) (cT : FieldType → ClassId), va_K D vwCl (pm_ty cT) s := by
  have h8 := lg_T hts
  obtain ⟨c0, i0, h50⟩ := u_known (C := RX0) (T := TX0) (N := 5) (n := 5) h8 iX0 (h8 _ (pm_i1 219 rfl rfl))
  obtain ⟨c1, i1, h51⟩ := u_known (C := RX1) (T := TX1) (N := 8) (n := 8) h8 iX1 (h8 _ (pm_i1 153 rfl rfl))
  obtain ⟨c2, i2, h52⟩ := u_known (C := RX2) (T := TX2) (N := 5) (n := 5) h8 iX2 (h8 _ (pm_i1 70 rfl rfl))
  obtain ⟨c3, i3, h53⟩ := u_known (C := RX3) (T := TX3) (N := 3) (n := 3) h8 iX3 (h8 _ (pm_i2 3 rfl rfl))
  obtain ⟨c4, i4, h54⟩ := u_known (C := RX4) (T := TX4) (N := 10) (n := 10) h8 iX4 (h8 _ (pm_i1 64 rfl rfl))
  obtain ⟨c5, i5, h55⟩ := u_known (C := RX5) (T := TX5) (N := 2) (n := 2) h8 iX5 (h8 _ (pm_i1 27 rfl rfl))
  obtain ⟨c6, i6, h56⟩ := u_known (C := RX6) (T := TX6) (N := 5) (n := 5) h8 iX6 (h8 _ (pm_i1 41 rfl rfl))
  obtain ⟨c7, i7, h57⟩ := u_known (C := RX7) (T := TX7) (N := 6) (n := 6) h8 iX7 (h8 _ (pm_i1 126 rfl rfl))
  obtain ⟨c8, i8, h58⟩ := u_known (C := RX8) (T := TX8) (N := 5) (n := 5) h8 iX8 (h8 _ (pm_i2 19 rfl rfl))
  obtain ⟨c9, i9, h59⟩ := u_known (C := RX9) (T := TX9) (N := 8) (n := 8) h8 iX9 (h8 _ (pm_i1 188 rfl rfl))
  obtain ⟨c10, i10, h60⟩ := u_known (C := RX10) (T := TX10) (N := 14) (n := 14) h8 iX10 (h8 _ (pm_i1 19 rfl rfl))
  obtain ⟨c11, i11, h61⟩ := u_known (C := RX11) (T := TX11) (N := 59) (n := 59) h8 iX11 (h8 _ (pm_i5 9 rfl rfl))
  obtain ⟨a_int, p_int, q_int⟩ := lg_arr (ty := .int) (h8 _ (pm_i1 62 rfl rfl))
  obtain ⟨a_byte, p_byte, q_byte⟩ := lg_arr (ty := .byte) (h8 _ (pm_i1 39 rfl rfl))
  obtain ⟨a_boolean, p_boolean, q_boolean⟩ := lg_arr (ty := .boolean) (h8 _ (pm_i2 1 rfl rfl))
  refine ⟨(fun k => if k = 0 then c0 else if k = 1 then c1 else if k = 2 then c2 else if k = 3 then c3 else if k = 4 then c4 else if k = 5 then c5 else if k = 6 then c6 else if k = 7 then c7 else if k = 8 then c8 else if k = 9 then c9 else if k = 10 then c10 else c11, fun k => if k = 0 then i0 else if k = 1 then i1 else if k = 2 then i2 else if k = 3 then i3 else if k = 4 then i4 else if k = 5 then i5 else if k = 6 then i6 else if k = 7 then i7 else if k = 8 then i8 else if k = 9 then i9 else if k = 10 then i10 else i11), fun ty => match ty with | .int => a_int | .byte => a_byte | _ => a_boolean, fun k q hq => ?_, fun k q hq => ?_⟩
  · match k, hq with
    | 0, hq => cases hq; exact h50
    | 1, hq => cases hq; exact h51
    | 2, hq => cases hq; exact h52
    | 3, hq => cases hq; exact h53
    | 4, hq => cases hq; exact h54
    | 5, hq => cases hq; exact h55
    | 6, hq => cases hq; exact h56
    | 7, hq => cases hq; exact h57
    | 8, hq => cases hq; exact h58
    | 9, hq => cases hq; exact h59
    | 10, hq => cases hq; exact h60
    | 11, hq => cases hq; exact h61
    | k + 12, hq => simp [vwCl] at hq
  · match k, hq with
    | 0, hq => cases hq; exact ⟨p_int, q_int⟩
    | 1, hq => cases hq; exact ⟨p_byte, q_byte⟩
    | 2, hq => cases hq; exact ⟨p_boolean, q_boolean⟩
    | k + 3, hq => simp [pm_ty] at hq
theorem lg_w1 {ad : Nat → Nat} {cT : FieldType → ClassId} {q ci : Nat} {fs : List Value} (hf : ∀ ad, fs.map (pm_v ad) = fs) : pm_w (va_up ad 0 q) cT [.inr (ci, fs)] = [(q, .inr (ci, fs))] := by
  simp [pm_w, pm_c, va_up_self, hf]
theorem lg_split {D : va_G} {A : Nat → Prop} {w1 w2 : va_W} {H : Heap} (hP : va_P D vwCl (w1 ++ w2) H) (hD : va_D A (w1 ++ w2)) : va_P D vwCl w1 H ∧ va_P D vwCl w2 H ∧ va_D A w1 ∧ va_D A w2 ∧ lg_ap w2 w1 := by
  have a1 : ∀ (k : Nat) (q : Nat × va_E), w1[k]? = some q → (w1 ++ w2)[k]? = some q := fun k q h => by
    rw [List.getElem?_append_left (List.getElem?_eq_some_iff.mp h).1]
    exact h
  have a2 : ∀ (k : Nat) (q : Nat × va_E), w2[k]? = some q → (w1 ++ w2)[w1.length + k]? = some q := fun k q h => by
    rw [List.getElem?_append_right (by omega), Nat.add_sub_cancel_left]
    exact h
  refine ⟨fun k q h => hP k q (a1 k q h), fun k q h => hP _ q (a2 k q h), ⟨fun i j x y hx hy e => hD.1 i j x y (a1 i x hx) (a1 j y hy) e, fun k q h => hD.2 k q (a1 k q h)⟩, ⟨fun i j x y hx hy e => by have := hD.1 _ _ x y (a2 i x hx) (a2 j y hy) e; omega, fun k q h => hD.2 _ q (a2 k q h)⟩, fun i j x y hx hy e => ?_⟩
  have h1 := hD.1 _ _ x y (a2 i x hx) (a1 j y hy) e
  have h2 := (List.getElem?_eq_some_iff.mp hy).1
  omega
theorem lg_ctor {p : Program} {l : Launch} {e : Env} {s : State} {m : MethodId} {below : List Frame} {meth : Method} {c : Code} {b L : Nat} {xs : Nat → Int32} {D : va_G} {cT : FieldType → ClassId} {w2 : va_W} {ad : Nat → Nat} {σ0 σ1 : pm_H} {H : Heap} {locs : List Loc} {cells slots n0 N1 T1 : Nat} {ls : Array Slot} {lv : List (Nat × Value)} {Q : State → Prop} {pc d : Nat} {rest : List Value} {y : MethodName} {bytes : ByteArray} {maxL index : Nat}
    (C0 : lw_At p s m meth c b L xs) (hK : va_K D vwCl (pm_ty cT) s) (hE : pm_E ad (fun q : Nat => s.heap.size ≤ q) s) (hP : va_P D vwCl (pm_w ad cT σ0) H) (hD : va_D (fun q : Nat => s.heap.size ≤ q) (pm_w ad cT σ0)) (hP2 : va_P D vwCl w2 H) (hap : lg_ap (pm_w ad cT σ0) w2) (hS : va_S (fun q : Nat => s.heap.size ≤ q) s.heap H locs) (hl : lv_has ls 4 lv)
    (hd : decode code pc = .ok (.invokespecial index, 3)) (hm : pm_ml R_law index (y, bytes, maxL, none) 0) (hi : y.name = "<init>" ∧ Cond.instanceMethod y ∈ pm_T) (hw : (rest.map fun v => v.category).sum ≤ 8) (hR : d + 1 ≤ 2048 ∧ 8 + (maxL + 11) + 40 * d ≤ 84000) (hcs : cells + (N1 - σ0.length) ≤ 600000 ∧ slots + (T1 - pm_tot σ0) ≤ 7302250)
    (hM : pm_met (y, bytes, maxL, none) d N1 T1 (cs_Q ad n0 none σ1) ad [.ref 0] σ0)
    (kk : ∀ (ad' : Nat → Nat) (H1 : Heap) (locs1 : List Loc), pm_agree n0 ad ad' → va_P D vwCl (pm_w ad' cT σ1) H1 → va_D (fun q : Nat => s.heap.size ≤ q) (pm_w ad' cT σ1) → va_P D vwCl w2 H1 → lg_ap (pm_w ad' cT σ1) w2 → va_S (fun q : Nat => s.heap.size ≤ q) s.heap H1 locs1 → W p l e room_1 s m #[Value.ref b] below meth c H1 locs1 (cells + (N1 - σ0.length)) (slots + (T1 - pm_tot σ0)) Q (F0 m (pc + 3) ls rest)) : W p l e room_1 s m #[Value.ref b] below meth c H locs cells slots Q (F0 m pc ls (.ref (ad 0) :: rest)) := by
  obtain ⟨hx, hb, hr, hml, hown, hts, hX, hbl, hlocks, hgv⟩ := C0
  have x8 := lg_T hts
  obtain ⟨m1, m2, m3, m4, m5⟩ := hm
  have hB := pm_free hD hS (fun _ h => h)
  have hpre := pm_pre [.ref 0] hP hD hS hK hE hB
  have hrun := va_runI (l := l) (e := e) (below := below) (meth := meth) (locs := locs) (cells := cells) (slots := slots) (R := room_1) (bytes := bytes) (maxL := maxL) (As := []) (rest := rest) (g := F0 m pc ls (.ref (ad 0) :: rest)) (n := 0) ⟨hx, hb, hml, hown, x8⟩ (hM l D cT H.size) ⟨callB_of 0 x8 (pm_gd m2) rfl rfl rfl (x8 _ m3) (x8 _ m1) m4 ⟨hR.1, hR.2⟩, hi.1, x8 _ hi.2⟩ hpre rfl rfl hl.1 rfl (lv_room hw) hd hcs
  refine lg_back hrun hS hB (fun ad' r' σ' H1 locs1 hq2 hP1 hD1 hk1 hS1 => ?_)
  obtain ⟨hag, rfl, rfl⟩ := hq2
  exact kk ad' H1 locs1 hag hP1 (hD1.weaken (fun _ q _ h => hB _ h)) (lg_keep hP2 hap hk1) (lg_ap_new hP2 hap hD1) hS1
set_option maxRecDepth 100000 in
set_option maxHeartbeats 4000000 in
/-- THE LAW, from its entry, where the functions keep the relation -/
theorem lg_whole {p : Program} {e : Env} {s : State} {m : MethodId} {below : List Frame} {meth : Method} {c : Code} (l : Launch) {b L : Nat} {xs : Nat → Int32} {Inv : Nat → hp_S → hp_S → Prop} {K : Nat} (hu : pu_ok K Inv) (hKL : L ≤ 4 * K + 3) (hL : L ≤ 256) (C0 : lw_At p s m meth c b L xs) : W p l e room_1 s m #[Value.ref b] below meth c s.heap [] 0 0 (lw_Z below #[Value.ref b] s) (entryFrame m ([Value.ref b] : List Value).toArray 4) := by
  obtain ⟨hx, hb, hr, hml, hown, hts, hX, hbl, hlocks, hgv⟩ := id C0
  obtain ⟨adS, hES⟩ := lg_E hts hgv
  obtain ⟨D, cT, hK⟩ := lg_K hts
  have hA : ∀ q : Nat, s.heap.size ≤ q → (fun q : Nat => s.heap.size ≤ q) q := fun _ h => h
  have hS : va_S (fun q : Nat => s.heap.size ≤ q) s.heap s.heap [] := va_S.rf
  have hP0 : va_P D vwCl [] s.heap := fun k q h => by simp at h
  have hD0 : va_D (fun q : Nat => s.heap.size ≤ q) [] := ⟨fun i j p q h => by simp at h, fun k q h => by simp at h⟩
  have hl := lv_entry ([.ref b]) (n := 4) (Nat.le_of_ble_eq_true rfl)
  rw [lg_entry_eq]
  generalize (lg_sl ([.ref b]) ++ List.replicate (4 - (lg_sl ([.ref b])).length) Slot.unset).toArray = ls at hl ⊢
  have hl : lv_has ls 4 [(0, .ref b)] := hl
  refine va_new (ci := 10) (fs := [.null, .null, .null, .null, .null, .null, .null, .null, .null, .null, .int 0, .int 0, .int 0, .int 0]) (C := RX10) (T := TX10) (N := 14) hx hb (lg_T hts) iX10 tyX10 tyX10_ok hown (lg_T hts _ (pm_i1 18 rfl rfl)) (lg_T hts _ (pm_i1 19 rfl rfl)) (lg_T hts _ (pm_i1 1 rfl rfl)) hK hP0 hD0 hS hA rfl (by decide) (by decide) (by decide) (lg_d 0 rfl) (fun qC H hP hD hS => ?_)
  refine lv_dup hx hb (lg_d 1 rfl) rfl ?_
  have hPq : va_P D vwCl (pm_w (va_up adS 0 qC) cT cs_C0) H := by
    rw [show cs_C0 = [.inr (10, [.null, .null, .null, .null, .null, .null, .null, .null, .null, .null, .int 0, .int 0, .int 0, .int 0])] from rfl, lg_w1 (fun _ => rfl)]
    exact hP
  have hDq : va_D (fun q : Nat => s.heap.size ≤ q) (pm_w (va_up adS 0 qC) cT cs_C0) := by
    rw [show cs_C0 = [.inr (10, [.null, .null, .null, .null, .null, .null, .null, .null, .null, .null, .int 0, .int 0, .int 0, .int 0])] from rfl, lg_w1 (fun _ => rfl)]
    exact hD
  have hE1 : pm_E (va_up adS 0 qC) (fun q : Nat => s.heap.size ≤ q) s := hES.ad (pm_up_agree (n := 0) (by decide))
  have e1 : (Value.ref qC) = .ref (va_up adS 0 qC 0) := by rw [va_up_self]
  rw [e1]
  refine lg_ctor (w2 := []) (d := 0 + 3) (rest := [.ref (va_up adS 0 qC 0)]) C0 hK hE1 hPq hDq (fun k q h => by simp at h) (fun i j x y hx hy => by simp at hy) hS hl (lg_d 2 rfl) ml_L_9 ⟨iv_X10_init.1, iv_X10_init.2.1⟩ (Nat.le_of_ble_eq_true rfl) (by decide) (by decide) (ct_C 0 (va_up adS 0 qC)) (fun adC H locs hagC hPC hDC _ _ hS => ?_)
  have e2 : va_up adS 0 qC 0 = adC 0 := (hagC 0 (by omega)).symm
  rw [e2]
  have hEC := hE1.ad hagC
  refine lv_astore_n (lv' := [(1, .ref (adC 0)), (0, .ref b)]) hx hb (lg_d 3 rfl) rfl hl (by decide) rfl (fun ls hl => ?_)
  refine va_new (ci := 11) (fs := [.null, .int 0, .null, .int 0, .int 0, .int 0, .int 0, .int 0, .null, .null, .null, .int 0, .int 0, .null, .null, .null, .null, .null, .null, .null, .null, .null, .null, .int 0, .null, .null, .null, .null, .int 0, .null, .null, .null, .int 0, .null, .null, .null, .null, .int 0, .null, .null, .int 0, .int 0, .null, .null, .null, .null, .int 0, .null, .int 0, .int 0, .int 0, .null, .null, .null, .null, .int 0, .int 0, .int 0, .int 0]) (C := RX11) (T := TX11) (N := 59) hx hb (lg_T hts) iX11 tyX11 tyX11_ok hown (lg_T hts _ (pm_i5 8 rfl rfl)) (lg_T hts _ (pm_i5 9 rfl rfl)) (lg_T hts _ (pm_i1 13 rfl rfl)) hK hPC hDC hS hA rfl (by decide) (by decide) (by decide) (lg_d 4 rfl) (fun qM H hP hD hS => ?_)
  refine lv_dup hx hb (lg_d 5 rfl) rfl ?_
  obtain ⟨hPC, hPq, hDC, hDq, hap⟩ := lg_split hP hD
  have hPq : va_P D vwCl (pm_w (va_up adS 0 qM) cT cs_M75) H := by
    rw [show cs_M75 = [.inr (11, [.null, .int 0, .null, .int 0, .int 0, .int 0, .int 0, .int 0, .null, .null, .null, .int 0, .int 0, .null, .null, .null, .null, .null, .null, .null, .null, .null, .null, .int 0, .null, .null, .null, .null, .int 0, .null, .null, .null, .int 0, .null, .null, .null, .null, .int 0, .null, .null, .int 0, .int 0, .null, .null, .null, .null, .int 0, .null, .int 0, .int 0, .int 0, .null, .null, .null, .null, .int 0, .int 0, .int 0, .int 0])] from rfl, lg_w1 (fun _ => rfl)]
    exact hPq
  have hDq : va_D (fun q : Nat => s.heap.size ≤ q) (pm_w (va_up adS 0 qM) cT cs_M75) := by
    rw [show cs_M75 = [.inr (11, [.null, .int 0, .null, .int 0, .int 0, .int 0, .int 0, .int 0, .null, .null, .null, .int 0, .int 0, .null, .null, .null, .null, .null, .null, .null, .null, .null, .null, .int 0, .null, .null, .null, .null, .int 0, .null, .null, .null, .int 0, .null, .null, .null, .null, .int 0, .null, .null, .int 0, .int 0, .null, .null, .null, .null, .int 0, .null, .int 0, .int 0, .int 0, .null, .null, .null, .null, .int 0, .int 0, .int 0, .int 0])] from rfl, lg_w1 (fun _ => rfl)]
    exact hDq
  have hap : lg_ap (pm_w (va_up adS 0 qM) cT cs_M75) (pm_w adC cT cs_C99) := by
    rw [show cs_M75 = [.inr (11, [.null, .int 0, .null, .int 0, .int 0, .int 0, .int 0, .int 0, .null, .null, .null, .int 0, .int 0, .null, .null, .null, .null, .null, .null, .null, .null, .null, .null, .int 0, .null, .null, .null, .null, .int 0, .null, .null, .null, .int 0, .null, .null, .null, .null, .int 0, .null, .null, .int 0, .int 0, .null, .null, .null, .null, .int 0, .null, .int 0, .int 0, .int 0, .null, .null, .null, .null, .int 0, .int 0, .int 0, .int 0])] from rfl, lg_w1 (fun _ => rfl)]
    exact hap
  have hE2 : pm_E (va_up adS 0 qM) (fun q : Nat => s.heap.size ≤ q) s := hES.ad (pm_up_agree (n := 0) (by decide))
  have e3 : (Value.ref qM) = .ref (va_up adS 0 qM 0) := by rw [va_up_self]
  rw [e3]
  refine lg_ctor (w2 := pm_w adC cT cs_C99) (d := 0 + 1) (rest := [.ref (va_up adS 0 qM 0)]) C0 hK hE2 hPq hDq hPC hap hS hl (lg_d 6 rfl) ml_L_12 ⟨iv_X11_init.1, iv_X11_init.2.1⟩ (Nat.le_of_ble_eq_true rfl) (by decide) (by decide) (ct_M 0 (va_up adS 0 qM)) (fun adM H locs hagM hPM hDM hPC hap hS => ?_)
  have e4 : va_up adS 0 qM 0 = adM 0 := (hagM 0 (by omega)).symm
  rw [e4]
  have hEM := hE2.ad hagM
  refine lv_astore_n (lv' := [(2, .ref (adM 0)), (1, .ref (adC 0)), (0, .ref b)]) hx hb (lg_d 7 rfl) rfl hl (by decide) rfl (fun ls hl => ?_)
  refine lv_iconst (v := nI 0) hx hb (lg_d 8 rfl) (by decide) ?_
  refine lv_istore_n (lv' := [(3, .int (nI 0)), (2, .ref (adM 0)), (1, .ref (adC 0)), (0, .ref b)]) hx hb (lg_d 9 rfl) rfl hl (by decide) rfl (fun ls hl => ?_)
  refine W.cs (cells' := 81) (slots' := 183983) (by decide) (by decide) ?_
  rw [s0_C_is] at hPC hDC hap
  rw [s0_M_is] at hPM hDM hap
  exact law_loop hu hKL hL C0 hK hEC hEM (L + 1) 0 _ _ _ (by omega) (by omega) rfl hu.1 _ _ hPC hDC hPM hDM (lg_ap_sy hap) hS ls (lv_sub hl [3, 2, 1, 0] rfl)
