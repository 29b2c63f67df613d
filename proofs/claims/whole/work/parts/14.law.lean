def rc_L : List (Nat × Instr × Nat) := [(0, .new 7, 3), (3, .dup, 1), (4, .invokespecial 9, 3), (7, .astore_n 1, 1), (8, .new 10, 3), (11, .dup, 1), (12, .invokespecial 12, 3), (15, .astore_n 2, 1), (16, .iconst 0, 1), (17, .istore_n 3, 1), (18, .iload_n 3, 1), (19, .aload_n 0, 1), (20, .arraylength, 1), (21, .iconst 4, 1), (22, .isub, 1), (23, .if_icmp .gt 204, 3), (26, .aload_n 0, 1), (27, .iload_n 3, 1), (28, .iaload, 1), (29, .bipush 7, 2), (31, .iand, 1), (32, .tableswitch 189 0 5 #[40, 103, 116, 129, 152, 166], 40), (72, .aload_n 1, 1), (73, .aload_n 0, 1), (74, .iload_n 3, 1), (75, .iconst 1, 1), (76, .iadd, 1), (77, .iaload, 1), (78, .i2l, 1), (79, .bipush 32, 2), (81, .lshl, 1), (82, .aload_n 0, 1), (83, .iload_n 3, 1), (84, .iconst 2, 1), (85, .iadd, 1), (86, .iaload, 1), (87, .i2l, 1), (88, .ldc2_w 13, 3), (91, .land, 1), (92, .lor, 1), (93, .aload_n 0, 1), (94, .iload_n 3, 1), (95, .iconst 3, 1), (96, .iadd, 1), (97, .iaload, 1), (98, .invokevirtual 15, 3), (101, .aload_n 2, 1), (102, .aload_n 0, 1), (103, .iload_n 3, 1), (104, .iconst 1, 1), (105, .iadd, 1), (106, .iaload, 1), (107, .i2l, 1), (108, .bipush 32, 2), (110, .lshl, 1), (111, .aload_n 0, 1), (112, .iload_n 3, 1), (113, .iconst 2, 1), (114, .iadd, 1), (115, .iaload, 1), (116, .i2l, 1), (117, .ldc2_w 13, 3), (120, .land, 1), (121, .lor, 1), (122, .aload_n 0, 1), (123, .iload_n 3, 1), (124, .iconst 3, 1), (125, .iadd, 1), (126, .iaload, 1), (127, .invokevirtual 19, 3), (130, .if_icmp .eq 91, 3), (133, .iconst 0, 1), (134, .ireturn, 1), (135, .aload_n 1, 1), (136, .invokevirtual 20, 3), (139, .aload_n 2, 1), (140, .invokevirtual 24, 3), (143, .if_icmp .eq 78, 3), (146, .iconst 0, 1), (147, .ireturn, 1), (148, .aload_n 1, 1), (149, .invokevirtual 25, 3), (152, .aload_n 2, 1), (153, .invokevirtual 28, 3), (156, .if_icmp .eq 65, 3), (159, .iconst 0, 1), (160, .ireturn, 1), (161, .aload_n 1, 1), (162, .aload_n 0, 1), (163, .iload_n 3, 1), (164, .iconst 1, 1), (165, .iadd, 1), (166, .iaload, 1), (167, .invokevirtual 29, 3), (170, .aload_n 2, 1), (171, .aload_n 0, 1), (172, .iload_n 3, 1), (173, .iconst 1, 1), (174, .iadd, 1), (175, .iaload, 1), (176, .invokevirtual 33, 3), (179, .if_icmp .eq 42, 3), (182, .iconst 0, 1), (183, .ireturn, 1), (184, .aload_n 1, 1), (185, .invokevirtual 34, 3), (188, .aload_n 2, 1), (189, .invokevirtual 38, 3), (192, .lcmp, 1), (193, .ifCond .eq 28, 3), (196, .iconst 0, 1), (197, .ireturn, 1), (198, .aload_n 1, 1), (199, .aload_n 0, 1), (200, .iload_n 3, 1), (201, .iconst 1, 1), (202, .iadd, 1), (203, .iaload, 1), (204, .invokevirtual 39, 3), (207, .aload_n 2, 1), (208, .aload_n 0, 1), (209, .iload_n 3, 1), (210, .iconst 1, 1), (211, .iadd, 1), (212, .iaload, 1), (213, .invokevirtual 43, 3), (216, .if_icmp .eq 5, 3), (219, .iconst 0, 1), (220, .ireturn, 1), (221, .iinc 3 4, 3), (224, .goto (-206), 3), (227, .iconst 1, 1), (228, .ireturn, 1)]
theorem rk_L : ∀ q ∈ rc_L, decode code q.1 = .ok q.2 := by decide +kernel
theorem lg_d (i : Nat) {pc : Nat} {ins : Instr} {len : Nat} (e : rc_L[i]? = some (pc, ins, len)) : decode code pc = .ok (ins, len) := rk_L (pc, ins, len) (List.mem_of_getElem? e)
def s0_C : hp_S := (fun a k => if a = 0 ∧ k = 10 then -1 else if a = 7 ∧ k = 7 then -1 else if a = 7 ∧ k = 8 then -1 else if a = 16 ∧ k = 5 then -1 else 0, fun _ _ => 0)
def s0_M : hp_S := (fun a k => if a = 0 ∧ k = 4 then -1 else 0, fun _ _ => 0)
theorem s0_C_is : cs_C99 = hp sh_C s0_C := rfl
theorem s0_M_is : cs_M74 = hp sh_M s0_M := rfl
/-! THE LAW'S CALLS: two worlds side by side; a call changes its own alone. -/
theorem lg_T {s : State} {b : Nat} (hts : ∀ w ∈ lw_tbl, w.before #[Value.ref b] s = true) : ∀ w ∈ pm_T, w.before #[Value.ref b] s = true := fun w h => hts w (List.mem_filter.mp h).1
theorem lg_back {p : Program} {l : Launch} {e : Env} {R : Room} {s : State} {m : MethodId} {args : Array Value} {below : List Frame} {meth : Method} {c : Code} {D : va_G} {cT : FieldType → ClassId} {A : Nat → Prop} {H : Heap} {locs : List Loc} {cells slots mc ms : Nat} {ls : Array Slot} {ad : Nat → Nat} {σ : pm_H} {N2 T2 : Nat} {Q2 : (Nat → Nat) → Option Value → pm_H → Prop} {Qz : State → Prop} {pc : Nat} {st0 rest : List Value} {a : Array Value}
    (hr : va_Run p l e R s m args below meth c H locs cells slots mc ms (F0 m pc ls st0) rest (pm_Q D cT (va_A (pm_w ad cT σ) H.size) N2 T2 Q2 a) (va_A (pm_w ad cT σ) H.size)) (hS : va_S A s.heap H locs) (hB : ∀ q, va_A (pm_w ad cT σ) H.size q → A q)
    (kk : ∀ (ad' : Nat → Nat) (r : Option Value) (σ' : pm_H) (H1 : Heap) (locs1 : List Loc), Q2 ad' r σ' → va_P D vwCl (pm_w ad' cT σ') H1 → va_D (va_A (pm_w ad cT σ) H.size) (pm_w ad' cT σ') → (∀ q : Nat, q < H.size → ¬ va_A (pm_w ad cT σ) H.size q → H1[q]? = H[q]?) → va_S A s.heap H1 locs1 → W p l e R s m args below meth c H1 locs1 (cells + mc) (slots + ms) Qz (F0 m (pc + 3) ls ((r.map (pm_v ad')).toList ++ rest))) : W p l e R s m args below meth c H locs cells slots Qz (F0 m pc ls st0) := by
  intro T hT X
  obtain ⟨v, st₀, t, T', L, h0, X', hL, e1, e2, ⟨⟨ad', r, σ', hv, hq, hn, ht, hP1, hD1⟩, hz, hk⟩, st⟩ := hr T hT X
  cases hv
  rw [h0] at hz hk
  obtain ⟨t2, a1, b1⟩ := kk ad' r σ' T'.heap (locs ++ L) hq (by rw [e1]; exact hP1) hD1 (fun q g1 g2 => by rw [e1]; exact hk q g1 g2)
    ⟨Nat.le_trans hS.1 (by rw [e1]; exact hz), fun q g1 g2 => by rw [e1, hk q (Nat.lt_of_lt_of_le g1 hS.1) (fun z => g2 (hB q z))]; exact hS.2.1 q g1 g2, fun q hq => by
      rcases List.mem_append.mp hq with h | h
      · exact hS.2.2 q h
      · exact hB _ (hL q h)⟩ T' rfl X'
  exact ⟨t2, st t2 a1, b1⟩
/-- two worlds have no address in common -/
def lg_ap (w1 w2 : va_W) : Prop := ∀ (i j : Nat) (x y : Nat × va_E), w1[i]? = some x → w2[j]? = some y → x.1 ≠ y.1
/-- what isn't the callee's stays -/
theorem lg_keep {D : va_G} {w1 w2 : va_W} {H H1 : Heap} (h2 : va_P D vwCl w2 H) (hap : lg_ap w1 w2) (hk : ∀ q : Nat, q < H.size → ¬ va_A w1 H.size q → H1[q]? = H[q]?) : va_P D vwCl w2 H1 := by
  intro k q hq
  have hl := (h2 k q hq).lt
  refine (h2 k q hq).kept (hk q.1 hl ?_)
  rintro (⟨i, e, hi⟩ | hi)
  · exact hap i k (q.1, e) q hi hq rfl
  · omega
theorem lg_ap_new {D : va_G} {w1 w2 w3 : va_W} {H : Heap} (h2 : va_P D vwCl w2 H) (hap : lg_ap w1 w2) (h3 : va_D (va_A w1 H.size) w3) : lg_ap w3 w2 := by
  intro i j x y hx hy hxy
  have hl := (h2 j y hy).lt
  rcases h3.2 i x hx with ⟨k, e, hk⟩ | hk
  · exact hap k j (x.1, e) y hk hy hxy
  · omega
theorem lg_call {p : Program} {l : Launch} {e : Env} {s : State} {m : MethodId} {below : List Frame} {meth : Method} {c : Code} {b L : Nat} {xs : Nat → Int32} {D : va_G} {cT : FieldType → ClassId} {sh : hp_Sh} {w2 : va_W} {ad : Nat → Nat} {t1 t3 : hp_S} {H : Heap} {locs : List Loc} {cells slots : Nat} {ls : Array Slot} {lv : List (Nat × Value)} {Q : State → Prop} {pc d : Nat} {rest : List Value} {cal : pm_Me} {index n ci : Nat} {fs : List (Option Nat)} {q : vw_C} {r : Option Value}
    (C0 : lw_At p s m meth c b L xs) (hK : va_K D vwCl (pm_ty cT) s) (hE : pm_E ad (fun q : Nat => s.heap.size ≤ q) s) (hP : va_P D vwCl (pm_w ad cT (hp sh t1)) H) (hD : va_D (fun q : Nat => s.heap.size ≤ q) (pm_w ad cT (hp sh t1))) (hP2 : va_P D vwCl w2 H) (hap : lg_ap (pm_w ad cT (hp sh t1)) w2) (hS : va_S (fun q : Nat => s.heap.size ≤ q) s.heap H locs) (hl : lv_has ls 4 lv)
    (As : List Value) (hd : decode code pc = .ok (.invokevirtual index, 3)) (hm : pm_ml R_law index cal n) (hi : Cond.instanceMethod cal.1 ∈ pm_T ∧ Cond.selects cal.1.cls cal.1 cal.1 ∈ pm_T) (ho : sh[0]? = some (.inr (ci, fs))) (hc : vwCl[ci]? = some q) (hq : q.1 = cal.1.cls) (hn : As.length = n) (hAs : As.map (pm_v ad) = As) (hw : (rest.map fun v => v.category).sum ≤ 8) (hR : d + 1 ≤ 2048 ∧ 8 + (cal.2.2.1 + 11) + 40 * d ≤ 84000) (hcs : cells ≤ 600000 ∧ slots ≤ 7302250)
    (hM : hp_is sh cal d (.ref 0 :: As) t1 r t3) (hrv : r.map (pm_v ad) = r)
    (kk : ∀ (H1 : Heap) (locs1 : List Loc), va_P D vwCl (pm_w ad cT (hp sh t3)) H1 → va_D (fun q : Nat => s.heap.size ≤ q) (pm_w ad cT (hp sh t3)) → va_P D vwCl w2 H1 → lg_ap (pm_w ad cT (hp sh t3)) w2 → va_S (fun q : Nat => s.heap.size ≤ q) s.heap H1 locs1 → W p l e room_1 s m #[Value.ref b] below meth c H1 locs1 cells slots Q (F0 m (pc + 3) ls (r.toList ++ rest))) : W p l e room_1 s m #[Value.ref b] below meth c H locs cells slots Q (F0 m pc ls (As.reverse ++ .ref (ad 0) :: rest)) := by
  obtain ⟨hx, hb, hr, hml, hown, hts, hX, hbl, hlocks, hgv⟩ := C0
  have x8 := lg_T hts
  obtain ⟨m1, m2, m3, m4, m5⟩ := hm
  have hB := pm_free hD hS (fun _ h => h)
  have hpre := pm_pre (.ref 0 :: As) hP hD hS hK hE hB
  have e0 : ((.ref 0 :: As : List Value).map (pm_v ad)) = .ref (ad 0) :: As := by
    rw [List.map_cons, hAs]
    rfl
  rw [e0] at hpre
  have hrecv : ∃ cellB : Cell, H[ad 0]? = some cellB ∧ cellB.vm.isStatics = false ∧ s.vm.findClass cal.1.cls = some cellB.cls := by
    rw [← hq]
    exact va_recv hK hP hc (pm_w_get (hp_obj ho))
  have hM1 := hM ad l D cT H.size
  rw [e0] at hM1
  have hrun := va_runV (l := l) (e := e) (below := below) (meth := meth) (locs := locs) (cells := cells) (slots := slots) (R := room_1) (C := cal.1.cls) (bytes := cal.2.1) (maxL := cal.2.2.1) (ret := cal.2.2.2) (As := As) (rest := rest) (g := F0 m pc ls (As.reverse ++ .ref (ad 0) :: rest)) (n := n) ⟨hx, hb, hml, hown, x8⟩ hM1 ⟨callB_of n x8 (pm_gd m2) rfl rfl rfl (x8 _ m3) (x8 _ m1) m4 ⟨hR.1, hR.2⟩, x8 _ hi.1, x8 _ hi.2⟩ ⟨hpre.1, hrecv, hpre.2⟩ rfl hn hl.1 rfl (lv_room hw) hd ⟨by rw [hp_len, Nat.sub_self]; exact hcs.1, by rw [hp_tot, Nat.sub_self]; exact hcs.2⟩
  refine lg_back hrun hS hB (fun ad' r' σ' H1 locs1 hq2 hP1 hD1 hk1 hS1 => ?_)
  obtain ⟨rfl, rfl, rfl⟩ := hq2
  rw [hp_len, hp_tot, Nat.sub_self, Nat.sub_self, hrv]
  exact kk H1 locs1 hP1 (hD1.weaken (fun _ q _ h => hB _ h)) (lg_keep hP2 hap hk1) (lg_ap_new hP2 hap hD1) hS1
theorem lg_ap_sy {w1 w2 : va_W} (h : lg_ap w1 w2) : lg_ap w2 w1 := fun i j x y hx hy e => h j i y x hy hx e.symm
/-- what is asked of the functions: K calls, one after the other, from a relation of the two states to the next -/
def pu_ok (K : Nat) (Inv : Nat → hp_S → hp_S → Prop) : Prop :=
  Inv 0 s0_C s0_M ∧
  (∀ j sC sM v k, j < K → Inv j sC sM → ∃ r tC tM, (∃ n, f_C_X10_put_0 n v k sC = some (r, tC)) ∧ (∃ n, f_M_X11_put_0 n v k sM = some (r, tM)) ∧ Inv (j + 1) tC tM) ∧
  (∀ j sC sM, j < K → Inv j sC sM → ∃ r tC tM, (∃ n, f_C_X10_judge_0 n sC = some (r, tC)) ∧ (∃ n, f_M_X11_judge_0 n sM = some (r, tM)) ∧ Inv (j + 1) tC tM) ∧
  (∀ j sC sM, j < K → Inv j sC sM → ∃ r tC tM, f_C_X10_place_0 sC = some (r, tC) ∧ f_M_X11_place_0 sM = some (r, tM) ∧ Inv (j + 1) tC tM) ∧
  (∀ j sC sM k, j < K → Inv j sC sM → ∃ r tC tM, f_C_X10_isIn_0 k sC = some (r, tC) ∧ f_M_X11_isIn_0 k sM = some (r, tM) ∧ Inv (j + 1) tC tM) ∧
  (∀ j sC sM, j < K → Inv j sC sM → ∃ r tC tM, (∃ n, f_C_X10_fetch_0 n sC = some (r, tC)) ∧ (∃ n, f_M_X11_fetch_0 n sM = some (r, tM)) ∧ Inv (j + 1) tC tM) ∧
  (∀ j sC sM k, j < K → Inv j sC sM → ∃ r tC tM, f_C_X10_count_0 k sC = some (r, tC) ∧ (∃ n, f_M_X11_count_0 n k sM = some (r, tM)) ∧ Inv (j + 1) tC tM) ∧
  (∀ j sC sM, j < K → Inv j sC sM → Inv (j + 1) sC sM)

theorem lg_cmp0 (x : Int64) : lg_cmp x x = 0 := by simp [lg_cmp]
set_option maxRecDepth 100000 in
set_option maxHeartbeats 4000000 in
/-- THE LAW'S LOOP -/
theorem law_loop {p : Program} {l : Launch} {e : Env} {s : State} {m : MethodId} {below : List Frame} {meth : Method} {c : Code} {b L : Nat} {xs : Nat → Int32} {D : va_G} {cT : FieldType → ClassId} {adC adM : Nat → Nat} {Inv : Nat → hp_S → hp_S → Prop} {K : Nat} (hu : pu_ok K Inv) (hKL : L ≤ 4 * K + 3) (hL : L ≤ 256) (C0 : lw_At p s m meth c b L xs) (hK : va_K D vwCl (pm_ty cT) s) (hEC : pm_E adC (fun q : Nat => s.heap.size ≤ q) s) (hEM : pm_E adM (fun q : Nat => s.heap.size ≤ q) s) :
    ∀ (n j : Nat) (x3 : Int32) (sC sM : hp_S), L + 1 ≤ 4 * j + n → 4 * j ≤ L + 3 → x3 = nI (4 * j) → Inv j sC sM → ∀ (H : Heap) (locs : List Loc), va_P D vwCl (pm_w adC cT (hp sh_C sC)) H → va_D (fun q : Nat => s.heap.size ≤ q) (pm_w adC cT (hp sh_C sC)) → va_P D vwCl (pm_w adM cT (hp sh_M sM)) H → va_D (fun q : Nat => s.heap.size ≤ q) (pm_w adM cT (hp sh_M sM)) → lg_ap (pm_w adC cT (hp sh_C sC)) (pm_w adM cT (hp sh_M sM)) → va_S (fun q : Nat => s.heap.size ≤ q) s.heap H locs → ∀ (ls : Array Slot), lv_has ls 4 [(0, .ref b), (1, .ref (adC 0)), (2, .ref (adM 0)), (3, .int x3)] → W p l e room_1 s m #[Value.ref b] below meth c H locs 81 183983 (lw_Z below #[Value.ref b] s) (F0 m 18 ls []) := by
  obtain ⟨hx, hb, hr, hml, hown, hts, hX, hbl, hlocks, hgv⟩ := id C0
  obtain ⟨-, u_put, u_judge, u_place, u_isIn, u_fetch, u_count, u_none⟩ := hu
  have hbA : ¬ (fun q : Nat => s.heap.size ≤ q) b := Nat.not_le.mpr hbl
  intro n
  induction n with
  | zero =>
    intro j x3 sC sM h1 h2 hx3 hI H locs hPC hDC hPM hDM hap hS ls hl
    refine lv_iload_n hx hb (lg_d 10 rfl) rfl (lv_at hl 3 rfl) ?_
    refine lv_aload_n hx hb (lg_d 11 rfl) rfl (lv_at hl 0 rfl) ?_
    refine va_slen hx hb hX hbl hbA hS (lg_d 12 rfl) ?_
    refine lv_iconst (v := nI 4) hx hb (lg_d 13 rfl) (by decide) ?_
    refine lv_isub hx hb (lg_d 14 rfl) ?_
    refine lv_icmp_gt (tgt := 227) hx hb (lg_d 15 rfl) (by decide) (fun hc => ?_) (fun hc => ?_)
    · refine lv_iconst (v := 1) hx hb (lg_d 131 rfl) (by decide) ?_
      refine va_forget (fun q hq => hS.2.2 q hq) ?_
      refine W.widen (k := 600000) (n := 7302250) (by decide) (by decide) ?_
      exact lw_ret hx hb hr hlocks (lg_d 132 rfl)
    · exfalso
      apply hc
      rw [Int32.lt_iff_toInt_lt, hx3, nI_toInt (by omega)]
      show (nI L - nI 4).toInt < _
      rw [pk_sub_toInt (by omega) (by omega)]
      omega
  | succ n ih =>
    intro j x3 sC sM h1 h2 hx3 hI H locs hPC hDC hPM hDM hap hS ls hl
    refine lv_iload_n hx hb (lg_d 10 rfl) rfl (lv_at hl 3 rfl) ?_
    refine lv_aload_n hx hb (lg_d 11 rfl) rfl (lv_at hl 0 rfl) ?_
    refine va_slen hx hb hX hbl hbA hS (lg_d 12 rfl) ?_
    refine lv_iconst (v := nI 4) hx hb (lg_d 13 rfl) (by decide) ?_
    refine lv_isub hx hb (lg_d 14 rfl) ?_
    refine lv_icmp_gt (tgt := 227) hx hb (lg_d 15 rfl) (by decide) (fun hc => ?_) (fun hc => ?_)
    · refine lv_iconst (v := 1) hx hb (lg_d 131 rfl) (by decide) ?_
      refine va_forget (fun q hq => hS.2.2 q hq) ?_
      refine W.widen (k := 600000) (n := 7302250) (by decide) (by decide) ?_
      exact lw_ret hx hb hr hlocks (lg_d 132 rfl)
    have hlt : 4 * j + 4 ≤ L := by
      rcases Nat.lt_or_ge L (4 * j + 4) with q | q
      · exfalso
        apply hc
        rw [Int32.lt_iff_toInt_lt, hx3, nI_toInt (by omega)]
        show (nI L - nI 4).toInt < _
        rw [pk_sub_toInt (by omega) (by omega)]
        omega
      · exact q
    have hj : j < K := by omega
    refine lv_aload_n hx hb (lg_d 16 rfl) rfl (lv_at hl 0 rfl) ?_
    refine lv_iload_n hx hb (lg_d 17 rfl) rfl (lv_at hl 3 rfl) ?_
    refine va_sld hx hb hX hbl hbA hS (by rw [hx3]; exact vp_in_nI (show 4 * j < L by omega) (by omega)) (lg_d 18 rfl) ?_
    refine lv_bipush (v := 7) hx hb (lg_d 19 rfl) (by decide) ?_
    refine lv_iand hx hb (lg_d 20 rfl) ?_
    obtain ⟨q, hq8, hq⟩ := pk_andE (xs x3.toNatClampNeg) (m := 7) 3 (by decide)
    rw [hq]
    rcases (show q = 0 ∨ q = 1 ∨ q = 2 ∨ q = 3 ∨ q = 4 ∨ q = 5 ∨ q = 6 ∨ q = 7 by omega) with rfl | rfl | rfl | rfl | rfl | rfl | rfl | rfl
    · refine lv_tableIn (tgt := 72) hx hb (lg_d 21 rfl) (by decide) (by decide) rfl (by decide) ?_
      refine lv_aload_n hx hb (lg_d 22 rfl) rfl (lv_at hl 1 rfl) ?_
      refine lv_aload_n hx hb (lg_d 23 rfl) rfl (lv_at hl 0 rfl) ?_
      refine lv_iload_n hx hb (lg_d 24 rfl) rfl (lv_at hl 3 rfl) ?_
      refine lv_iconst (v := nI 1) hx hb (lg_d 25 rfl) (by decide) ?_
      refine lv_iadd hx hb (lg_d 26 rfl) ?_
      rw [hx3, nI_add]
      refine va_sld hx hb hX hbl hbA hS (vp_in_nI (show 4 * j + 1 < L by omega) (by omega)) (lg_d 27 rfl) ?_
      rw [nI_clamp (show 4 * j + 1 < 2 ^ 31 by omega)]
      refine lv_i2l hx hb (lg_d 28 rfl) rfl ?_
      refine lv_bipush (v := 32) hx hb (lg_d 29 rfl) (by decide) ?_
      refine lv_lshl hx hb (lg_d 30 rfl) rfl ?_
      refine lv_aload_n hx hb (lg_d 31 rfl) rfl (lv_at hl 0 rfl) ?_
      refine lv_iload_n hx hb (lg_d 32 rfl) rfl (lv_at hl 3 rfl) ?_
      refine lv_iconst (v := nI 2) hx hb (lg_d 33 rfl) (by decide) ?_
      refine lv_iadd hx hb (lg_d 34 rfl) ?_
      rw [hx3, nI_add]
      refine va_sld hx hb hX hbl hbA hS (vp_in_nI (show 4 * j + 2 < L by omega) (by omega)) (lg_d 35 rfl) ?_
      rw [nI_clamp (show 4 * j + 2 < 2 ^ 31 by omega)]
      refine lv_i2l hx hb (lg_d 36 rfl) rfl ?_
      refine lv_ldc2 (v := 4294967295) hx hb hown (lg_T hts _ (pm_i6 151 rfl rfl)) (lg_d 37 rfl) ?_
      refine lv_land hx hb (lg_d 38 rfl) ?_
      refine lv_lor hx hb (lg_d 39 rfl) ?_
      refine lv_topl (fun v ev => ?_)
      refine lv_aload_n hx hb (lg_d 40 rfl) rfl (lv_at hl 0 rfl) ?_
      refine lv_iload_n hx hb (lg_d 41 rfl) rfl (lv_at hl 3 rfl) ?_
      refine lv_iconst (v := nI 3) hx hb (lg_d 42 rfl) (by decide) ?_
      refine lv_iadd hx hb (lg_d 43 rfl) ?_
      rw [hx3, nI_add]
      refine va_sld hx hb hX hbl hbA hS (vp_in_nI (show 4 * j + 3 < L by omega) (by omega)) (lg_d 44 rfl) ?_
      rw [nI_clamp (show 4 * j + 3 < 2 ^ 31 by omega)]
      obtain ⟨r, tC, tM, ⟨n1, h1c⟩, ⟨n2, h2c⟩, hI2⟩ := u_put j sC sM v (xs (4 * j + 3)) hj hI
      refine lg_call (d := 0 + 1) (rest := []) C0 hK hEC hPC hDC hPM hap hS hl [.long v, .int (xs (4 * j + 3))] (lg_d 45 rfl) ml_L_15 iv_X10_put rfl rfl rfl rfl rfl (Nat.le_of_ble_eq_true rfl) (by decide) (by decide) (w_C_X10_put_0 (d := 0) (h := h1c)) rfl (fun H locs hPC hDC hPM hap hS => ?_)
      refine lv_aload_n hx hb (lg_d 46 rfl) rfl (lv_at hl 2 rfl) ?_
      refine lv_aload_n hx hb (lg_d 47 rfl) rfl (lv_at hl 0 rfl) ?_
      refine lv_iload_n hx hb (lg_d 48 rfl) rfl (lv_at hl 3 rfl) ?_
      refine lv_iconst (v := nI 1) hx hb (lg_d 49 rfl) (by decide) ?_
      refine lv_iadd hx hb (lg_d 50 rfl) ?_
      rw [hx3, nI_add]
      refine va_sld hx hb hX hbl hbA hS (vp_in_nI (show 4 * j + 1 < L by omega) (by omega)) (lg_d 51 rfl) ?_
      rw [nI_clamp (show 4 * j + 1 < 2 ^ 31 by omega)]
      refine lv_i2l hx hb (lg_d 52 rfl) rfl ?_
      refine lv_bipush (v := 32) hx hb (lg_d 53 rfl) (by decide) ?_
      refine lv_lshl hx hb (lg_d 54 rfl) rfl ?_
      refine lv_aload_n hx hb (lg_d 55 rfl) rfl (lv_at hl 0 rfl) ?_
      refine lv_iload_n hx hb (lg_d 56 rfl) rfl (lv_at hl 3 rfl) ?_
      refine lv_iconst (v := nI 2) hx hb (lg_d 57 rfl) (by decide) ?_
      refine lv_iadd hx hb (lg_d 58 rfl) ?_
      rw [hx3, nI_add]
      refine va_sld hx hb hX hbl hbA hS (vp_in_nI (show 4 * j + 2 < L by omega) (by omega)) (lg_d 59 rfl) ?_
      rw [nI_clamp (show 4 * j + 2 < 2 ^ 31 by omega)]
      refine lv_i2l hx hb (lg_d 60 rfl) rfl ?_
      refine lv_ldc2 (v := 4294967295) hx hb hown (lg_T hts _ (pm_i6 151 rfl rfl)) (lg_d 61 rfl) ?_
      refine lv_land hx hb (lg_d 62 rfl) ?_
      refine lv_lor hx hb (lg_d 63 rfl) ?_
      refine lv_topl (fun v2 ev2 => ?_)
      obtain rfl : v2 = v := ev2.trans ev.symm
      refine lv_aload_n hx hb (lg_d 64 rfl) rfl (lv_at hl 0 rfl) ?_
      refine lv_iload_n hx hb (lg_d 65 rfl) rfl (lv_at hl 3 rfl) ?_
      refine lv_iconst (v := nI 3) hx hb (lg_d 66 rfl) (by decide) ?_
      refine lv_iadd hx hb (lg_d 67 rfl) ?_
      rw [hx3, nI_add]
      refine va_sld hx hb hX hbl hbA hS (vp_in_nI (show 4 * j + 3 < L by omega) (by omega)) (lg_d 68 rfl) ?_
      rw [nI_clamp (show 4 * j + 3 < 2 ^ 31 by omega)]
      refine lg_call (d := 0 + 0) (rest := [.int r]) C0 hK hEM hPM hDM hPC (lg_ap_sy hap) hS hl [.long v2, .int (xs (4 * j + 3))] (lg_d 69 rfl) ml_L_19 iv_X11_put rfl rfl rfl rfl rfl (Nat.le_of_ble_eq_true rfl) (by decide) (by decide) (w_M_X11_put_0 (d := 0) (h := h2c)) rfl (fun H locs hPM hDM hPC hap2 hS => ?_)
      have hap := lg_ap_sy hap2
      refine lv_icmp_eq (tgt := 221) hx hb (lg_d 70 rfl) (by decide) (fun _ => ?_) (fun hc => absurd rfl hc)
      refine lv_iinc (v := nI (4 * (j + 1))) (lv' := [(3, .int (nI (4 * (j + 1)))), (0, .ref b), (1, .ref (adC 0)), (2, .ref (adM 0))]) hx hb (lg_d 129 rfl) hl (k := 3) rfl (by rw [hx3, show Int32.ofInt 4 = nI 4 by decide, nI_add]; rfl) (by decide) rfl (fun ls hl => ?_)
      refine lv_goto (tgt := 18) hx hb (lg_d 130 rfl) (by decide) ?_
      exact ih (j + 1) _ _ _ (by omega) (by omega) rfl hI2 _ _ hPC hDC hPM hDM hap hS ls (lv_sub hl [1, 2, 3, 0] rfl)
    · refine lv_tableIn (tgt := 135) hx hb (lg_d 21 rfl) (by decide) (by decide) rfl (by decide) ?_
      obtain ⟨r, tC, tM, ⟨n1, h1c⟩, ⟨n2, h2c⟩, hI2⟩ := u_judge j sC sM hj hI
      refine lv_aload_n hx hb (lg_d 73 rfl) rfl (lv_at hl 1 rfl) ?_
      refine lg_call (d := 0 + 172) (rest := []) C0 hK hEC hPC hDC hPM hap hS hl [] (lg_d 74 rfl) ml_L_20 iv_X10_judge rfl rfl rfl rfl rfl (Nat.le_of_ble_eq_true rfl) (by decide) (by decide) (w_C_X10_judge_0 (d := 0) (h := h1c)) rfl (fun H locs hPC hDC hPM hap hS => ?_)
      refine lv_aload_n hx hb (lg_d 75 rfl) rfl (lv_at hl 2 rfl) ?_
      refine lg_call (d := 0 + 7) (rest := [.int r]) C0 hK hEM hPM hDM hPC (lg_ap_sy hap) hS hl [] (lg_d 76 rfl) ml_L_24 iv_X11_judge rfl rfl rfl rfl rfl (Nat.le_of_ble_eq_true rfl) (by decide) (by decide) (w_M_X11_judge_0 (d := 0) (h := h2c)) rfl (fun H locs hPM hDM hPC hap2 hS => ?_)
      have hap := lg_ap_sy hap2
      refine lv_icmp_eq (tgt := 221) hx hb (lg_d 77 rfl) (by decide) (fun _ => ?_) (fun hc => absurd rfl hc)
      refine lv_iinc (v := nI (4 * (j + 1))) (lv' := [(3, .int (nI (4 * (j + 1)))), (0, .ref b), (1, .ref (adC 0)), (2, .ref (adM 0))]) hx hb (lg_d 129 rfl) hl (k := 3) rfl (by rw [hx3, show Int32.ofInt 4 = nI 4 by decide, nI_add]; rfl) (by decide) rfl (fun ls hl => ?_)
      refine lv_goto (tgt := 18) hx hb (lg_d 130 rfl) (by decide) ?_
      exact ih (j + 1) _ _ _ (by omega) (by omega) rfl hI2 _ _ hPC hDC hPM hDM hap hS ls (lv_sub hl [1, 2, 3, 0] rfl)
    · refine lv_tableIn (tgt := 148) hx hb (lg_d 21 rfl) (by decide) (by decide) rfl (by decide) ?_
      obtain ⟨r, tC, tM, h1c, h2c, hI2⟩ := u_place j sC sM hj hI
      refine lv_aload_n hx hb (lg_d 80 rfl) rfl (lv_at hl 1 rfl) ?_
      refine lg_call (d := 0 + 0) (rest := []) C0 hK hEC hPC hDC hPM hap hS hl [] (lg_d 81 rfl) ml_L_25 iv_X10_place rfl rfl rfl rfl rfl (Nat.le_of_ble_eq_true rfl) (by decide) (by decide) (w_C_X10_place_0 (d := 0) (h := h1c)) rfl (fun H locs hPC hDC hPM hap hS => ?_)
      refine lv_aload_n hx hb (lg_d 82 rfl) rfl (lv_at hl 2 rfl) ?_
      refine lg_call (d := 0 + 0) (rest := [.int r]) C0 hK hEM hPM hDM hPC (lg_ap_sy hap) hS hl [] (lg_d 83 rfl) ml_L_28 iv_X11_place rfl rfl rfl rfl rfl (Nat.le_of_ble_eq_true rfl) (by decide) (by decide) (w_M_X11_place_0 (d := 0) (h := h2c)) rfl (fun H locs hPM hDM hPC hap2 hS => ?_)
      have hap := lg_ap_sy hap2
      refine lv_icmp_eq (tgt := 221) hx hb (lg_d 84 rfl) (by decide) (fun _ => ?_) (fun hc => absurd rfl hc)
      refine lv_iinc (v := nI (4 * (j + 1))) (lv' := [(3, .int (nI (4 * (j + 1)))), (0, .ref b), (1, .ref (adC 0)), (2, .ref (adM 0))]) hx hb (lg_d 129 rfl) hl (k := 3) rfl (by rw [hx3, show Int32.ofInt 4 = nI 4 by decide, nI_add]; rfl) (by decide) rfl (fun ls hl => ?_)
      refine lv_goto (tgt := 18) hx hb (lg_d 130 rfl) (by decide) ?_
      exact ih (j + 1) _ _ _ (by omega) (by omega) rfl hI2 _ _ hPC hDC hPM hDM hap hS ls (lv_sub hl [1, 2, 3, 0] rfl)
    · refine lv_tableIn (tgt := 161) hx hb (lg_d 21 rfl) (by decide) (by decide) rfl (by decide) ?_
      obtain ⟨r, tC, tM, h1c, h2c, hI2⟩ := u_isIn j sC sM (xs (4 * j + 1)) hj hI
      refine lv_aload_n hx hb (lg_d 87 rfl) rfl (lv_at hl 1 rfl) ?_
      refine lv_aload_n hx hb (lg_d 88 rfl) rfl (lv_at hl 0 rfl) ?_
      refine lv_iload_n hx hb (lg_d 89 rfl) rfl (lv_at hl 3 rfl) ?_
      refine lv_iconst (v := nI 1) hx hb (lg_d 90 rfl) (by decide) ?_
      refine lv_iadd hx hb (lg_d 91 rfl) ?_
      rw [hx3, nI_add]
      refine va_sld hx hb hX hbl hbA hS (vp_in_nI (show 4 * j + 1 < L by omega) (by omega)) (lg_d 92 rfl) ?_
      rw [nI_clamp (show 4 * j + 1 < 2 ^ 31 by omega)]
      refine lg_call (d := 0 + 0) (rest := []) C0 hK hEC hPC hDC hPM hap hS hl [.int (xs (4 * j + 1))] (lg_d 93 rfl) ml_L_29 iv_X10_isIn rfl rfl rfl rfl rfl (Nat.le_of_ble_eq_true rfl) (by decide) (by decide) (w_C_X10_isIn_0 (d := 0) (h := h1c)) rfl (fun H locs hPC hDC hPM hap hS => ?_)
      refine lv_aload_n hx hb (lg_d 94 rfl) rfl (lv_at hl 2 rfl) ?_
      refine lv_aload_n hx hb (lg_d 95 rfl) rfl (lv_at hl 0 rfl) ?_
      refine lv_iload_n hx hb (lg_d 96 rfl) rfl (lv_at hl 3 rfl) ?_
      refine lv_iconst (v := nI 1) hx hb (lg_d 97 rfl) (by decide) ?_
      refine lv_iadd hx hb (lg_d 98 rfl) ?_
      rw [hx3, nI_add]
      refine va_sld hx hb hX hbl hbA hS (vp_in_nI (show 4 * j + 1 < L by omega) (by omega)) (lg_d 99 rfl) ?_
      rw [nI_clamp (show 4 * j + 1 < 2 ^ 31 by omega)]
      refine lg_call (d := 0 + 0) (rest := [.int r]) C0 hK hEM hPM hDM hPC (lg_ap_sy hap) hS hl [.int (xs (4 * j + 1))] (lg_d 100 rfl) ml_L_33 iv_X11_isIn rfl rfl rfl rfl rfl (Nat.le_of_ble_eq_true rfl) (by decide) (by decide) (w_M_X11_isIn_0 (d := 0) (h := h2c)) rfl (fun H locs hPM hDM hPC hap2 hS => ?_)
      have hap := lg_ap_sy hap2
      refine lv_icmp_eq (tgt := 221) hx hb (lg_d 101 rfl) (by decide) (fun _ => ?_) (fun hc => absurd rfl hc)
      refine lv_iinc (v := nI (4 * (j + 1))) (lv' := [(3, .int (nI (4 * (j + 1)))), (0, .ref b), (1, .ref (adC 0)), (2, .ref (adM 0))]) hx hb (lg_d 129 rfl) hl (k := 3) rfl (by rw [hx3, show Int32.ofInt 4 = nI 4 by decide, nI_add]; rfl) (by decide) rfl (fun ls hl => ?_)
      refine lv_goto (tgt := 18) hx hb (lg_d 130 rfl) (by decide) ?_
      exact ih (j + 1) _ _ _ (by omega) (by omega) rfl hI2 _ _ hPC hDC hPM hDM hap hS ls (lv_sub hl [1, 2, 3, 0] rfl)
    · refine lv_tableIn (tgt := 184) hx hb (lg_d 21 rfl) (by decide) (by decide) rfl (by decide) ?_
      obtain ⟨r, tC, tM, ⟨n1, h1c⟩, ⟨n2, h2c⟩, hI2⟩ := u_fetch j sC sM hj hI
      refine lv_aload_n hx hb (lg_d 104 rfl) rfl (lv_at hl 1 rfl) ?_
      refine lg_call (d := 0 + 2) (rest := []) C0 hK hEC hPC hDC hPM hap hS hl [] (lg_d 105 rfl) ml_L_34 iv_X10_fetch rfl rfl rfl rfl rfl (Nat.le_of_ble_eq_true rfl) (by decide) (by decide) (w_C_X10_fetch_0 (d := 0) (h := h1c)) rfl (fun H locs hPC hDC hPM hap hS => ?_)
      refine lv_aload_n hx hb (lg_d 106 rfl) rfl (lv_at hl 2 rfl) ?_
      refine lg_call (d := 0 + 0) (rest := [.long r]) C0 hK hEM hPM hDM hPC (lg_ap_sy hap) hS hl [] (lg_d 107 rfl) ml_L_38 iv_X11_fetch rfl rfl rfl rfl rfl (Nat.le_of_ble_eq_true rfl) (by decide) (by decide) (w_M_X11_fetch_0 (d := 0) (h := h2c)) rfl (fun H locs hPM hDM hPC hap2 hS => ?_)
      have hap := lg_ap_sy hap2
      refine W.lcmp hx hb (lg_d 108 rfl) ?_
      refine lv_if_eq (tgt := 221) hx hb (lg_d 109 rfl) (by decide) (fun _ => ?_) (fun hc => absurd (lg_cmp0 r) hc)
      refine lv_iinc (v := nI (4 * (j + 1))) (lv' := [(3, .int (nI (4 * (j + 1)))), (0, .ref b), (1, .ref (adC 0)), (2, .ref (adM 0))]) hx hb (lg_d 129 rfl) hl (k := 3) rfl (by rw [hx3, show Int32.ofInt 4 = nI 4 by decide, nI_add]; rfl) (by decide) rfl (fun ls hl => ?_)
      refine lv_goto (tgt := 18) hx hb (lg_d 130 rfl) (by decide) ?_
      exact ih (j + 1) _ _ _ (by omega) (by omega) rfl hI2 _ _ hPC hDC hPM hDM hap hS ls (lv_sub hl [1, 2, 3, 0] rfl)
    · refine lv_tableIn (tgt := 198) hx hb (lg_d 21 rfl) (by decide) (by decide) rfl (by decide) ?_
      obtain ⟨r, tC, tM, h1c, ⟨n2, h2c⟩, hI2⟩ := u_count j sC sM (xs (4 * j + 1)) hj hI
      refine lv_aload_n hx hb (lg_d 112 rfl) rfl (lv_at hl 1 rfl) ?_
      refine lv_aload_n hx hb (lg_d 113 rfl) rfl (lv_at hl 0 rfl) ?_
      refine lv_iload_n hx hb (lg_d 114 rfl) rfl (lv_at hl 3 rfl) ?_
      refine lv_iconst (v := nI 1) hx hb (lg_d 115 rfl) (by decide) ?_
      refine lv_iadd hx hb (lg_d 116 rfl) ?_
      rw [hx3, nI_add]
      refine va_sld hx hb hX hbl hbA hS (vp_in_nI (show 4 * j + 1 < L by omega) (by omega)) (lg_d 117 rfl) ?_
      rw [nI_clamp (show 4 * j + 1 < 2 ^ 31 by omega)]
      refine lg_call (d := 0 + 1) (rest := []) C0 hK hEC hPC hDC hPM hap hS hl [.int (xs (4 * j + 1))] (lg_d 118 rfl) ml_L_39 iv_X10_count rfl rfl rfl rfl rfl (Nat.le_of_ble_eq_true rfl) (by decide) (by decide) (w_C_X10_count_0 (d := 0) (h := h1c)) rfl (fun H locs hPC hDC hPM hap hS => ?_)
      refine lv_aload_n hx hb (lg_d 119 rfl) rfl (lv_at hl 2 rfl) ?_
      refine lv_aload_n hx hb (lg_d 120 rfl) rfl (lv_at hl 0 rfl) ?_
      refine lv_iload_n hx hb (lg_d 121 rfl) rfl (lv_at hl 3 rfl) ?_
      refine lv_iconst (v := nI 1) hx hb (lg_d 122 rfl) (by decide) ?_
      refine lv_iadd hx hb (lg_d 123 rfl) ?_
      rw [hx3, nI_add]
      refine va_sld hx hb hX hbl hbA hS (vp_in_nI (show 4 * j + 1 < L by omega) (by omega)) (lg_d 124 rfl) ?_
      rw [nI_clamp (show 4 * j + 1 < 2 ^ 31 by omega)]
      refine lg_call (d := 0 + 0) (rest := [.int r]) C0 hK hEM hPM hDM hPC (lg_ap_sy hap) hS hl [.int (xs (4 * j + 1))] (lg_d 125 rfl) ml_L_43 iv_X11_count rfl rfl rfl rfl rfl (Nat.le_of_ble_eq_true rfl) (by decide) (by decide) (w_M_X11_count_0 (d := 0) (h := h2c)) rfl (fun H locs hPM hDM hPC hap2 hS => ?_)
      have hap := lg_ap_sy hap2
      refine lv_icmp_eq (tgt := 221) hx hb (lg_d 126 rfl) (by decide) (fun _ => ?_) (fun hc => absurd rfl hc)
      refine lv_iinc (v := nI (4 * (j + 1))) (lv' := [(3, .int (nI (4 * (j + 1)))), (0, .ref b), (1, .ref (adC 0)), (2, .ref (adM 0))]) hx hb (lg_d 129 rfl) hl (k := 3) rfl (by rw [hx3, show Int32.ofInt 4 = nI 4 by decide, nI_add]; rfl) (by decide) rfl (fun ls hl => ?_)
      refine lv_goto (tgt := 18) hx hb (lg_d 130 rfl) (by decide) ?_
      exact ih (j + 1) _ _ _ (by omega) (by omega) rfl hI2 _ _ hPC hDC hPM hDM hap hS ls (lv_sub hl [1, 2, 3, 0] rfl)
    · refine lv_tableOut (tgt := 221) hx hb (lg_d 21 rfl) (by decide) (by decide) ?_
      refine lv_iinc (v := nI (4 * (j + 1))) (lv' := [(3, .int (nI (4 * (j + 1)))), (0, .ref b), (1, .ref (adC 0)), (2, .ref (adM 0))]) hx hb (lg_d 129 rfl) hl (k := 3) rfl (by rw [hx3, show Int32.ofInt 4 = nI 4 by decide, nI_add]; rfl) (by decide) rfl (fun ls hl => ?_)
      refine lv_goto (tgt := 18) hx hb (lg_d 130 rfl) (by decide) ?_
      exact ih (j + 1) _ _ _ (by omega) (by omega) rfl (u_none j sC sM hj hI) _ _ hPC hDC hPM hDM hap hS ls (lv_sub hl [1, 2, 3, 0] rfl)
    · refine lv_tableOut (tgt := 221) hx hb (lg_d 21 rfl) (by decide) (by decide) ?_
      refine lv_iinc (v := nI (4 * (j + 1))) (lv' := [(3, .int (nI (4 * (j + 1)))), (0, .ref b), (1, .ref (adC 0)), (2, .ref (adM 0))]) hx hb (lg_d 129 rfl) hl (k := 3) rfl (by rw [hx3, show Int32.ofInt 4 = nI 4 by decide, nI_add]; rfl) (by decide) rfl (fun ls hl => ?_)
      refine lv_goto (tgt := 18) hx hb (lg_d 130 rfl) (by decide) ?_
      exact ih (j + 1) _ _ _ (by omega) (by omega) rfl (u_none j sC sM hj hI) _ _ hPC hDC hPM hDM hap hS ls (lv_sub hl [1, 2, 3, 0] rfl)
