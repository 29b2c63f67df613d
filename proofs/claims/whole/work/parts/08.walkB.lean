def rec_ok (rec : Nat → Int32 → Int32 → Int32 → hp_S → Option (Int32 × hp_S)) (D : Nat) : Prop :=
  (∀ (a : Int32) (s : hp_S) (x : Int32) (s1 : hp_S), rec 0 a 0 0 s = some (x, s1) → hp_is sh_C me_X4_expression D [.ref 7, .int a] s (some (.int x)) s1) ∧
  (∀ (a : Int32) (s : hp_S) (x : Int32) (s1 : hp_S), rec 1 a 0 0 s = some (x, s1) → hp_is sh_C me_X4_function D [.ref 7, .int a] s (some (.int x)) s1) ∧
  (∀ (a : Int32) (s : hp_S) (x : Int32) (s1 : hp_S), rec 2 a 0 0 s = some (x, s1) → hp_is sh_C me_X4_let D [.ref 7, .int a] s (some (.int x)) s1) ∧
  (∀ (a b : Int32) (s : hp_S) (x : Int32) (s1 : hp_S), rec 3 a b 0 s = some (x, s1) → hp_is sh_C me_X4_expressionInScope D [.ref 7, .int a, .int b] s (some (.int x)) s1) ∧
  (∀ (a : Int32) (s : hp_S) (x : Int32) (s1 : hp_S), rec 4 a 0 0 s = some (x, s1) → hp_is sh_C me_X4_choice D [.ref 7, .int a] s (some (.int x)) s1) ∧
  (∀ (a : Int32) (s : hp_S) (x : Int32) (s1 : hp_S), rec 5 a 0 0 s = some (x, s1) → hp_is sh_C me_X4_comparison D [.ref 7, .int a] s (some (.int x)) s1) ∧
  (∀ (a : Int32) (s : hp_S) (x : Int32) (s1 : hp_S), rec 6 a 0 0 s = some (x, s1) → hp_is sh_C me_X4_sum D [.ref 7, .int a] s (some (.int x)) s1) ∧
  (∀ (a : Int32) (s : hp_S) (x : Int32) (s1 : hp_S), rec 7 a 0 0 s = some (x, s1) → hp_is sh_C me_X4_call D [.ref 7, .int a] s (some (.int x)) s1) ∧
  (∀ (a : Int32) (s : hp_S) (x : Int32) (s1 : hp_S), rec 8 a 0 0 s = some (x, s1) → hp_is sh_C me_X4_atom D [.ref 7, .int a] s (some (.int x)) s1) ∧
  (∀ (a : Int32) (s : hp_S) (x : Int32) (s1 : hp_S), rec 9 a 0 0 s = some (x, s1) → hp_is sh_C me_X4_bracketed D [.ref 7, .int a] s (some (.int x)) s1) ∧
  (∀ (a b c : Int32) (s : hp_S) (x : Int32) (s1 : hp_S), rec 10 a b c s = some (x, s1) → hp_is sh_C me_X4_pair D [.ref 7, .int a, .int b, .int c] s (some (.int x)) s1)
def f_C_X6_kind_3 (a1 : Int32) (s : hp_S) : Option (Int32 × hp_S) :=
  if a1 < 0 then
    some ((0 : Int32), s)
  else
    if (hs_I s 3 4) ≤ a1 then
      some ((0 : Int32), s)
    else
      pm_gd1 (pm_ib a1 500) (
      some ((hs_A s 4 a1.toNatClampNeg), s))
set_option maxRecDepth 100000 in
set_option maxHeartbeats 400000 in
theorem w_C_X6_kind_3 (d : Nat) (a1 : Int32) (s s1 : hp_S) (x0 : Int32) (h : f_C_X6_kind_3 a1 s = some (x0, s1)) : hp_is sh_C me_X6_kind (d + 0) [.ref 3, .int a1] s (some (.int x0)) s1 := by
  refine hp_ofF [(0, .ref 3), (1, .int a1)] (by decide +kernel) (Nat.le_of_ble_eq_true rfl) rfl ?_
  unfold f_C_X6_kind_3 at h
  refine hq_iload_n (pm_d rk_X6_kind 0 rfl) rfl 1 rfl ?_
  refine hq_if_lt 21 (pm_d rk_X6_kind 1 rfl) (by decide) (fun hc => ?_) (fun hc => ?_)
  · rw [if_pos hc] at h
    refine hq_iconst (v := (0 : Int32)) (pm_d rk_X6_kind 11 rfl) (by decide) ?_
    exact hq_iret (pm_d rk_X6_kind 12 rfl) rfl h
  rw [if_neg hc] at h
  refine hq_iload_n (pm_d rk_X6_kind 2 rfl) rfl 1 rfl ?_
  show hp_go _ _ _ _ _ 5 _ _ _
  refine hq_aload_n (pm_d rk_X6_kind 3 rfl) rfl 0 rfl ?_
  refine hq_getI 4 (pm_d rk_X6_kind 4 rfl) fl_X6_21 rfl rfl ?_
  refine hq_icmp_ge 21 (pm_d rk_X6_kind 5 rfl) (by decide) (fun hc => ?_) (fun hc => ?_)
  · rw [if_pos hc] at h
    refine hq_iconst (v := (0 : Int32)) (pm_d rk_X6_kind 11 rfl) (by decide) ?_
    exact hq_iret (pm_d rk_X6_kind 12 rfl) rfl h
  rw [if_neg hc] at h
  refine hq_aload_n (pm_d rk_X6_kind 6 rfl) rfl 0 rfl ?_
  show hp_go _ _ _ _ _ 13 _ _ _
  refine hq_getR (h := 4) 1 (pm_d rk_X6_kind 7 rfl) fl_X6_9 rfl rfl ?_
  refine hq_iload_n (pm_d rk_X6_kind 8 rfl) rfl 1 rfl ?_
  obtain ⟨hg, h⟩ := pm_gd_i h
  refine hq_iaload (pm_d rk_X6_kind 9 rfl) rfl hg ?_
  refine hq_goto 22 (pm_d rk_X6_kind 10 rfl) (by decide) ?_
  exact hq_iret (pm_d rk_X6_kind 12 rfl) rfl h
def f_C_X4_current_7  (s : hp_S) : Option (Int32 × hp_S) :=
  if (hs_I s 7 7) = (-1 : Int32) then
    pm_bd (f_C_X6_kind_3 (hs_I s 7 5) s) (fun x2 t1 =>
    some (x2, t1))
  else
    some ((0 : Int32), s)
set_option maxRecDepth 100000 in
set_option maxHeartbeats 400000 in
theorem w_C_X4_current_7 (d : Nat)  (s s1 : hp_S) (x0 : Int32) (h : f_C_X4_current_7 s = some (x0, s1)) : hp_is sh_C me_X4_current (d + 1) [.ref 7] s (some (.int x0)) s1 := by
  refine hp_ofF [(0, .ref 7)] (by decide +kernel) (Nat.le_of_ble_eq_true rfl) rfl ?_
  unfold f_C_X4_current_7 at h
  refine hq_aload_n (pm_d rk_X4_current 0 rfl) rfl 0 rfl ?_
  refine hq_getI 7 (pm_d rk_X4_current 1 rfl) fl_X4_37 rfl rfl ?_
  refine hq_iconst (v := (-1 : Int32)) (pm_d rk_X4_current 2 rfl) (by decide) ?_
  refine hq_icmp_ne 22 (pm_d rk_X4_current 3 rfl) (by decide) (fun hc => ?_) (fun hc => ?_)
  · rw [if_neg hc] at h
    refine hq_iconst (v := (0 : Int32)) (pm_d rk_X4_current 10 rfl) (by decide) ?_
    show hp_go _ _ _ _ _ 23 _ _ _
    exact hq_iret (pm_d rk_X4_current 11 rfl) rfl h
  rw [if_pos hc] at h
  refine hq_aload_n (pm_d rk_X4_current 4 rfl) rfl 0 rfl ?_
  refine hq_getR (h := 3) 0 (pm_d rk_X4_current 5 rfl) fl_X4_46 rfl rfl ?_
  refine hq_aload_n (pm_d rk_X4_current 6 rfl) rfl 0 rfl ?_
  refine hq_getI 5 (pm_d rk_X4_current 7 rfl) fl_X4_31 rfl rfl ?_
  obtain ⟨x2, t1, hq, h⟩ := pm_bd_i h
  have hM := w_C_X6_kind_3 (d := d + 0) (h := hq)
  refine hq_callVi (a := 3) (ci := 6) [.int (hs_I s 7 5)] [] (pm_d rk_X4_current 8 rfl) ml_X4_65 iv_X6_kind rfl rfl rfl rfl rfl (Nat.le_of_ble_eq_true rfl) hM ?_
  show hp_go _ _ _ _ _ 19 _ _ _
  refine hq_goto 23 (pm_d rk_X4_current 9 rfl) (by decide) ?_
  exact hq_iret (pm_d rk_X4_current 11 rfl) rfl h
def f_C_X4_refuse_7  (s : hp_S) : Option hp_S :=
  if (hs_I s 7 7) = (-1 : Int32) then
    pm_let (hs_pI s 7 7 (hs_I s 7 5)) (fun t1 =>
    some t1)
  else
    some s
set_option maxRecDepth 100000 in
set_option maxHeartbeats 400000 in
theorem w_C_X4_refuse_7 (d : Nat)  (s s1 : hp_S) (h : f_C_X4_refuse_7 s = some s1) : hp_is sh_C me_X4_refuse (d + 0) [.ref 7] s none s1 := by
  refine hp_ofF [(0, .ref 7)] (by decide +kernel) (Nat.le_of_ble_eq_true rfl) rfl ?_
  unfold f_C_X4_refuse_7 at h
  refine hq_aload_n (pm_d rk_X4_refuse 0 rfl) rfl 0 rfl ?_
  refine hq_getI 7 (pm_d rk_X4_refuse 1 rfl) fl_X4_37 rfl rfl ?_
  refine hq_iconst (v := (-1 : Int32)) (pm_d rk_X4_refuse 2 rfl) (by decide) ?_
  refine hq_icmp_ne 16 (pm_d rk_X4_refuse 3 rfl) (by decide) (fun hc => ?_) (fun hc => ?_)
  · rw [if_neg hc] at h
    exact hq_vret (pm_d rk_X4_refuse 8 rfl) rfl h
  rw [if_pos hc] at h
  show hp_go _ _ _ _ _ 8 _ _ _
  refine hq_aload_n (pm_d rk_X4_refuse 4 rfl) rfl 0 rfl ?_
  refine hq_aload_n (pm_d rk_X4_refuse 5 rfl) rfl 0 rfl ?_
  refine hq_getI 5 (pm_d rk_X4_refuse 6 rfl) fl_X4_31 rfl rfl ?_
  refine hq_putI 7 (pm_d rk_X4_refuse 7 rfl) fl_X4_37 rfl rfl ?_
  refine pm_nm (G := fun t1 => hp_go sh_C me_X4_refuse (d + 0) none s1 16 [(0, .ref 7)] [] t1) h (fun t1 h => ?_)
  exact hq_vret (pm_d rk_X4_refuse 8 rfl) rfl h
def f_C_X4_expression_7 (rec : Nat → Int32 → Int32 → Int32 → hp_S → Option (Int32 × hp_S)) (n : Nat) (a1 : Int32) (s : hp_S) : Option (Int32 × hp_S) :=
  if a1 ≤ (20 : Int32) then
    pm_bd (f_C_X4_current_7 s) (fun x2 t1 =>
    if x2 = (4 : Int32) then
      pm_bd (rec 1 a1 0 0 t1) (fun x4 t3 =>
      some (x4, t3))
    else
    if x2 = (5 : Int32) then
      pm_bd (rec 2 a1 0 0 t1) (fun x6 t5 =>
      some (x6, t5))
    else
    if x2 = (6 : Int32) then
      pm_bd (rec 5 a1 0 0 t1) (fun x8 t7 =>
      some (x8, t7))
    else
    if x2 = (7 : Int32) then
      pm_bd (rec 4 a1 0 0 t1) (fun x10 t9 =>
      some (x10, t9))
    else
      pm_bd (rec 5 a1 0 0 t1) (fun x12 t11 =>
      some (x12, t11)))
  else
    pm_b1 (f_C_X4_refuse_7 s) (fun t13 =>
    some ((-1 : Int32), t13))
set_option maxRecDepth 100000 in
set_option maxHeartbeats 400000 in
theorem w_C_X4_expression_7 (d : Nat) (rec : Nat → Int32 → Int32 → Int32 → hp_S → Option (Int32 × hp_S)) (n : Nat) (a1 : Int32) (hR : rec_ok rec (d + 9)) (s s1 : hp_S) (x0 : Int32) (h : f_C_X4_expression_7 rec n a1 s = some (x0, s1)) : hp_is sh_C me_X4_expression (d + 10) [.ref 7, .int a1] s (some (.int x0)) s1 := by
  refine hp_ofF [(0, .ref 7), (1, .int a1)] (by decide +kernel) (Nat.le_of_ble_eq_true rfl) rfl ?_
  unfold f_C_X4_expression_7 at h
  refine hq_iload_n (pm_d rk_X4_expression 0 rfl) rfl 1 rfl ?_
  refine hq_bipush (v := (20 : Int32)) (pm_d rk_X4_expression 1 rfl) (by decide) ?_
  refine hq_icmp_le 12 (pm_d rk_X4_expression 2 rfl) (by decide) (fun hc => ?_) (fun hc => ?_)
  · rw [if_pos hc] at h
    refine hq_aload_n (pm_d rk_X4_expression 7 rfl) rfl 0 rfl ?_
    obtain ⟨x2, t1, hq, h⟩ := pm_bd_i h
    have hM := w_C_X4_current_7 (d := d + 8) (h := hq)
    refine hq_callVi (a := 7) (ci := 4) [] [] (pm_d rk_X4_expression 8 rfl) ml_X4_54 iv_X4_current rfl rfl rfl rfl rfl (Nat.le_of_ble_eq_true rfl) hM ?_
    show hp_go _ _ _ _ _ 16 _ _ _
    by_cases hc0 : x2 = (4 : Int32)
    · rw [if_pos hc0] at h
      refine hq_tableIn 48 (pm_d rk_X4_expression 9 rfl) (by rw [hc0]; decide) (by rw [hc0]; decide) (by rw [hc0] <;> rfl) (by decide) ?_
      refine hq_aload_n (pm_d rk_X4_expression 10 rfl) rfl 0 rfl ?_
      refine hq_iload_n (pm_d rk_X4_expression 11 rfl) rfl 1 rfl ?_
      obtain ⟨x4, t3, hq, h⟩ := pm_bd_i h
      have hM := hR.2.1 _ _ _ _ hq
      refine hq_callVi (a := 7) (ci := 4) [.int a1] [] (pm_d rk_X4_expression 12 rfl) ml_X4_86 iv_X4_function rfl rfl rfl rfl rfl (Nat.le_of_ble_eq_true rfl) hM ?_
      exact hq_iret (pm_d rk_X4_expression 13 rfl) rfl h
    rw [if_neg hc0] at h
    by_cases hc1 : x2 = (5 : Int32)
    · rw [if_pos hc1] at h
      refine hq_tableIn 54 (pm_d rk_X4_expression 9 rfl) (by rw [hc1]; decide) (by rw [hc1]; decide) (by rw [hc1] <;> rfl) (by decide) ?_
      refine hq_aload_n (pm_d rk_X4_expression 14 rfl) rfl 0 rfl ?_
      show hp_go _ _ _ _ _ 55 _ _ _
      refine hq_iload_n (pm_d rk_X4_expression 15 rfl) rfl 1 rfl ?_
      obtain ⟨x6, t5, hq, h⟩ := pm_bd_i h
      have hM := hR.2.2.1 _ _ _ _ hq
      refine hq_callVi (a := 7) (ci := 4) [.int a1] [] (pm_d rk_X4_expression 16 rfl) ml_X4_89 iv_X4_let rfl rfl rfl rfl rfl (Nat.le_of_ble_eq_true rfl) hM ?_
      exact hq_iret (pm_d rk_X4_expression 17 rfl) rfl h
    rw [if_neg hc1] at h
    by_cases hc2 : x2 = (6 : Int32)
    · rw [if_pos hc2] at h
      refine hq_tableIn 66 (pm_d rk_X4_expression 9 rfl) (by rw [hc2]; decide) (by rw [hc2]; decide) (by rw [hc2] <;> rfl) (by decide) ?_
      refine hq_aload_n (pm_d rk_X4_expression 22 rfl) rfl 0 rfl ?_
      refine hq_iload_n (pm_d rk_X4_expression 23 rfl) rfl 1 rfl ?_
      obtain ⟨x8, t7, hq, h⟩ := pm_bd_i h
      have hM := hR.2.2.2.2.2.1 _ _ _ _ hq
      refine hq_callVi (a := 7) (ci := 4) [.int a1] [] (pm_d rk_X4_expression 24 rfl) ml_X4_95 iv_X4_comparison rfl rfl rfl rfl rfl (Nat.le_of_ble_eq_true rfl) hM ?_
      show hp_go _ _ _ _ _ 71 _ _ _
      exact hq_iret (pm_d rk_X4_expression 25 rfl) rfl h
    rw [if_neg hc2] at h
    by_cases hc3 : x2 = (7 : Int32)
    · rw [if_pos hc3] at h
      refine hq_tableIn 60 (pm_d rk_X4_expression 9 rfl) (by rw [hc3]; decide) (by rw [hc3]; decide) (by rw [hc3] <;> rfl) (by decide) ?_
      refine hq_aload_n (pm_d rk_X4_expression 18 rfl) rfl 0 rfl ?_
      refine hq_iload_n (pm_d rk_X4_expression 19 rfl) rfl 1 rfl ?_
      obtain ⟨x10, t9, hq, h⟩ := pm_bd_i h
      have hM := hR.2.2.2.2.1 _ _ _ _ hq
      refine hq_callVi (a := 7) (ci := 4) [.int a1] [] (pm_d rk_X4_expression 20 rfl) ml_X4_92 iv_X4_choice rfl rfl rfl rfl rfl (Nat.le_of_ble_eq_true rfl) hM ?_
      exact hq_iret (pm_d rk_X4_expression 21 rfl) rfl h
    rw [if_neg hc3] at h
    refine hq_tableOut 66 (pm_d rk_X4_expression 9 rfl) (by
        rcases tb_out (t := x2.toInt) (lo := 4) 4 (fun k hk => match k, hk with | 0, _ => tb_ne hc0 (by decide) | 1, _ => tb_ne hc1 (by decide) | 2, _ => tb_ne hc2 (by decide) | 3, _ => tb_ne hc3 (by decide) | k + 4, hk => absurd hk (by omega)) with q | q
        · exact Or.inl q
        · exact Or.inr (by omega)) (by decide) ?_
    refine hq_aload_n (pm_d rk_X4_expression 22 rfl) rfl 0 rfl ?_
    show hp_go _ _ _ _ _ 67 _ _ _
    refine hq_iload_n (pm_d rk_X4_expression 23 rfl) rfl 1 rfl ?_
    obtain ⟨x12, t11, hq, h⟩ := pm_bd_i h
    have hM := hR.2.2.2.2.2.1 _ _ _ _ hq
    refine hq_callVi (a := 7) (ci := 4) [.int a1] [] (pm_d rk_X4_expression 24 rfl) ml_X4_95 iv_X4_comparison rfl rfl rfl rfl rfl (Nat.le_of_ble_eq_true rfl) hM ?_
    exact hq_iret (pm_d rk_X4_expression 25 rfl) rfl h
  rw [if_neg hc] at h
  refine hq_aload_n (pm_d rk_X4_expression 3 rfl) rfl 0 rfl ?_
  obtain ⟨t13, hq, h⟩ := pm_b1_i h
  have hM := w_C_X4_refuse_7 (d := d + 9) (h := hq)
  refine hq_callVv (a := 7) (ci := 4) [] [] (pm_d rk_X4_expression 4 rfl) ml_X4_58 iv_X4_refuse rfl rfl rfl rfl rfl (Nat.le_of_ble_eq_true rfl) hM ?_
  refine hq_iconst (v := (-1 : Int32)) (pm_d rk_X4_expression 5 rfl) (by decide) ?_
  show hp_go _ _ _ _ _ 11 _ _ _
  exact hq_iret (pm_d rk_X4_expression 6 rfl) rfl h
def f_C_X4_countNode_7  (s : hp_S) : Option hp_S :=
  if (100 : Int32) ≤ (hs_I s 7 6) then
    pm_b1 (f_C_X4_refuse_7 s) (fun t1 =>
    some t1)
  else
    pm_let (hs_pI s 7 6 ((hs_I s 7 6) + (1 : Int32))) (fun t2 =>
    some t2)
set_option maxRecDepth 100000 in
set_option maxHeartbeats 400000 in
theorem w_C_X4_countNode_7 (d : Nat)  (s s1 : hp_S) (h : f_C_X4_countNode_7 s = some s1) : hp_is sh_C me_X4_countNode (d + 1) [.ref 7] s none s1 := by
  refine hp_ofF [(0, .ref 7)] (by decide +kernel) (Nat.le_of_ble_eq_true rfl) rfl ?_
  unfold f_C_X4_countNode_7 at h
  refine hq_aload_n (pm_d rk_X4_countNode 0 rfl) rfl 0 rfl ?_
  refine hq_getI 6 (pm_d rk_X4_countNode 1 rfl) fl_X4_34 rfl rfl ?_
  refine hq_bipush (v := (100 : Int32)) (pm_d rk_X4_countNode 2 rfl) (by decide) ?_
  refine hq_icmp_ge 22 (pm_d rk_X4_countNode 3 rfl) (by decide) (fun hc => ?_) (fun hc => ?_)
  · rw [if_pos hc] at h
    refine hq_aload_n (pm_d rk_X4_countNode 11 rfl) rfl 0 rfl ?_
    show hp_go _ _ _ _ _ 23 _ _ _
    obtain ⟨t1, hq, h⟩ := pm_b1_i h
    have hM := w_C_X4_refuse_7 (d := d + 0) (h := hq)
    refine hq_callVv (a := 7) (ci := 4) [] [] (pm_d rk_X4_countNode 12 rfl) ml_X4_58 iv_X4_refuse rfl rfl rfl rfl rfl (Nat.le_of_ble_eq_true rfl) hM ?_
    exact hq_vret (pm_d rk_X4_countNode 13 rfl) rfl h
  rw [if_neg hc] at h
  refine hq_aload_n (pm_d rk_X4_countNode 4 rfl) rfl 0 rfl ?_
  refine hq_dup (pm_d rk_X4_countNode 5 rfl) rfl ?_
  refine hq_getI 6 (pm_d rk_X4_countNode 6 rfl) fl_X4_34 rfl rfl ?_
  refine hq_iconst (v := (1 : Int32)) (pm_d rk_X4_countNode 7 rfl) (by decide) ?_
  show hp_go _ _ _ _ _ 15 _ _ _
  refine hq_iadd (pm_d rk_X4_countNode 8 rfl) ?_
  refine hq_putI 6 (pm_d rk_X4_countNode 9 rfl) fl_X4_34 rfl rfl ?_
  refine pm_nm (G := fun t2 => hp_go sh_C me_X4_countNode (d + 1) none s1 19 [(0, .ref 7)] [] t2) h (fun t2 h => ?_)
  refine hq_goto 26 (pm_d rk_X4_countNode 10 rfl) (by decide) ?_
  exact hq_vret (pm_d rk_X4_countNode 13 rfl) rfl h
def f_C_X2_holds_8 (a1 : Int32) (s : hp_S) : Option (Int32 × hp_S) :=
  if a1 < 0 then
    some ((0 : Int32), s)
  else
    if (501 : Int32) ≤ a1 then
      some ((0 : Int32), s)
    else
      some ((1 : Int32), s)
set_option maxRecDepth 100000 in
set_option maxHeartbeats 400000 in
theorem w_C_X2_holds_8 (d : Nat) (a1 : Int32) (s s1 : hp_S) (x0 : Int32) (h : f_C_X2_holds_8 a1 s = some (x0, s1)) : hp_is sh_C me_X2_holds (d + 0) [.ref 8, .int a1] s (some (.int x0)) s1 := by
  refine hp_ofF [(0, .ref 8), (1, .int a1)] (by decide +kernel) (Nat.le_of_ble_eq_true rfl) rfl ?_
  unfold f_C_X2_holds_8 at h
  refine hq_iload_n (pm_d rk_X2_holds 0 rfl) rfl 1 rfl ?_
  refine hq_if_lt 17 (pm_d rk_X2_holds 1 rfl) (by decide) (fun hc => ?_) (fun hc => ?_)
  · rw [if_pos hc] at h
    refine hq_iconst (v := (0 : Int32)) (pm_d rk_X2_holds 9 rfl) (by decide) ?_
    exact hq_zret (pm_d rk_X2_holds 10 rfl) rfl rfl h
  rw [if_neg hc] at h
  refine hq_iload_n (pm_d rk_X2_holds 2 rfl) rfl 1 rfl ?_
  show hp_go _ _ _ _ _ 5 _ _ _
  refine hq_aload_n (pm_d rk_X2_holds 3 rfl) rfl 0 rfl ?_
  refine hq_getR (h := 9) 0 (pm_d rk_X2_holds 4 rfl) fl_X2_15 rfl rfl ?_
  refine hq_alen 0 (pm_d rk_X2_holds 5 rfl) rfl (fun _ => rfl) (show Int32.ofNat 501 = (501 : Int32) by decide) ?_
  refine hq_icmp_ge 17 (pm_d rk_X2_holds 6 rfl) (by decide) (fun hc => ?_) (fun hc => ?_)
  · rw [if_pos hc] at h
    refine hq_iconst (v := (0 : Int32)) (pm_d rk_X2_holds 9 rfl) (by decide) ?_
    exact hq_zret (pm_d rk_X2_holds 10 rfl) rfl rfl h
  rw [if_neg hc] at h
  show hp_go _ _ _ _ _ 13 _ _ _
  refine hq_iconst (v := (1 : Int32)) (pm_d rk_X2_holds 7 rfl) (by decide) ?_
  refine hq_goto 18 (pm_d rk_X2_holds 8 rfl) (by decide) ?_
  exact hq_zret (pm_d rk_X2_holds 10 rfl) rfl rfl h
def f_C_X2_begin_8 (a1 : Int32) (a2 : Int32) (s : hp_S) : Option hp_S :=
  pm_bd (f_C_X2_holds_8 a1 s) (fun x2 t1 =>
  if x2 = 0 then
    some t1
  else
    pm_gd1 (pm_ib a1 501) (
    pm_let (hs_pA t1 9 a1.toNatClampNeg a2) (fun t3 =>
    pm_gd1 (pm_ib a1 501) (
    pm_let (hs_pA t3 10 a1.toNatClampNeg (-1 : Int32)) (fun t4 =>
    pm_gd1 (pm_ib a1 501) (
    pm_let (hs_pA t4 11 a1.toNatClampNeg (-1 : Int32)) (fun t5 =>
    pm_gd1 (pm_ib a1 501) (
    pm_let (hs_pA t5 12 a1.toNatClampNeg (-1 : Int32)) (fun t6 =>
    pm_gd1 (pm_ib a1 501) (
    pm_let (hs_pA t6 13 a1.toNatClampNeg (-1 : Int32)) (fun t7 =>
    some t7)))))))))))
set_option maxRecDepth 100000 in
set_option maxHeartbeats 400000 in
theorem w_C_X2_begin_8 (d : Nat) (a1 : Int32) (a2 : Int32) (s s1 : hp_S) (h : f_C_X2_begin_8 a1 a2 s = some s1) : hp_is sh_C me_X2_begin (d + 1) [.ref 8, .int a1, .int a2] s none s1 := by
  refine hp_ofF [(0, .ref 8), (1, .int a1), (2, .int a2)] (by decide +kernel) (Nat.le_of_ble_eq_true rfl) rfl ?_
  unfold f_C_X2_begin_8 at h
  refine hq_aload_n (pm_d rk_X2_begin 0 rfl) rfl 0 rfl ?_
  refine hq_iload_n (pm_d rk_X2_begin 1 rfl) rfl 1 rfl ?_
  obtain ⟨x2, t1, hq, h⟩ := pm_bd_i h
  have hM := w_C_X2_holds_8 (d := d + 0) (h := hq)
  refine hq_callVi (a := 8) (ci := 2) [.int a1] [] (pm_d rk_X2_begin 2 rfl) ml_X2_33 iv_X2_holds rfl rfl rfl rfl rfl (Nat.le_of_ble_eq_true rfl) hM ?_
  refine hq_if_eq 43 (pm_d rk_X2_begin 3 rfl) (by decide) (fun hc => ?_) (fun hc => ?_)
  · rw [if_pos hc] at h
    exact hq_vret (pm_d rk_X2_begin 29 rfl) rfl h
  rw [if_neg hc] at h
  show hp_go _ _ _ _ _ 8 _ _ _
  refine hq_aload_n (pm_d rk_X2_begin 4 rfl) rfl 0 rfl ?_
  refine hq_getR (h := 9) 0 (pm_d rk_X2_begin 5 rfl) fl_X2_15 rfl rfl ?_
  refine hq_iload_n (pm_d rk_X2_begin 6 rfl) rfl 1 rfl ?_
  refine hq_iload_n (pm_d rk_X2_begin 7 rfl) rfl 2 rfl ?_
  obtain ⟨hg, h⟩ := pm_gd_i h
  refine hq_iastore (pm_d rk_X2_begin 8 rfl) rfl hg ?_
  refine pm_nm (G := fun t3 => hp_go sh_C me_X2_begin (d + 1) none s1 15 [(0, .ref 8), (1, .int a1), (2, .int a2)] [] t3) h (fun t3 h => ?_)
  refine hq_aload_n (pm_d rk_X2_begin 9 rfl) rfl 0 rfl ?_
  show hp_go _ _ _ _ _ 16 _ _ _
  refine hq_getR (h := 10) 1 (pm_d rk_X2_begin 10 rfl) fl_X2_21 rfl rfl ?_
  refine hq_iload_n (pm_d rk_X2_begin 11 rfl) rfl 1 rfl ?_
  refine hq_iconst (v := (-1 : Int32)) (pm_d rk_X2_begin 12 rfl) (by decide) ?_
  obtain ⟨hg, h⟩ := pm_gd_i h
  refine hq_iastore (pm_d rk_X2_begin 13 rfl) rfl hg ?_
  refine pm_nm (G := fun t4 => hp_go sh_C me_X2_begin (d + 1) none s1 22 [(0, .ref 8), (1, .int a1), (2, .int a2)] [] t4) h (fun t4 h => ?_)
  refine hq_aload_n (pm_d rk_X2_begin 14 rfl) rfl 0 rfl ?_
  refine hq_getR (h := 11) 2 (pm_d rk_X2_begin 15 rfl) fl_X2_24 rfl rfl ?_
  show hp_go _ _ _ _ _ 26 _ _ _
  refine hq_iload_n (pm_d rk_X2_begin 16 rfl) rfl 1 rfl ?_
  refine hq_iconst (v := (-1 : Int32)) (pm_d rk_X2_begin 17 rfl) (by decide) ?_
  obtain ⟨hg, h⟩ := pm_gd_i h
  refine hq_iastore (pm_d rk_X2_begin 18 rfl) rfl hg ?_
  refine pm_nm (G := fun t5 => hp_go sh_C me_X2_begin (d + 1) none s1 29 [(0, .ref 8), (1, .int a1), (2, .int a2)] [] t5) h (fun t5 h => ?_)
  refine hq_aload_n (pm_d rk_X2_begin 19 rfl) rfl 0 rfl ?_
  refine hq_getR (h := 12) 3 (pm_d rk_X2_begin 20 rfl) fl_X2_27 rfl rfl ?_
  refine hq_iload_n (pm_d rk_X2_begin 21 rfl) rfl 1 rfl ?_
  show hp_go _ _ _ _ _ 34 _ _ _
  refine hq_iconst (v := (-1 : Int32)) (pm_d rk_X2_begin 22 rfl) (by decide) ?_
  obtain ⟨hg, h⟩ := pm_gd_i h
  refine hq_iastore (pm_d rk_X2_begin 23 rfl) rfl hg ?_
  refine pm_nm (G := fun t6 => hp_go sh_C me_X2_begin (d + 1) none s1 36 [(0, .ref 8), (1, .int a1), (2, .int a2)] [] t6) h (fun t6 h => ?_)
  refine hq_aload_n (pm_d rk_X2_begin 24 rfl) rfl 0 rfl ?_
  refine hq_getR (h := 13) 4 (pm_d rk_X2_begin 25 rfl) fl_X2_30 rfl rfl ?_
  refine hq_iload_n (pm_d rk_X2_begin 26 rfl) rfl 1 rfl ?_
  refine hq_iconst (v := (-1 : Int32)) (pm_d rk_X2_begin 27 rfl) (by decide) ?_
  show hp_go _ _ _ _ _ 42 _ _ _
  obtain ⟨hg, h⟩ := pm_gd_i h
  refine hq_iastore (pm_d rk_X2_begin 28 rfl) rfl hg ?_
  refine pm_nm (G := fun t7 => hp_go sh_C me_X2_begin (d + 1) none s1 43 [(0, .ref 8), (1, .int a1), (2, .int a2)] [] t7) h (fun t7 h => ?_)
  exact hq_vret (pm_d rk_X2_begin 29 rfl) rfl h
def f_C_X2_setFirst_8 (a1 : Int32) (a2 : Int32) (s : hp_S) : Option hp_S :=
  pm_bd (f_C_X2_holds_8 a1 s) (fun x2 t1 =>
  if x2 = 0 then
    some t1
  else
    pm_gd1 (pm_ib a1 501) (
    pm_let (hs_pA t1 10 a1.toNatClampNeg a2) (fun t3 =>
    some t3)))
set_option maxRecDepth 100000 in
set_option maxHeartbeats 400000 in
theorem w_C_X2_setFirst_8 (d : Nat) (a1 : Int32) (a2 : Int32) (s s1 : hp_S) (h : f_C_X2_setFirst_8 a1 a2 s = some s1) : hp_is sh_C me_X2_setFirst (d + 1) [.ref 8, .int a1, .int a2] s none s1 := by
  refine hp_ofF [(0, .ref 8), (1, .int a1), (2, .int a2)] (by decide +kernel) (Nat.le_of_ble_eq_true rfl) rfl ?_
  unfold f_C_X2_setFirst_8 at h
  refine hq_aload_n (pm_d rk_X2_setFirst 0 rfl) rfl 0 rfl ?_
  refine hq_iload_n (pm_d rk_X2_setFirst 1 rfl) rfl 1 rfl ?_
  obtain ⟨x2, t1, hq, h⟩ := pm_bd_i h
  have hM := w_C_X2_holds_8 (d := d + 0) (h := hq)
  refine hq_callVi (a := 8) (ci := 2) [.int a1] [] (pm_d rk_X2_setFirst 2 rfl) ml_X2_33 iv_X2_holds rfl rfl rfl rfl rfl (Nat.le_of_ble_eq_true rfl) hM ?_
  refine hq_if_eq 15 (pm_d rk_X2_setFirst 3 rfl) (by decide) (fun hc => ?_) (fun hc => ?_)
  · rw [if_pos hc] at h
    exact hq_vret (pm_d rk_X2_setFirst 9 rfl) rfl h
  rw [if_neg hc] at h
  show hp_go _ _ _ _ _ 8 _ _ _
  refine hq_aload_n (pm_d rk_X2_setFirst 4 rfl) rfl 0 rfl ?_
  refine hq_getR (h := 10) 1 (pm_d rk_X2_setFirst 5 rfl) fl_X2_21 rfl rfl ?_
  refine hq_iload_n (pm_d rk_X2_setFirst 6 rfl) rfl 1 rfl ?_
  refine hq_iload_n (pm_d rk_X2_setFirst 7 rfl) rfl 2 rfl ?_
  obtain ⟨hg, h⟩ := pm_gd_i h
  refine hq_iastore (pm_d rk_X2_setFirst 8 rfl) rfl hg ?_
  refine pm_nm (G := fun t3 => hp_go sh_C me_X2_setFirst (d + 1) none s1 15 [(0, .ref 8), (1, .int a1), (2, .int a2)] [] t3) h (fun t3 h => ?_)
  exact hq_vret (pm_d rk_X2_setFirst 9 rfl) rfl h
def f_C_X6_size_3  (s : hp_S) : Option (Int32 × hp_S) :=
  some ((hs_I s 3 4), s)
set_option maxRecDepth 100000 in
set_option maxHeartbeats 400000 in
theorem w_C_X6_size_3 (d : Nat)  (s s1 : hp_S) (x0 : Int32) (h : f_C_X6_size_3 s = some (x0, s1)) : hp_is sh_C me_X6_size (d + 0) [.ref 3] s (some (.int x0)) s1 := by
  refine hp_ofF [(0, .ref 3)] (by decide +kernel) (Nat.le_of_ble_eq_true rfl) rfl ?_
  unfold f_C_X6_size_3 at h
  refine hq_aload_n (pm_d rk_X6_size 0 rfl) rfl 0 rfl ?_
  refine hq_getI 4 (pm_d rk_X6_size 1 rfl) fl_X6_21 rfl rfl ?_
  exact hq_iret (pm_d rk_X6_size 2 rfl) rfl h
def f_C_X4_take_7 (a1 : Int32) (s : hp_S) : Option hp_S :=
  if (hs_I s 7 7) = (-1 : Int32) then
    pm_bd (f_C_X6_size_3 s) (fun x2 t1 =>
    if x2 ≤ (hs_I s 7 5) then
      some t1
    else
      if (501 : Int32) ≤ (hs_I t1 7 5) then
        some t1
      else
        pm_gd1 (pm_ib (hs_I t1 7 5) 501) (
        pm_let (hs_pA t1 14 (hs_I t1 7 5).toNatClampNeg a1) (fun t3 =>
        pm_let (hs_pI t3 7 5 ((hs_I t3 7 5) + (1 : Int32))) (fun t4 =>
        some t4))))
  else
    some s
set_option maxRecDepth 100000 in
set_option maxHeartbeats 400000 in
theorem w_C_X4_take_7 (d : Nat) (a1 : Int32) (s s1 : hp_S) (h : f_C_X4_take_7 a1 s = some s1) : hp_is sh_C me_X4_take (d + 1) [.ref 7, .int a1] s none s1 := by
  refine hp_ofF [(0, .ref 7), (1, .int a1)] (by decide +kernel) (Nat.le_of_ble_eq_true rfl) rfl ?_
  unfold f_C_X4_take_7 at h
  refine hq_aload_n (pm_d rk_X4_take 0 rfl) rfl 0 rfl ?_
  refine hq_getI 7 (pm_d rk_X4_take 1 rfl) fl_X4_37 rfl rfl ?_
  refine hq_iconst (v := (-1 : Int32)) (pm_d rk_X4_take 2 rfl) (by decide) ?_
  refine hq_icmp_ne 52 (pm_d rk_X4_take 3 rfl) (by decide) (fun hc => ?_) (fun hc => ?_)
  · rw [if_neg hc] at h
    exact hq_vret (pm_d rk_X4_take 26 rfl) rfl h
  rw [if_pos hc] at h
  show hp_go _ _ _ _ _ 8 _ _ _
  refine hq_aload_n (pm_d rk_X4_take 4 rfl) rfl 0 rfl ?_
  refine hq_getI 5 (pm_d rk_X4_take 5 rfl) fl_X4_31 rfl rfl ?_
  refine hq_aload_n (pm_d rk_X4_take 6 rfl) rfl 0 rfl ?_
  refine hq_getR (h := 3) 0 (pm_d rk_X4_take 7 rfl) fl_X4_46 rfl rfl ?_
  obtain ⟨x2, t1, hq, h⟩ := pm_bd_i h
  have hM := w_C_X6_size_3 (d := d + 0) (h := hq)
  refine hq_callVi (a := 3) (ci := 6) [] [.int (hs_I s 7 5)] (pm_d rk_X4_take 8 rfl) ml_X4_70 iv_X6_size rfl rfl rfl rfl rfl (Nat.le_of_ble_eq_true rfl) hM ?_
  refine hq_icmp_ge 52 (pm_d rk_X4_take 9 rfl) (by decide) (fun hc => ?_) (fun hc => ?_)
  · rw [if_pos hc] at h
    show hp_go _ _ _ _ _ 52 _ _ _
    exact hq_vret (pm_d rk_X4_take 26 rfl) rfl h
  rw [if_neg hc] at h
  refine hq_aload_n (pm_d rk_X4_take 10 rfl) rfl 0 rfl ?_
  refine hq_getI 5 (pm_d rk_X4_take 11 rfl) fl_X4_31 rfl rfl ?_
  refine hq_sipush (v := (501 : Int32)) (pm_d rk_X4_take 12 rfl) (by decide) ?_
  refine hq_icmp_ge 52 (pm_d rk_X4_take 13 rfl) (by decide) (fun hc => ?_) (fun hc => ?_)
  · rw [if_pos hc] at h
    exact hq_vret (pm_d rk_X4_take 26 rfl) rfl h
  rw [if_neg hc] at h
  show hp_go _ _ _ _ _ 32 _ _ _
  refine hq_aload_n (pm_d rk_X4_take 14 rfl) rfl 0 rfl ?_
  refine hq_getR (h := 14) 2 (pm_d rk_X4_take 15 rfl) fl_X4_20 rfl rfl ?_
  refine hq_aload_n (pm_d rk_X4_take 16 rfl) rfl 0 rfl ?_
  refine hq_getI 5 (pm_d rk_X4_take 17 rfl) fl_X4_31 rfl rfl ?_
  refine hq_iload_n (pm_d rk_X4_take 18 rfl) rfl 1 rfl ?_
  obtain ⟨hg, h⟩ := pm_gd_i h
  refine hq_iastore (pm_d rk_X4_take 19 rfl) rfl hg ?_
  refine pm_nm (G := fun t3 => hp_go sh_C me_X4_take (d + 1) none s1 42 [(0, .ref 7), (1, .int a1)] [] t3) h (fun t3 h => ?_)
  show hp_go _ _ _ _ _ 42 _ _ _
  refine hq_aload_n (pm_d rk_X4_take 20 rfl) rfl 0 rfl ?_
  refine hq_dup (pm_d rk_X4_take 21 rfl) rfl ?_
  refine hq_getI 5 (pm_d rk_X4_take 22 rfl) fl_X4_31 rfl rfl ?_
  refine hq_iconst (v := (1 : Int32)) (pm_d rk_X4_take 23 rfl) (by decide) ?_
  refine hq_iadd (pm_d rk_X4_take 24 rfl) ?_
  refine hq_putI 5 (pm_d rk_X4_take 25 rfl) fl_X4_31 rfl rfl ?_
  refine pm_nm (G := fun t4 => hp_go sh_C me_X4_take (d + 1) none s1 52 [(0, .ref 7), (1, .int a1)] [] t4) h (fun t4 h => ?_)
  show hp_go _ _ _ _ _ 52 _ _ _
  exact hq_vret (pm_d rk_X4_take 26 rfl) rfl h
def f_C_X4_beginNode_7 (a1 : Int32) (a2 : Int32) (s : hp_S) : Option (Int32 × hp_S) :=
  pm_let (hs_I s 7 5) (fun x1 =>
  pm_b1 (f_C_X4_countNode_7 s) (fun t2 =>
  pm_b1 (f_C_X2_begin_8 x1 a1 t2) (fun t3 =>
  pm_b1 (f_C_X2_setFirst_8 x1 a2 t3) (fun t4 =>
  pm_b1 (f_C_X4_take_7 x1 t4) (fun t5 =>
  some (x1, t5))))))
set_option maxRecDepth 100000 in
set_option maxHeartbeats 400000 in
theorem w_C_X4_beginNode_7 (d : Nat) (a1 : Int32) (a2 : Int32) (s s1 : hp_S) (x0 : Int32) (h : f_C_X4_beginNode_7 a1 a2 s = some (x0, s1)) : hp_is sh_C me_X4_beginNode (d + 2) [.ref 7, .int a1, .int a2] s (some (.int x0)) s1 := by
  refine hp_ofF [(0, .ref 7), (1, .int a1), (2, .int a2)] (by decide +kernel) (Nat.le_of_ble_eq_true rfl) rfl ?_
  unfold f_C_X4_beginNode_7 at h
  refine hq_aload_n (pm_d rk_X4_beginNode 0 rfl) rfl 0 rfl ?_
  refine hq_getI 5 (pm_d rk_X4_beginNode 1 rfl) fl_X4_31 rfl rfl ?_
  refine pm_nm (G := fun x1 => hp_go sh_C me_X4_beginNode (d + 2) (some (.int x0)) s1 4 [(0, .ref 7), (1, .int a1), (2, .int a2)] [.int x1] s) h (fun x1 h => ?_)
  refine hq_istore_n (L1 := [(3, .int x1), (0, .ref 7), (1, .int a1), (2, .int a2)]) (pm_d rk_X4_beginNode 2 rfl) rfl (by decide) rfl ?_
  refine hq_aload_n (pm_d rk_X4_beginNode 3 rfl) rfl 1 rfl ?_
  obtain ⟨t2, hq, h⟩ := pm_b1_i h
  have hM := w_C_X4_countNode_7 (d := d + 0) (h := hq)
  refine hq_callVv (a := 7) (ci := 4) [] [] (pm_d rk_X4_beginNode 4 rfl) ml_X4_76 iv_X4_countNode rfl rfl rfl rfl rfl (Nat.le_of_ble_eq_true rfl) hM ?_
  show hp_go _ _ _ _ _ 9 _ _ _
  refine hq_aload_n (pm_d rk_X4_beginNode 5 rfl) rfl 1 rfl ?_
  refine hq_getR (h := 8) 1 (pm_d rk_X4_beginNode 6 rfl) fl_X4_16 rfl rfl ?_
  refine hq_iload_n (pm_d rk_X4_beginNode 7 rfl) rfl 0 rfl ?_
  refine hq_iload_n (pm_d rk_X4_beginNode 8 rfl) rfl 2 rfl ?_
  obtain ⟨t3, hq, h⟩ := pm_b1_i h
  have hM := w_C_X2_begin_8 (d := d + 0) (h := hq)
  refine hq_callVv (a := 8) (ci := 2) [.int x1, .int a1] [] (pm_d rk_X4_beginNode 9 rfl) ml_X4_79 iv_X2_begin rfl rfl rfl rfl rfl (Nat.le_of_ble_eq_true rfl) hM ?_
  refine hq_aload_n (pm_d rk_X4_beginNode 10 rfl) rfl 1 rfl ?_
  show hp_go _ _ _ _ _ 19 _ _ _
  refine hq_getR (h := 8) 1 (pm_d rk_X4_beginNode 11 rfl) fl_X4_16 rfl rfl ?_
  refine hq_iload_n (pm_d rk_X4_beginNode 12 rfl) rfl 0 rfl ?_
  refine hq_iload_n (pm_d rk_X4_beginNode 13 rfl) rfl 3 rfl ?_
  obtain ⟨t4, hq, h⟩ := pm_b1_i h
  have hM := w_C_X2_setFirst_8 (d := d + 0) (h := hq)
  refine hq_callVv (a := 8) (ci := 2) [.int x1, .int a2] [] (pm_d rk_X4_beginNode 14 rfl) ml_X4_83 iv_X2_setFirst rfl rfl rfl rfl rfl (Nat.le_of_ble_eq_true rfl) hM ?_
  refine hq_aload_n (pm_d rk_X4_beginNode 15 rfl) rfl 1 rfl ?_
  refine hq_iload_n (pm_d rk_X4_beginNode 16 rfl) rfl 0 rfl ?_
  show hp_go _ _ _ _ _ 29 _ _ _
  obtain ⟨t5, hq, h⟩ := pm_b1_i h
  have hM := w_C_X4_take_7 (d := d + 0) (h := hq)
  refine hq_callVv (a := 7) (ci := 4) [.int x1] [] (pm_d rk_X4_beginNode 17 rfl) ml_X4_73 iv_X4_take rfl rfl rfl rfl rfl (Nat.le_of_ble_eq_true rfl) hM ?_
  refine hq_iload_n (pm_d rk_X4_beginNode 18 rfl) rfl 0 rfl ?_
  exact hq_iret (pm_d rk_X4_beginNode 19 rfl) rfl h
def f_C_X4_expect_7 (a1 : Int32) (a2 : Int32) (s : hp_S) : Option hp_S :=
  pm_bd (f_C_X4_current_7 s) (fun x2 t1 =>
  if x2 = a1 then
    pm_b1 (f_C_X4_take_7 a2 t1) (fun t4 =>
    some t4)
  else
    pm_b1 (f_C_X4_refuse_7 t1) (fun t3 =>
    some t3))
set_option maxRecDepth 100000 in
set_option maxHeartbeats 400000 in
theorem w_C_X4_expect_7 (d : Nat) (a1 : Int32) (a2 : Int32) (s s1 : hp_S) (h : f_C_X4_expect_7 a1 a2 s = some s1) : hp_is sh_C me_X4_expect (d + 2) [.ref 7, .int a1, .int a2] s none s1 := by
  refine hp_ofF [(0, .ref 7), (1, .int a1), (2, .int a2)] (by decide +kernel) (Nat.le_of_ble_eq_true rfl) rfl ?_
  unfold f_C_X4_expect_7 at h
  refine hq_aload_n (pm_d rk_X4_expect 0 rfl) rfl 0 rfl ?_
  obtain ⟨x2, t1, hq, h⟩ := pm_bd_i h
  have hM := w_C_X4_current_7 (d := d + 0) (h := hq)
  refine hq_callVi (a := 7) (ci := 4) [] [] (pm_d rk_X4_expect 1 rfl) ml_X4_54 iv_X4_current rfl rfl rfl rfl rfl (Nat.le_of_ble_eq_true rfl) hM ?_
  refine hq_iload_n (pm_d rk_X4_expect 2 rfl) rfl 1 rfl ?_
  refine hq_icmp_ne 16 (pm_d rk_X4_expect 3 rfl) (by decide) (fun hc => ?_) (fun hc => ?_)
  · rw [if_neg hc] at h
    refine hq_aload_n (pm_d rk_X4_expect 8 rfl) rfl 0 rfl ?_
    show hp_go _ _ _ _ _ 17 _ _ _
    obtain ⟨t3, hq, h⟩ := pm_b1_i h
    have hM := w_C_X4_refuse_7 (d := d + 1) (h := hq)
    refine hq_callVv (a := 7) (ci := 4) [] [] (pm_d rk_X4_expect 9 rfl) ml_X4_58 iv_X4_refuse rfl rfl rfl rfl rfl (Nat.le_of_ble_eq_true rfl) hM ?_
    exact hq_vret (pm_d rk_X4_expect 10 rfl) rfl h
  rw [if_pos hc] at h
  refine hq_aload_n (pm_d rk_X4_expect 4 rfl) rfl 0 rfl ?_
  refine hq_iload_n (pm_d rk_X4_expect 5 rfl) rfl 2 rfl ?_
  obtain ⟨t4, hq, h⟩ := pm_b1_i h
  have hM := w_C_X4_take_7 (d := d + 0) (h := hq)
  refine hq_callVv (a := 7) (ci := 4) [.int a2] [] (pm_d rk_X4_expect 6 rfl) ml_X4_73 iv_X4_take rfl rfl rfl rfl rfl (Nat.le_of_ble_eq_true rfl) hM ?_
  refine hq_goto 20 (pm_d rk_X4_expect 7 rfl) (by decide) ?_
  show hp_go _ _ _ _ _ 20 _ _ _
  exact hq_vret (pm_d rk_X4_expect 10 rfl) rfl h
def f_C_X4_function_7 (rec : Nat → Int32 → Int32 → Int32 → hp_S → Option (Int32 × hp_S)) (n : Nat) (a1 : Int32) (s : hp_S) : Option (Int32 × hp_S) :=
  pm_bd (f_C_X4_beginNode_7 (4 : Int32) (-1 : Int32) s) (fun x2 t1 =>
  pm_b1 (f_C_X4_expect_7 (2 : Int32) x2 t1) (fun t3 =>
  pm_b1 (f_C_X4_expect_7 (15 : Int32) x2 t3) (fun t4 =>
  pm_bd (rec 3 x2 a1 0 t4) (fun x6 t5 =>
  pm_b1 (f_C_X2_setFirst_8 x2 x6 t5) (fun t7 =>
  some (x2, t7))))))
set_option maxRecDepth 100000 in
set_option maxHeartbeats 400000 in
theorem w_C_X4_function_7 (d : Nat) (rec : Nat → Int32 → Int32 → Int32 → hp_S → Option (Int32 × hp_S)) (n : Nat) (a1 : Int32) (hR : rec_ok rec (d + 9)) (s s1 : hp_S) (x0 : Int32) (h : f_C_X4_function_7 rec n a1 s = some (x0, s1)) : hp_is sh_C me_X4_function (d + 10) [.ref 7, .int a1] s (some (.int x0)) s1 := by
  refine hp_ofF [(0, .ref 7), (1, .int a1)] (by decide +kernel) (Nat.le_of_ble_eq_true rfl) rfl ?_
  unfold f_C_X4_function_7 at h
  refine hq_aload_n (pm_d rk_X4_function 0 rfl) rfl 0 rfl ?_
  refine hq_iconst (v := (4 : Int32)) (pm_d rk_X4_function 1 rfl) (by decide) ?_
  refine hq_iconst (v := (-1 : Int32)) (pm_d rk_X4_function 2 rfl) (by decide) ?_
  obtain ⟨x2, t1, hq, h⟩ := pm_bd_i h
  have hM := w_C_X4_beginNode_7 (d := d + 7) (h := hq)
  refine hq_callVi (a := 7) (ci := 4) [.int (4 : Int32), .int (-1 : Int32)] [] (pm_d rk_X4_function 3 rfl) ml_X4_98 iv_X4_beginNode rfl rfl rfl rfl rfl (Nat.le_of_ble_eq_true rfl) hM ?_
  refine hq_istore_n (L1 := [(2, .int x2), (0, .ref 7), (1, .int a1)]) (pm_d rk_X4_function 4 rfl) rfl (by decide) rfl ?_
  show hp_go _ _ _ _ _ 7 _ _ _
  refine hq_aload_n (pm_d rk_X4_function 5 rfl) rfl 1 rfl ?_
  refine hq_iconst (v := (2 : Int32)) (pm_d rk_X4_function 6 rfl) (by decide) ?_
  refine hq_iload_n (pm_d rk_X4_function 7 rfl) rfl 0 rfl ?_
  obtain ⟨t3, hq, h⟩ := pm_b1_i h
  have hM := w_C_X4_expect_7 (d := d + 7) (h := hq)
  refine hq_callVv (a := 7) (ci := 4) [.int (2 : Int32), .int x2] [] (pm_d rk_X4_function 8 rfl) ml_X4_102 iv_X4_expect rfl rfl rfl rfl rfl (Nat.le_of_ble_eq_true rfl) hM ?_
  refine hq_aload_n (pm_d rk_X4_function 9 rfl) rfl 1 rfl ?_
  refine hq_bipush (v := (15 : Int32)) (pm_d rk_X4_function 10 rfl) (by decide) ?_
  show hp_go _ _ _ _ _ 16 _ _ _
  refine hq_iload_n (pm_d rk_X4_function 11 rfl) rfl 0 rfl ?_
  obtain ⟨t4, hq, h⟩ := pm_b1_i h
  have hM := w_C_X4_expect_7 (d := d + 7) (h := hq)
  refine hq_callVv (a := 7) (ci := 4) [.int (15 : Int32), .int x2] [] (pm_d rk_X4_function 12 rfl) ml_X4_102 iv_X4_expect rfl rfl rfl rfl rfl (Nat.le_of_ble_eq_true rfl) hM ?_
  refine hq_aload_n (pm_d rk_X4_function 13 rfl) rfl 1 rfl ?_
  refine hq_getR (h := 8) 1 (pm_d rk_X4_function 14 rfl) fl_X4_16 rfl rfl ?_
  refine hq_iload_n (pm_d rk_X4_function 15 rfl) rfl 0 rfl ?_
  refine hq_aload_n (pm_d rk_X4_function 16 rfl) rfl 1 rfl ?_
  show hp_go _ _ _ _ _ 26 _ _ _
  refine hq_iload_n (pm_d rk_X4_function 17 rfl) rfl 0 rfl ?_
  refine hq_iload_n (pm_d rk_X4_function 18 rfl) rfl 2 rfl ?_
  obtain ⟨x6, t5, hq, h⟩ := pm_bd_i h
  have hM := hR.2.2.2.1 _ _ _ _ _ hq
  refine hq_callVi (a := 7) (ci := 4) [.int x2, .int a1] [.int x2, .ref 8] (pm_d rk_X4_function 19 rfl) ml_X4_105 iv_X4_expressionInScope rfl rfl rfl rfl rfl (Nat.le_of_ble_eq_true rfl) hM ?_
  obtain ⟨t7, hq, h⟩ := pm_b1_i h
  have hM := w_C_X2_setFirst_8 (d := d + 8) (h := hq)
  refine hq_callVv (a := 8) (ci := 2) [.int x2, .int x6] [] (pm_d rk_X4_function 20 rfl) ml_X4_83 iv_X2_setFirst rfl rfl rfl rfl rfl (Nat.le_of_ble_eq_true rfl) hM ?_
  refine hq_iload_n (pm_d rk_X4_function 21 rfl) rfl 0 rfl ?_
  exact hq_iret (pm_d rk_X4_function 22 rfl) rfl h
def f_C_X2_setSecond_8 (a1 : Int32) (a2 : Int32) (s : hp_S) : Option hp_S :=
  pm_bd (f_C_X2_holds_8 a1 s) (fun x2 t1 =>
  if x2 = 0 then
    some t1
  else
    pm_gd1 (pm_ib a1 501) (
    pm_let (hs_pA t1 11 a1.toNatClampNeg a2) (fun t3 =>
    some t3)))
set_option maxRecDepth 100000 in
set_option maxHeartbeats 400000 in
theorem w_C_X2_setSecond_8 (d : Nat) (a1 : Int32) (a2 : Int32) (s s1 : hp_S) (h : f_C_X2_setSecond_8 a1 a2 s = some s1) : hp_is sh_C me_X2_setSecond (d + 1) [.ref 8, .int a1, .int a2] s none s1 := by
  refine hp_ofF [(0, .ref 8), (1, .int a1), (2, .int a2)] (by decide +kernel) (Nat.le_of_ble_eq_true rfl) rfl ?_
  unfold f_C_X2_setSecond_8 at h
  refine hq_aload_n (pm_d rk_X2_setSecond 0 rfl) rfl 0 rfl ?_
  refine hq_iload_n (pm_d rk_X2_setSecond 1 rfl) rfl 1 rfl ?_
  obtain ⟨x2, t1, hq, h⟩ := pm_bd_i h
  have hM := w_C_X2_holds_8 (d := d + 0) (h := hq)
  refine hq_callVi (a := 8) (ci := 2) [.int a1] [] (pm_d rk_X2_setSecond 2 rfl) ml_X2_33 iv_X2_holds rfl rfl rfl rfl rfl (Nat.le_of_ble_eq_true rfl) hM ?_
  refine hq_if_eq 15 (pm_d rk_X2_setSecond 3 rfl) (by decide) (fun hc => ?_) (fun hc => ?_)
  · rw [if_pos hc] at h
    exact hq_vret (pm_d rk_X2_setSecond 9 rfl) rfl h
  rw [if_neg hc] at h
  show hp_go _ _ _ _ _ 8 _ _ _
  refine hq_aload_n (pm_d rk_X2_setSecond 4 rfl) rfl 0 rfl ?_
  refine hq_getR (h := 11) 2 (pm_d rk_X2_setSecond 5 rfl) fl_X2_24 rfl rfl ?_
  refine hq_iload_n (pm_d rk_X2_setSecond 6 rfl) rfl 1 rfl ?_
  refine hq_iload_n (pm_d rk_X2_setSecond 7 rfl) rfl 2 rfl ?_
  obtain ⟨hg, h⟩ := pm_gd_i h
  refine hq_iastore (pm_d rk_X2_setSecond 8 rfl) rfl hg ?_
  refine pm_nm (G := fun t3 => hp_go sh_C me_X2_setSecond (d + 1) none s1 15 [(0, .ref 8), (1, .int a1), (2, .int a2)] [] t3) h (fun t3 h => ?_)
  exact hq_vret (pm_d rk_X2_setSecond 9 rfl) rfl h
def f_C_X4_let_7 (rec : Nat → Int32 → Int32 → Int32 → hp_S → Option (Int32 × hp_S)) (n : Nat) (a1 : Int32) (s : hp_S) : Option (Int32 × hp_S) :=
  pm_bd (f_C_X4_beginNode_7 (5 : Int32) (-1 : Int32) s) (fun x2 t1 =>
  pm_b1 (f_C_X4_expect_7 (2 : Int32) x2 t1) (fun t3 =>
  pm_b1 (f_C_X4_expect_7 (16 : Int32) x2 t3) (fun t4 =>
  pm_bd (rec 0 (a1 + (1 : Int32)) 0 0 t4) (fun x6 t5 =>
  pm_b1 (f_C_X2_setFirst_8 x2 x6 t5) (fun t7 =>
  pm_b1 (f_C_X4_expect_7 (6 : Int32) x2 t7) (fun t8 =>
  pm_bd (rec 3 x2 a1 0 t8) (fun x10 t9 =>
  pm_b1 (f_C_X2_setSecond_8 x2 x10 t9) (fun t11 =>
  some (x2, t11)))))))))
set_option maxRecDepth 100000 in
set_option maxHeartbeats 400000 in
theorem w_C_X4_let_7 (d : Nat) (rec : Nat → Int32 → Int32 → Int32 → hp_S → Option (Int32 × hp_S)) (n : Nat) (a1 : Int32) (hR : rec_ok rec (d + 9)) (s s1 : hp_S) (x0 : Int32) (h : f_C_X4_let_7 rec n a1 s = some (x0, s1)) : hp_is sh_C me_X4_let (d + 10) [.ref 7, .int a1] s (some (.int x0)) s1 := by
  refine hp_ofF [(0, .ref 7), (1, .int a1)] (by decide +kernel) (Nat.le_of_ble_eq_true rfl) rfl ?_
  unfold f_C_X4_let_7 at h
  refine hq_aload_n (pm_d rk_X4_let 0 rfl) rfl 0 rfl ?_
  refine hq_iconst (v := (5 : Int32)) (pm_d rk_X4_let 1 rfl) (by decide) ?_
  refine hq_iconst (v := (-1 : Int32)) (pm_d rk_X4_let 2 rfl) (by decide) ?_
  obtain ⟨x2, t1, hq, h⟩ := pm_bd_i h
  have hM := w_C_X4_beginNode_7 (d := d + 7) (h := hq)
  refine hq_callVi (a := 7) (ci := 4) [.int (5 : Int32), .int (-1 : Int32)] [] (pm_d rk_X4_let 3 rfl) ml_X4_98 iv_X4_beginNode rfl rfl rfl rfl rfl (Nat.le_of_ble_eq_true rfl) hM ?_
  refine hq_istore_n (L1 := [(2, .int x2), (0, .ref 7), (1, .int a1)]) (pm_d rk_X4_let 4 rfl) rfl (by decide) rfl ?_
  show hp_go _ _ _ _ _ 7 _ _ _
  refine hq_aload_n (pm_d rk_X4_let 5 rfl) rfl 1 rfl ?_
  refine hq_iconst (v := (2 : Int32)) (pm_d rk_X4_let 6 rfl) (by decide) ?_
  refine hq_iload_n (pm_d rk_X4_let 7 rfl) rfl 0 rfl ?_
  obtain ⟨t3, hq, h⟩ := pm_b1_i h
  have hM := w_C_X4_expect_7 (d := d + 7) (h := hq)
  refine hq_callVv (a := 7) (ci := 4) [.int (2 : Int32), .int x2] [] (pm_d rk_X4_let 8 rfl) ml_X4_102 iv_X4_expect rfl rfl rfl rfl rfl (Nat.le_of_ble_eq_true rfl) hM ?_
  refine hq_aload_n (pm_d rk_X4_let 9 rfl) rfl 1 rfl ?_
  refine hq_bipush (v := (16 : Int32)) (pm_d rk_X4_let 10 rfl) (by decide) ?_
  show hp_go _ _ _ _ _ 16 _ _ _
  refine hq_iload_n (pm_d rk_X4_let 11 rfl) rfl 0 rfl ?_
  obtain ⟨t4, hq, h⟩ := pm_b1_i h
  have hM := w_C_X4_expect_7 (d := d + 7) (h := hq)
  refine hq_callVv (a := 7) (ci := 4) [.int (16 : Int32), .int x2] [] (pm_d rk_X4_let 12 rfl) ml_X4_102 iv_X4_expect rfl rfl rfl rfl rfl (Nat.le_of_ble_eq_true rfl) hM ?_
  refine hq_aload_n (pm_d rk_X4_let 13 rfl) rfl 1 rfl ?_
  refine hq_getR (h := 8) 1 (pm_d rk_X4_let 14 rfl) fl_X4_16 rfl rfl ?_
  refine hq_iload_n (pm_d rk_X4_let 15 rfl) rfl 0 rfl ?_
  refine hq_aload_n (pm_d rk_X4_let 16 rfl) rfl 1 rfl ?_
  show hp_go _ _ _ _ _ 26 _ _ _
  refine hq_iload_n (pm_d rk_X4_let 17 rfl) rfl 2 rfl ?_
  refine hq_iconst (v := (1 : Int32)) (pm_d rk_X4_let 18 rfl) (by decide) ?_
  refine hq_iadd (pm_d rk_X4_let 19 rfl) ?_
  obtain ⟨x6, t5, hq, h⟩ := pm_bd_i h
  have hM := hR.1 _ _ _ _ hq
  refine hq_callVi (a := 7) (ci := 4) [.int (a1 + (1 : Int32))] [.int x2, .ref 8] (pm_d rk_X4_let 20 rfl) ml_X4_50 iv_X4_expression rfl rfl rfl rfl rfl (Nat.le_of_ble_eq_true rfl) hM ?_
  obtain ⟨t7, hq, h⟩ := pm_b1_i h
  have hM := w_C_X2_setFirst_8 (d := d + 8) (h := hq)
  refine hq_callVv (a := 8) (ci := 2) [.int x2, .int x6] [] (pm_d rk_X4_let 21 rfl) ml_X4_83 iv_X2_setFirst rfl rfl rfl rfl rfl (Nat.le_of_ble_eq_true rfl) hM ?_
  refine hq_aload_n (pm_d rk_X4_let 22 rfl) rfl 1 rfl ?_
  show hp_go _ _ _ _ _ 36 _ _ _
  refine hq_bipush (v := (6 : Int32)) (pm_d rk_X4_let 23 rfl) (by decide) ?_
  refine hq_iload_n (pm_d rk_X4_let 24 rfl) rfl 0 rfl ?_
  obtain ⟨t8, hq, h⟩ := pm_b1_i h
  have hM := w_C_X4_expect_7 (d := d + 7) (h := hq)
  refine hq_callVv (a := 7) (ci := 4) [.int (6 : Int32), .int x2] [] (pm_d rk_X4_let 25 rfl) ml_X4_102 iv_X4_expect rfl rfl rfl rfl rfl (Nat.le_of_ble_eq_true rfl) hM ?_
  refine hq_aload_n (pm_d rk_X4_let 26 rfl) rfl 1 rfl ?_
  refine hq_getR (h := 8) 1 (pm_d rk_X4_let 27 rfl) fl_X4_16 rfl rfl ?_
  refine hq_iload_n (pm_d rk_X4_let 28 rfl) rfl 0 rfl ?_
  show hp_go _ _ _ _ _ 47 _ _ _
  refine hq_aload_n (pm_d rk_X4_let 29 rfl) rfl 1 rfl ?_
  refine hq_iload_n (pm_d rk_X4_let 30 rfl) rfl 0 rfl ?_
  refine hq_iload_n (pm_d rk_X4_let 31 rfl) rfl 2 rfl ?_
  obtain ⟨x10, t9, hq, h⟩ := pm_bd_i h
  have hM := hR.2.2.2.1 _ _ _ _ _ hq
  refine hq_callVi (a := 7) (ci := 4) [.int x2, .int a1] [.int x2, .ref 8] (pm_d rk_X4_let 32 rfl) ml_X4_105 iv_X4_expressionInScope rfl rfl rfl rfl rfl (Nat.le_of_ble_eq_true rfl) hM ?_
  obtain ⟨t11, hq, h⟩ := pm_b1_i h
  have hM := w_C_X2_setSecond_8 (d := d + 8) (h := hq)
  refine hq_callVv (a := 8) (ci := 2) [.int x2, .int x10] [] (pm_d rk_X4_let 33 rfl) ml_X4_108 iv_X2_setSecond rfl rfl rfl rfl rfl (Nat.le_of_ble_eq_true rfl) hM ?_
  refine hq_iload_n (pm_d rk_X4_let 34 rfl) rfl 0 rfl ?_
  show hp_go _ _ _ _ _ 57 _ _ _
  exact hq_iret (pm_d rk_X4_let 35 rfl) rfl h
def f_C_X4_expressionInScope_7 (rec : Nat → Int32 → Int32 → Int32 → hp_S → Option (Int32 × hp_S)) (n : Nat) (a1 : Int32) (a2 : Int32) (s : hp_S) : Option (Int32 × hp_S) :=
  if (hs_I s 7 4) < (20 : Int32) then
    pm_gd1 (pm_ib (hs_I s 7 4) 20) (
    pm_let (hs_pA s 15 (hs_I s 7 4).toNatClampNeg a1) (fun t1 =>
    pm_let (hs_pI t1 7 4 ((hs_I t1 7 4) + (1 : Int32))) (fun t2 =>
    pm_bd (rec 0 (a2 + (1 : Int32)) 0 0 t2) (fun x4 t3 =>
    pm_let (hs_pI t3 7 4 ((hs_I t3 7 4) - (1 : Int32))) (fun t5 =>
    some (x4, t5))))))
  else
    pm_b1 (f_C_X4_refuse_7 s) (fun t6 =>
    some ((-1 : Int32), t6))
set_option maxRecDepth 100000 in
set_option maxHeartbeats 400000 in
theorem w_C_X4_expressionInScope_7 (d : Nat) (rec : Nat → Int32 → Int32 → Int32 → hp_S → Option (Int32 × hp_S)) (n : Nat) (a1 : Int32) (a2 : Int32) (hR : rec_ok rec (d + 9)) (s s1 : hp_S) (x0 : Int32) (h : f_C_X4_expressionInScope_7 rec n a1 a2 s = some (x0, s1)) : hp_is sh_C me_X4_expressionInScope (d + 10) [.ref 7, .int a1, .int a2] s (some (.int x0)) s1 := by
  refine hp_ofF [(0, .ref 7), (1, .int a1), (2, .int a2)] (by decide +kernel) (Nat.le_of_ble_eq_true rfl) rfl ?_
  unfold f_C_X4_expressionInScope_7 at h
  refine hq_aload_n (pm_d rk_X4_expressionInScope 0 rfl) rfl 0 rfl ?_
  refine hq_getI 4 (pm_d rk_X4_expressionInScope 1 rfl) fl_X4_27 rfl rfl ?_
  refine hq_bipush (v := (20 : Int32)) (pm_d rk_X4_expressionInScope 2 rfl) (by decide) ?_
  refine hq_icmp_lt 15 (pm_d rk_X4_expressionInScope 3 rfl) (by decide) (fun hc => ?_) (fun hc => ?_)
  · rw [if_pos hc] at h
    refine hq_aload_n (pm_d rk_X4_expressionInScope 8 rfl) rfl 0 rfl ?_
    show hp_go _ _ _ _ _ 16 _ _ _
    refine hq_getR (h := 15) 3 (pm_d rk_X4_expressionInScope 9 rfl) fl_X4_24 rfl rfl ?_
    refine hq_aload_n (pm_d rk_X4_expressionInScope 10 rfl) rfl 0 rfl ?_
    refine hq_getI 4 (pm_d rk_X4_expressionInScope 11 rfl) fl_X4_27 rfl rfl ?_
    refine hq_iload_n (pm_d rk_X4_expressionInScope 12 rfl) rfl 1 rfl ?_
    obtain ⟨hg, h⟩ := pm_gd_i h
    refine hq_iastore (pm_d rk_X4_expressionInScope 13 rfl) rfl hg ?_
    refine pm_nm (G := fun t1 => hp_go sh_C me_X4_expressionInScope (d + 10) (some (.int x0)) s1 25 [(0, .ref 7), (1, .int a1), (2, .int a2)] [] t1) h (fun t1 h => ?_)
    refine hq_aload_n (pm_d rk_X4_expressionInScope 14 rfl) rfl 0 rfl ?_
    show hp_go _ _ _ _ _ 26 _ _ _
    refine hq_dup (pm_d rk_X4_expressionInScope 15 rfl) rfl ?_
    refine hq_getI 4 (pm_d rk_X4_expressionInScope 16 rfl) fl_X4_27 rfl rfl ?_
    refine hq_iconst (v := (1 : Int32)) (pm_d rk_X4_expressionInScope 17 rfl) (by decide) ?_
    refine hq_iadd (pm_d rk_X4_expressionInScope 18 rfl) ?_
    refine hq_putI 4 (pm_d rk_X4_expressionInScope 19 rfl) fl_X4_27 rfl rfl ?_
    refine pm_nm (G := fun t2 => hp_go sh_C me_X4_expressionInScope (d + 10) (some (.int x0)) s1 35 [(0, .ref 7), (1, .int a1), (2, .int a2)] [] t2) h (fun t2 h => ?_)
    refine hq_aload_n (pm_d rk_X4_expressionInScope 20 rfl) rfl 0 rfl ?_
    show hp_go _ _ _ _ _ 36 _ _ _
    refine hq_iload_n (pm_d rk_X4_expressionInScope 21 rfl) rfl 2 rfl ?_
    refine hq_iconst (v := (1 : Int32)) (pm_d rk_X4_expressionInScope 22 rfl) (by decide) ?_
    refine hq_iadd (pm_d rk_X4_expressionInScope 23 rfl) ?_
    obtain ⟨x4, t3, hq, h⟩ := pm_bd_i h
    have hM := hR.1 _ _ _ _ hq
    refine hq_callVi (a := 7) (ci := 4) [.int (a2 + (1 : Int32))] [] (pm_d rk_X4_expressionInScope 24 rfl) ml_X4_50 iv_X4_expression rfl rfl rfl rfl rfl (Nat.le_of_ble_eq_true rfl) hM ?_
    refine hq_istore_n (L1 := [(3, .int x4), (0, .ref 7), (1, .int a1), (2, .int a2)]) (pm_d rk_X4_expressionInScope 25 rfl) rfl (by decide) rfl ?_
    refine hq_aload_n (pm_d rk_X4_expressionInScope 26 rfl) rfl 1 rfl ?_
    show hp_go _ _ _ _ _ 44 _ _ _
    refine hq_dup (pm_d rk_X4_expressionInScope 27 rfl) rfl ?_
    refine hq_getI 4 (pm_d rk_X4_expressionInScope 28 rfl) fl_X4_27 rfl rfl ?_
    refine hq_iconst (v := (1 : Int32)) (pm_d rk_X4_expressionInScope 29 rfl) (by decide) ?_
    refine hq_isub (pm_d rk_X4_expressionInScope 30 rfl) ?_
    refine hq_putI 4 (pm_d rk_X4_expressionInScope 31 rfl) fl_X4_27 rfl rfl ?_
    refine pm_nm (G := fun t5 => hp_go sh_C me_X4_expressionInScope (d + 10) (some (.int x0)) s1 53 [(3, .int x4), (0, .ref 7), (1, .int a1), (2, .int a2)] [] t5) h (fun t5 h => ?_)
    refine hq_iload_n (pm_d rk_X4_expressionInScope 32 rfl) rfl 0 rfl ?_
    show hp_go _ _ _ _ _ 54 _ _ _
    exact hq_iret (pm_d rk_X4_expressionInScope 33 rfl) rfl h
  rw [if_neg hc] at h
  refine hq_aload_n (pm_d rk_X4_expressionInScope 4 rfl) rfl 0 rfl ?_
  obtain ⟨t6, hq, h⟩ := pm_b1_i h
  have hM := w_C_X4_refuse_7 (d := d + 9) (h := hq)
  refine hq_callVv (a := 7) (ci := 4) [] [] (pm_d rk_X4_expressionInScope 5 rfl) ml_X4_58 iv_X4_refuse rfl rfl rfl rfl rfl (Nat.le_of_ble_eq_true rfl) hM ?_
  refine hq_iconst (v := (-1 : Int32)) (pm_d rk_X4_expressionInScope 6 rfl) (by decide) ?_
  exact hq_iret (pm_d rk_X4_expressionInScope 7 rfl) rfl h
def f_C_X2_setThird_8 (a1 : Int32) (a2 : Int32) (s : hp_S) : Option hp_S :=
  pm_bd (f_C_X2_holds_8 a1 s) (fun x2 t1 =>
  if x2 = 0 then
    some t1
  else
    pm_gd1 (pm_ib a1 501) (
    pm_let (hs_pA t1 12 a1.toNatClampNeg a2) (fun t3 =>
    some t3)))
set_option maxRecDepth 100000 in
set_option maxHeartbeats 400000 in
theorem w_C_X2_setThird_8 (d : Nat) (a1 : Int32) (a2 : Int32) (s s1 : hp_S) (h : f_C_X2_setThird_8 a1 a2 s = some s1) : hp_is sh_C me_X2_setThird (d + 1) [.ref 8, .int a1, .int a2] s none s1 := by
  refine hp_ofF [(0, .ref 8), (1, .int a1), (2, .int a2)] (by decide +kernel) (Nat.le_of_ble_eq_true rfl) rfl ?_
  unfold f_C_X2_setThird_8 at h
  refine hq_aload_n (pm_d rk_X2_setThird 0 rfl) rfl 0 rfl ?_
  refine hq_iload_n (pm_d rk_X2_setThird 1 rfl) rfl 1 rfl ?_
  obtain ⟨x2, t1, hq, h⟩ := pm_bd_i h
  have hM := w_C_X2_holds_8 (d := d + 0) (h := hq)
  refine hq_callVi (a := 8) (ci := 2) [.int a1] [] (pm_d rk_X2_setThird 2 rfl) ml_X2_33 iv_X2_holds rfl rfl rfl rfl rfl (Nat.le_of_ble_eq_true rfl) hM ?_
  refine hq_if_eq 15 (pm_d rk_X2_setThird 3 rfl) (by decide) (fun hc => ?_) (fun hc => ?_)
  · rw [if_pos hc] at h
    exact hq_vret (pm_d rk_X2_setThird 9 rfl) rfl h
  rw [if_neg hc] at h
  show hp_go _ _ _ _ _ 8 _ _ _
  refine hq_aload_n (pm_d rk_X2_setThird 4 rfl) rfl 0 rfl ?_
  refine hq_getR (h := 12) 3 (pm_d rk_X2_setThird 5 rfl) fl_X2_27 rfl rfl ?_
  refine hq_iload_n (pm_d rk_X2_setThird 6 rfl) rfl 1 rfl ?_
  refine hq_iload_n (pm_d rk_X2_setThird 7 rfl) rfl 2 rfl ?_
  obtain ⟨hg, h⟩ := pm_gd_i h
  refine hq_iastore (pm_d rk_X2_setThird 8 rfl) rfl hg ?_
  refine pm_nm (G := fun t3 => hp_go sh_C me_X2_setThird (d + 1) none s1 15 [(0, .ref 8), (1, .int a1), (2, .int a2)] [] t3) h (fun t3 h => ?_)
  exact hq_vret (pm_d rk_X2_setThird 9 rfl) rfl h
def f_C_X4_choice_7 (rec : Nat → Int32 → Int32 → Int32 → hp_S → Option (Int32 × hp_S)) (n : Nat) (a1 : Int32) (s : hp_S) : Option (Int32 × hp_S) :=
  pm_bd (f_C_X4_beginNode_7 (7 : Int32) (-1 : Int32) s) (fun x2 t1 =>
  pm_bd (rec 0 (a1 + (1 : Int32)) 0 0 t1) (fun x4 t3 =>
  pm_b1 (f_C_X2_setFirst_8 x2 x4 t3) (fun t5 =>
  pm_b1 (f_C_X4_expect_7 (8 : Int32) x2 t5) (fun t6 =>
  pm_bd (rec 0 (a1 + (1 : Int32)) 0 0 t6) (fun x8 t7 =>
  pm_b1 (f_C_X2_setSecond_8 x2 x8 t7) (fun t9 =>
  pm_b1 (f_C_X4_expect_7 (9 : Int32) x2 t9) (fun t10 =>
  pm_bd (rec 0 (a1 + (1 : Int32)) 0 0 t10) (fun x12 t11 =>
  pm_b1 (f_C_X2_setThird_8 x2 x12 t11) (fun t13 =>
  some (x2, t13))))))))))
set_option maxRecDepth 100000 in
set_option maxHeartbeats 400000 in
theorem w_C_X4_choice_7 (d : Nat) (rec : Nat → Int32 → Int32 → Int32 → hp_S → Option (Int32 × hp_S)) (n : Nat) (a1 : Int32) (hR : rec_ok rec (d + 9)) (s s1 : hp_S) (x0 : Int32) (h : f_C_X4_choice_7 rec n a1 s = some (x0, s1)) : hp_is sh_C me_X4_choice (d + 10) [.ref 7, .int a1] s (some (.int x0)) s1 := by
  refine hp_ofF [(0, .ref 7), (1, .int a1)] (by decide +kernel) (Nat.le_of_ble_eq_true rfl) rfl ?_
  unfold f_C_X4_choice_7 at h
  refine hq_aload_n (pm_d rk_X4_choice 0 rfl) rfl 0 rfl ?_
  refine hq_bipush (v := (7 : Int32)) (pm_d rk_X4_choice 1 rfl) (by decide) ?_
  refine hq_iconst (v := (-1 : Int32)) (pm_d rk_X4_choice 2 rfl) (by decide) ?_
  obtain ⟨x2, t1, hq, h⟩ := pm_bd_i h
  have hM := w_C_X4_beginNode_7 (d := d + 7) (h := hq)
  refine hq_callVi (a := 7) (ci := 4) [.int (7 : Int32), .int (-1 : Int32)] [] (pm_d rk_X4_choice 3 rfl) ml_X4_98 iv_X4_beginNode rfl rfl rfl rfl rfl (Nat.le_of_ble_eq_true rfl) hM ?_
  refine hq_istore_n (L1 := [(2, .int x2), (0, .ref 7), (1, .int a1)]) (pm_d rk_X4_choice 4 rfl) rfl (by decide) rfl ?_
  show hp_go _ _ _ _ _ 8 _ _ _
  refine hq_aload_n (pm_d rk_X4_choice 5 rfl) rfl 1 rfl ?_
  refine hq_getR (h := 8) 1 (pm_d rk_X4_choice 6 rfl) fl_X4_16 rfl rfl ?_
  refine hq_iload_n (pm_d rk_X4_choice 7 rfl) rfl 0 rfl ?_
  refine hq_aload_n (pm_d rk_X4_choice 8 rfl) rfl 1 rfl ?_
  refine hq_iload_n (pm_d rk_X4_choice 9 rfl) rfl 2 rfl ?_
  refine hq_iconst (v := (1 : Int32)) (pm_d rk_X4_choice 10 rfl) (by decide) ?_
  show hp_go _ _ _ _ _ 16 _ _ _
  refine hq_iadd (pm_d rk_X4_choice 11 rfl) ?_
  obtain ⟨x4, t3, hq, h⟩ := pm_bd_i h
  have hM := hR.1 _ _ _ _ hq
  refine hq_callVi (a := 7) (ci := 4) [.int (a1 + (1 : Int32))] [.int x2, .ref 8] (pm_d rk_X4_choice 12 rfl) ml_X4_50 iv_X4_expression rfl rfl rfl rfl rfl (Nat.le_of_ble_eq_true rfl) hM ?_
  obtain ⟨t5, hq, h⟩ := pm_b1_i h
  have hM := w_C_X2_setFirst_8 (d := d + 8) (h := hq)
  refine hq_callVv (a := 8) (ci := 2) [.int x2, .int x4] [] (pm_d rk_X4_choice 13 rfl) ml_X4_83 iv_X2_setFirst rfl rfl rfl rfl rfl (Nat.le_of_ble_eq_true rfl) hM ?_
  refine hq_aload_n (pm_d rk_X4_choice 14 rfl) rfl 1 rfl ?_
  refine hq_bipush (v := (8 : Int32)) (pm_d rk_X4_choice 15 rfl) (by decide) ?_
  refine hq_iload_n (pm_d rk_X4_choice 16 rfl) rfl 0 rfl ?_
  show hp_go _ _ _ _ _ 27 _ _ _
  obtain ⟨t6, hq, h⟩ := pm_b1_i h
  have hM := w_C_X4_expect_7 (d := d + 7) (h := hq)
  refine hq_callVv (a := 7) (ci := 4) [.int (8 : Int32), .int x2] [] (pm_d rk_X4_choice 17 rfl) ml_X4_102 iv_X4_expect rfl rfl rfl rfl rfl (Nat.le_of_ble_eq_true rfl) hM ?_
  refine hq_aload_n (pm_d rk_X4_choice 18 rfl) rfl 1 rfl ?_
  refine hq_getR (h := 8) 1 (pm_d rk_X4_choice 19 rfl) fl_X4_16 rfl rfl ?_
  refine hq_iload_n (pm_d rk_X4_choice 20 rfl) rfl 0 rfl ?_
  refine hq_aload_n (pm_d rk_X4_choice 21 rfl) rfl 1 rfl ?_
  refine hq_iload_n (pm_d rk_X4_choice 22 rfl) rfl 2 rfl ?_
  show hp_go _ _ _ _ _ 37 _ _ _
  refine hq_iconst (v := (1 : Int32)) (pm_d rk_X4_choice 23 rfl) (by decide) ?_
  refine hq_iadd (pm_d rk_X4_choice 24 rfl) ?_
  obtain ⟨x8, t7, hq, h⟩ := pm_bd_i h
  have hM := hR.1 _ _ _ _ hq
  refine hq_callVi (a := 7) (ci := 4) [.int (a1 + (1 : Int32))] [.int x2, .ref 8] (pm_d rk_X4_choice 25 rfl) ml_X4_50 iv_X4_expression rfl rfl rfl rfl rfl (Nat.le_of_ble_eq_true rfl) hM ?_
  obtain ⟨t9, hq, h⟩ := pm_b1_i h
  have hM := w_C_X2_setSecond_8 (d := d + 8) (h := hq)
  refine hq_callVv (a := 8) (ci := 2) [.int x2, .int x8] [] (pm_d rk_X4_choice 26 rfl) ml_X4_108 iv_X2_setSecond rfl rfl rfl rfl rfl (Nat.le_of_ble_eq_true rfl) hM ?_
  refine hq_aload_n (pm_d rk_X4_choice 27 rfl) rfl 1 rfl ?_
  refine hq_bipush (v := (9 : Int32)) (pm_d rk_X4_choice 28 rfl) (by decide) ?_
  show hp_go _ _ _ _ _ 48 _ _ _
  refine hq_iload_n (pm_d rk_X4_choice 29 rfl) rfl 0 rfl ?_
  obtain ⟨t10, hq, h⟩ := pm_b1_i h
  have hM := w_C_X4_expect_7 (d := d + 7) (h := hq)
  refine hq_callVv (a := 7) (ci := 4) [.int (9 : Int32), .int x2] [] (pm_d rk_X4_choice 30 rfl) ml_X4_102 iv_X4_expect rfl rfl rfl rfl rfl (Nat.le_of_ble_eq_true rfl) hM ?_
  refine hq_aload_n (pm_d rk_X4_choice 31 rfl) rfl 1 rfl ?_
  refine hq_getR (h := 8) 1 (pm_d rk_X4_choice 32 rfl) fl_X4_16 rfl rfl ?_
  refine hq_iload_n (pm_d rk_X4_choice 33 rfl) rfl 0 rfl ?_
  refine hq_aload_n (pm_d rk_X4_choice 34 rfl) rfl 1 rfl ?_
  show hp_go _ _ _ _ _ 58 _ _ _
  refine hq_iload_n (pm_d rk_X4_choice 35 rfl) rfl 2 rfl ?_
  refine hq_iconst (v := (1 : Int32)) (pm_d rk_X4_choice 36 rfl) (by decide) ?_
  refine hq_iadd (pm_d rk_X4_choice 37 rfl) ?_
  obtain ⟨x12, t11, hq, h⟩ := pm_bd_i h
  have hM := hR.1 _ _ _ _ hq
  refine hq_callVi (a := 7) (ci := 4) [.int (a1 + (1 : Int32))] [.int x2, .ref 8] (pm_d rk_X4_choice 38 rfl) ml_X4_50 iv_X4_expression rfl rfl rfl rfl rfl (Nat.le_of_ble_eq_true rfl) hM ?_
  obtain ⟨t13, hq, h⟩ := pm_b1_i h
  have hM := w_C_X2_setThird_8 (d := d + 8) (h := hq)
  refine hq_callVv (a := 8) (ci := 2) [.int x2, .int x12] [] (pm_d rk_X4_choice 39 rfl) ml_X4_111 iv_X2_setThird rfl rfl rfl rfl rfl (Nat.le_of_ble_eq_true rfl) hM ?_
  refine hq_iload_n (pm_d rk_X4_choice 40 rfl) rfl 0 rfl ?_
  show hp_go _ _ _ _ _ 68 _ _ _
  exact hq_iret (pm_d rk_X4_choice 41 rfl) rfl h
def f_C_X4_comparison_7 (rec : Nat → Int32 → Int32 → Int32 → hp_S → Option (Int32 × hp_S)) (n : Nat) (a1 : Int32) (s : hp_S) : Option (Int32 × hp_S) :=
  pm_bd (rec 6 a1 0 0 s) (fun x2 t1 =>
  pm_bd (f_C_X4_current_7 t1) (fun x4 t3 =>
  if x4 = (21 : Int32) then
    pm_bd (f_C_X4_beginNode_7 (21 : Int32) x2 t3) (fun x6 t5 =>
    pm_bd (rec 6 a1 0 0 t5) (fun x8 t7 =>
    pm_b1 (f_C_X2_setSecond_8 x6 x8 t7) (fun t9 =>
    some (x6, t9))))
  else
    some (x2, t3)))
set_option maxRecDepth 100000 in
set_option maxHeartbeats 400000 in
theorem w_C_X4_comparison_7 (d : Nat) (rec : Nat → Int32 → Int32 → Int32 → hp_S → Option (Int32 × hp_S)) (n : Nat) (a1 : Int32) (hR : rec_ok rec (d + 9)) (s s1 : hp_S) (x0 : Int32) (h : f_C_X4_comparison_7 rec n a1 s = some (x0, s1)) : hp_is sh_C me_X4_comparison (d + 10) [.ref 7, .int a1] s (some (.int x0)) s1 := by
  refine hp_ofF [(0, .ref 7), (1, .int a1)] (by decide +kernel) (Nat.le_of_ble_eq_true rfl) rfl ?_
  unfold f_C_X4_comparison_7 at h
  refine hq_aload_n (pm_d rk_X4_comparison 0 rfl) rfl 0 rfl ?_
  refine hq_iload_n (pm_d rk_X4_comparison 1 rfl) rfl 1 rfl ?_
  obtain ⟨x2, t1, hq, h⟩ := pm_bd_i h
  have hM := hR.2.2.2.2.2.2.1 _ _ _ _ hq
  refine hq_callVi (a := 7) (ci := 4) [.int a1] [] (pm_d rk_X4_comparison 2 rfl) ml_X4_114 iv_X4_sum rfl rfl rfl rfl rfl (Nat.le_of_ble_eq_true rfl) hM ?_
  refine hq_istore_n (L1 := [(2, .int x2), (0, .ref 7), (1, .int a1)]) (pm_d rk_X4_comparison 3 rfl) rfl (by decide) rfl ?_
  refine hq_aload_n (pm_d rk_X4_comparison 4 rfl) rfl 1 rfl ?_
  show hp_go _ _ _ _ _ 7 _ _ _
  obtain ⟨x4, t3, hq, h⟩ := pm_bd_i h
  have hM := w_C_X4_current_7 (d := d + 8) (h := hq)
  refine hq_callVi (a := 7) (ci := 4) [] [] (pm_d rk_X4_comparison 5 rfl) ml_X4_54 iv_X4_current rfl rfl rfl rfl rfl (Nat.le_of_ble_eq_true rfl) hM ?_
  refine hq_bipush (v := (21 : Int32)) (pm_d rk_X4_comparison 6 rfl) (by decide) ?_
  refine hq_icmp_eq 17 (pm_d rk_X4_comparison 7 rfl) (by decide) (fun hc => ?_) (fun hc => ?_)
  · rw [if_pos hc] at h
    refine hq_aload_n (pm_d rk_X4_comparison 10 rfl) rfl 1 rfl ?_
    refine hq_bipush (v := (21 : Int32)) (pm_d rk_X4_comparison 11 rfl) (by decide) ?_
    refine hq_iload_n (pm_d rk_X4_comparison 12 rfl) rfl 0 rfl ?_
    show hp_go _ _ _ _ _ 21 _ _ _
    obtain ⟨x6, t5, hq, h⟩ := pm_bd_i h
    have hM := w_C_X4_beginNode_7 (d := d + 7) (h := hq)
    refine hq_callVi (a := 7) (ci := 4) [.int (21 : Int32), .int x2] [] (pm_d rk_X4_comparison 13 rfl) ml_X4_98 iv_X4_beginNode rfl rfl rfl rfl rfl (Nat.le_of_ble_eq_true rfl) hM ?_
    refine hq_istore_n (L1 := [(3, .int x6), (2, .int x2), (0, .ref 7), (1, .int a1)]) (pm_d rk_X4_comparison 14 rfl) rfl (by decide) rfl ?_
    refine hq_aload_n (pm_d rk_X4_comparison 15 rfl) rfl 2 rfl ?_
    refine hq_getR (h := 8) 1 (pm_d rk_X4_comparison 16 rfl) fl_X4_16 rfl rfl ?_
    refine hq_iload_n (pm_d rk_X4_comparison 17 rfl) rfl 0 rfl ?_
    refine hq_aload_n (pm_d rk_X4_comparison 18 rfl) rfl 2 rfl ?_
    show hp_go _ _ _ _ _ 31 _ _ _
    refine hq_iload_n (pm_d rk_X4_comparison 19 rfl) rfl 3 rfl ?_
    obtain ⟨x8, t7, hq, h⟩ := pm_bd_i h
    have hM := hR.2.2.2.2.2.2.1 _ _ _ _ hq
    refine hq_callVi (a := 7) (ci := 4) [.int a1] [.int x6, .ref 8] (pm_d rk_X4_comparison 20 rfl) ml_X4_114 iv_X4_sum rfl rfl rfl rfl rfl (Nat.le_of_ble_eq_true rfl) hM ?_
    obtain ⟨t9, hq, h⟩ := pm_b1_i h
    have hM := w_C_X2_setSecond_8 (d := d + 8) (h := hq)
    refine hq_callVv (a := 8) (ci := 2) [.int x6, .int x8] [] (pm_d rk_X4_comparison 21 rfl) ml_X4_108 iv_X2_setSecond rfl rfl rfl rfl rfl (Nat.le_of_ble_eq_true rfl) hM ?_
    refine hq_iload_n (pm_d rk_X4_comparison 22 rfl) rfl 0 rfl ?_
    exact hq_iret (pm_d rk_X4_comparison 23 rfl) rfl h
  rw [if_neg hc] at h
  refine hq_iload_n (pm_d rk_X4_comparison 8 rfl) rfl 0 rfl ?_
  show hp_go _ _ _ _ _ 16 _ _ _
  exact hq_iret (pm_d rk_X4_comparison 9 rfl) rfl h
def l_C_X4_sum_7_8 (rec : Nat → Int32 → Int32 → Int32 → hp_S → Option (Int32 × hp_S)) : Nat → Int32 → Int32 → Int32 → hp_S → Option (Int32 × hp_S)
  | 0, _, _, _, _ => none
  | n + 1, y1, y2, y3, s =>
    if (100 : Int32) < y3 then
      some (y2, s)
    else
      pm_bd (f_C_X4_current_7 s) (fun x4 t3 =>
      if x4 = (20 : Int32) then
        pm_bd (f_C_X4_beginNode_7 (20 : Int32) y2 t3) (fun x6 t5 =>
        pm_bd (rec 7 y1 0 0 t5) (fun x8 t7 =>
        pm_b1 (f_C_X2_setSecond_8 x6 x8 t7) (fun t9 =>
        pm_let (y3 + (1 : Int32)) (fun x10 =>
        l_C_X4_sum_7_8 rec n y1 x6 x10 t9))))
      else
        some (y2, t3))
set_option maxRecDepth 100000 in
set_option maxHeartbeats 400000 in
theorem wl_C_X4_sum_7_8 (d : Nat) (rec : Nat → Int32 → Int32 → Int32 → hp_S → Option (Int32 × hp_S)) (hR : rec_ok rec (d + 9)) (s1 : hp_S) (x0 : Int32)  : ∀ (n : Nat) (y1 : Int32) (y2 : Int32) (y3 : Int32) (s : hp_S), l_C_X4_sum_7_8 rec n y1 y2 y3 s = some (x0, s1) → hp_go sh_C me_X4_sum (d + 10) (some (.int x0)) s1 8 [(0, .ref 7), (1, .int y1), (2, .int y2), (3, .int y3)] [] s := by
  intro n
  induction n with
  | zero =>
    intro y1 y2 y3 s h
    cases h
  | succ n ih =>
    intro y1 y2 y3 s h
    rw [l_C_X4_sum_7_8.eq_2] at h
    refine hq_iload_n (pm_d rk_X4_sum 6 rfl) rfl 3 rfl ?_
    refine hq_bipush (v := (100 : Int32)) (pm_d rk_X4_sum 7 rfl) (by decide) ?_
    refine hq_icmp_gt 50 (pm_d rk_X4_sum 8 rfl) (by decide) (fun hc => ?_) (fun hc => ?_)
    · rw [if_pos hc] at h
      refine hq_iload_n (pm_d rk_X4_sum 27 rfl) rfl 2 rfl ?_
      exact hq_iret (pm_d rk_X4_sum 28 rfl) rfl h
    rw [if_neg hc] at h
    show hp_go _ _ _ _ _ 14 _ _ _
    refine hq_aload_n (pm_d rk_X4_sum 9 rfl) rfl 0 rfl ?_
    obtain ⟨x4, t3, hq, h⟩ := pm_bd_i h
    have hM := w_C_X4_current_7 (d := d + 8) (h := hq)
    refine hq_callVi (a := 7) (ci := 4) [] [] (pm_d rk_X4_sum 10 rfl) ml_X4_54 iv_X4_current rfl rfl rfl rfl rfl (Nat.le_of_ble_eq_true rfl) hM ?_
    refine hq_bipush (v := (20 : Int32)) (pm_d rk_X4_sum 11 rfl) (by decide) ?_
    refine hq_icmp_ne 50 (pm_d rk_X4_sum 12 rfl) (by decide) (fun hc => ?_) (fun hc => ?_)
    · rw [if_neg hc] at h
      refine hq_iload_n (pm_d rk_X4_sum 27 rfl) rfl 2 rfl ?_
      exact hq_iret (pm_d rk_X4_sum 28 rfl) rfl h
    rw [if_pos hc] at h
    show hp_go _ _ _ _ _ 23 _ _ _
    refine hq_aload_n (pm_d rk_X4_sum 13 rfl) rfl 0 rfl ?_
    refine hq_bipush (v := (20 : Int32)) (pm_d rk_X4_sum 14 rfl) (by decide) ?_
    refine hq_iload_n (pm_d rk_X4_sum 15 rfl) rfl 2 rfl ?_
    obtain ⟨x6, t5, hq, h⟩ := pm_bd_i h
    have hM := w_C_X4_beginNode_7 (d := d + 7) (h := hq)
    refine hq_callVi (a := 7) (ci := 4) [.int (20 : Int32), .int y2] [] (pm_d rk_X4_sum 16 rfl) ml_X4_98 iv_X4_beginNode rfl rfl rfl rfl rfl (Nat.le_of_ble_eq_true rfl) hM ?_
    refine hq_istore_n (L1 := [(2, .int x6), (0, .ref 7), (1, .int y1), (3, .int y3)]) (pm_d rk_X4_sum 17 rfl) rfl (by decide) rfl ?_
    refine hq_aload_n (pm_d rk_X4_sum 18 rfl) rfl 1 rfl ?_
    show hp_go _ _ _ _ _ 32 _ _ _
    refine hq_getR (h := 8) 1 (pm_d rk_X4_sum 19 rfl) fl_X4_16 rfl rfl ?_
    refine hq_iload_n (pm_d rk_X4_sum 20 rfl) rfl 0 rfl ?_
    refine hq_aload_n (pm_d rk_X4_sum 21 rfl) rfl 1 rfl ?_
    refine hq_iload_n (pm_d rk_X4_sum 22 rfl) rfl 2 rfl ?_
    obtain ⟨x8, t7, hq, h⟩ := pm_bd_i h
    have hM := hR.2.2.2.2.2.2.2.1 _ _ _ _ hq
    refine hq_callVi (a := 7) (ci := 4) [.int y1] [.int x6, .ref 8] (pm_d rk_X4_sum 23 rfl) ml_X4_117 iv_X4_call rfl rfl rfl rfl rfl (Nat.le_of_ble_eq_true rfl) hM ?_
    obtain ⟨t9, hq, h⟩ := pm_b1_i h
    have hM := w_C_X2_setSecond_8 (d := d + 8) (h := hq)
    refine hq_callVv (a := 8) (ci := 2) [.int x6, .int x8] [] (pm_d rk_X4_sum 24 rfl) ml_X4_108 iv_X2_setSecond rfl rfl rfl rfl rfl (Nat.le_of_ble_eq_true rfl) hM ?_
    show hp_go _ _ _ _ _ 44 _ _ _
    refine hq_iinc (v := y3 + (1 : Int32)) (L1 := [(3, .int (y3 + (1 : Int32))), (2, .int x6), (0, .ref 7), (1, .int y1)]) (pm_d rk_X4_sum 25 rfl) 3 rfl (by rw [show Int32.ofInt (1) = (1 : Int32) by decide]) (by decide) rfl ?_
    refine pm_nm (G := fun x10 => hp_go sh_C me_X4_sum (d + 10) (some (.int x0)) s1 47 [(3, .int x10), (2, .int x6), (0, .ref 7), (1, .int y1)] [] t9) h (fun x10 h => ?_)
    refine hq_goto 8 (pm_d rk_X4_sum 26 rfl) (by decide) ?_
    refine hq_drop [2, 3, 1, 0] rfl ?_
    exact ih _ _ _ _ h
def f_C_X4_sum_7 (rec : Nat → Int32 → Int32 → Int32 → hp_S → Option (Int32 × hp_S)) (n : Nat) (a1 : Int32) (s : hp_S) : Option (Int32 × hp_S) :=
  pm_bd (rec 7 a1 0 0 s) (fun x2 t1 =>
  l_C_X4_sum_7_8 rec n a1 x2 (0 : Int32) t1)
set_option maxRecDepth 100000 in
set_option maxHeartbeats 400000 in
theorem w_C_X4_sum_7 (d : Nat) (rec : Nat → Int32 → Int32 → Int32 → hp_S → Option (Int32 × hp_S)) (n : Nat) (a1 : Int32) (hR : rec_ok rec (d + 9)) (s s1 : hp_S) (x0 : Int32) (h : f_C_X4_sum_7 rec n a1 s = some (x0, s1)) : hp_is sh_C me_X4_sum (d + 10) [.ref 7, .int a1] s (some (.int x0)) s1 := by
  refine hp_ofF [(0, .ref 7), (1, .int a1)] (by decide +kernel) (Nat.le_of_ble_eq_true rfl) rfl ?_
  unfold f_C_X4_sum_7 at h
  refine hq_aload_n (pm_d rk_X4_sum 0 rfl) rfl 0 rfl ?_
  refine hq_iload_n (pm_d rk_X4_sum 1 rfl) rfl 1 rfl ?_
  obtain ⟨x2, t1, hq, h⟩ := pm_bd_i h
  have hM := hR.2.2.2.2.2.2.2.1 _ _ _ _ hq
  refine hq_callVi (a := 7) (ci := 4) [.int a1] [] (pm_d rk_X4_sum 2 rfl) ml_X4_117 iv_X4_call rfl rfl rfl rfl rfl (Nat.le_of_ble_eq_true rfl) hM ?_
  refine hq_istore_n (L1 := [(2, .int x2), (0, .ref 7), (1, .int a1)]) (pm_d rk_X4_sum 3 rfl) rfl (by decide) rfl ?_
  refine hq_iconst (v := (0 : Int32)) (pm_d rk_X4_sum 4 rfl) (by decide) ?_
  show hp_go _ _ _ _ _ 7 _ _ _
  refine hq_istore_n (L1 := [(3, .int (0 : Int32)), (2, .int x2), (0, .ref 7), (1, .int a1)]) (pm_d rk_X4_sum 5 rfl) rfl (by decide) rfl ?_
  refine hq_drop [2, 3, 1, 0] rfl ?_
  exact wl_C_X4_sum_7_8 d rec hR _ _   _ _ _ _ _ h
def l_C_X4_call_7_8 (rec : Nat → Int32 → Int32 → Int32 → hp_S → Option (Int32 × hp_S)) : Nat → Int32 → Int32 → Int32 → hp_S → Option (Int32 × hp_S)
  | 0, _, _, _, _ => none
  | n + 1, y1, y2, y3, s =>
    if (100 : Int32) < y3 then
      some (y2, s)
    else
      pm_bd (f_C_X4_current_7 s) (fun x4 t3 =>
      if x4 = (17 : Int32) then
        pm_bd (f_C_X4_beginNode_7 (17 : Int32) y2 t3) (fun x6 t5 =>
        pm_bd (rec 0 (y1 + (1 : Int32)) 0 0 t5) (fun x8 t7 =>
        pm_b1 (f_C_X2_setSecond_8 x6 x8 t7) (fun t9 =>
        pm_b1 (f_C_X4_expect_7 (18 : Int32) x6 t9) (fun t10 =>
        pm_let (y3 + (1 : Int32)) (fun x11 =>
        l_C_X4_call_7_8 rec n y1 x6 x11 t10)))))
      else
        some (y2, t3))
set_option maxRecDepth 100000 in
set_option maxHeartbeats 400000 in
theorem wl_C_X4_call_7_8 (d : Nat) (rec : Nat → Int32 → Int32 → Int32 → hp_S → Option (Int32 × hp_S)) (hR : rec_ok rec (d + 9)) (s1 : hp_S) (x0 : Int32)  : ∀ (n : Nat) (y1 : Int32) (y2 : Int32) (y3 : Int32) (s : hp_S), l_C_X4_call_7_8 rec n y1 y2 y3 s = some (x0, s1) → hp_go sh_C me_X4_call (d + 10) (some (.int x0)) s1 8 [(0, .ref 7), (1, .int y1), (2, .int y2), (3, .int y3)] [] s := by
  intro n
  induction n with
  | zero =>
    intro y1 y2 y3 s h
    cases h
  | succ n ih =>
    intro y1 y2 y3 s h
    rw [l_C_X4_call_7_8.eq_2] at h
    refine hq_iload_n (pm_d rk_X4_call 6 rfl) rfl 3 rfl ?_
    refine hq_bipush (v := (100 : Int32)) (pm_d rk_X4_call 7 rfl) (by decide) ?_
    refine hq_icmp_gt 59 (pm_d rk_X4_call 8 rfl) (by decide) (fun hc => ?_) (fun hc => ?_)
    · rw [if_pos hc] at h
      refine hq_iload_n (pm_d rk_X4_call 33 rfl) rfl 2 rfl ?_
      exact hq_iret (pm_d rk_X4_call 34 rfl) rfl h
    rw [if_neg hc] at h
    show hp_go _ _ _ _ _ 14 _ _ _
    refine hq_aload_n (pm_d rk_X4_call 9 rfl) rfl 0 rfl ?_
    obtain ⟨x4, t3, hq, h⟩ := pm_bd_i h
    have hM := w_C_X4_current_7 (d := d + 8) (h := hq)
    refine hq_callVi (a := 7) (ci := 4) [] [] (pm_d rk_X4_call 10 rfl) ml_X4_54 iv_X4_current rfl rfl rfl rfl rfl (Nat.le_of_ble_eq_true rfl) hM ?_
    refine hq_bipush (v := (17 : Int32)) (pm_d rk_X4_call 11 rfl) (by decide) ?_
    refine hq_icmp_ne 59 (pm_d rk_X4_call 12 rfl) (by decide) (fun hc => ?_) (fun hc => ?_)
    · rw [if_neg hc] at h
      refine hq_iload_n (pm_d rk_X4_call 33 rfl) rfl 2 rfl ?_
      exact hq_iret (pm_d rk_X4_call 34 rfl) rfl h
    rw [if_pos hc] at h
    show hp_go _ _ _ _ _ 23 _ _ _
    refine hq_aload_n (pm_d rk_X4_call 13 rfl) rfl 0 rfl ?_
    refine hq_bipush (v := (17 : Int32)) (pm_d rk_X4_call 14 rfl) (by decide) ?_
    refine hq_iload_n (pm_d rk_X4_call 15 rfl) rfl 2 rfl ?_
    obtain ⟨x6, t5, hq, h⟩ := pm_bd_i h
    have hM := w_C_X4_beginNode_7 (d := d + 7) (h := hq)
    refine hq_callVi (a := 7) (ci := 4) [.int (17 : Int32), .int y2] [] (pm_d rk_X4_call 16 rfl) ml_X4_98 iv_X4_beginNode rfl rfl rfl rfl rfl (Nat.le_of_ble_eq_true rfl) hM ?_
    refine hq_istore_n (L1 := [(2, .int x6), (0, .ref 7), (1, .int y1), (3, .int y3)]) (pm_d rk_X4_call 17 rfl) rfl (by decide) rfl ?_
    refine hq_aload_n (pm_d rk_X4_call 18 rfl) rfl 1 rfl ?_
    show hp_go _ _ _ _ _ 32 _ _ _
    refine hq_getR (h := 8) 1 (pm_d rk_X4_call 19 rfl) fl_X4_16 rfl rfl ?_
    refine hq_iload_n (pm_d rk_X4_call 20 rfl) rfl 0 rfl ?_
    refine hq_aload_n (pm_d rk_X4_call 21 rfl) rfl 1 rfl ?_
    refine hq_iload_n (pm_d rk_X4_call 22 rfl) rfl 2 rfl ?_
    refine hq_iconst (v := (1 : Int32)) (pm_d rk_X4_call 23 rfl) (by decide) ?_
    refine hq_iadd (pm_d rk_X4_call 24 rfl) ?_
    show hp_go _ _ _ _ _ 40 _ _ _
    obtain ⟨x8, t7, hq, h⟩ := pm_bd_i h
    have hM := hR.1 _ _ _ _ hq
    refine hq_callVi (a := 7) (ci := 4) [.int (y1 + (1 : Int32))] [.int x6, .ref 8] (pm_d rk_X4_call 25 rfl) ml_X4_50 iv_X4_expression rfl rfl rfl rfl rfl (Nat.le_of_ble_eq_true rfl) hM ?_
    obtain ⟨t9, hq, h⟩ := pm_b1_i h
    have hM := w_C_X2_setSecond_8 (d := d + 8) (h := hq)
    refine hq_callVv (a := 8) (ci := 2) [.int x6, .int x8] [] (pm_d rk_X4_call 26 rfl) ml_X4_108 iv_X2_setSecond rfl rfl rfl rfl rfl (Nat.le_of_ble_eq_true rfl) hM ?_
    refine hq_aload_n (pm_d rk_X4_call 27 rfl) rfl 1 rfl ?_
    refine hq_bipush (v := (18 : Int32)) (pm_d rk_X4_call 28 rfl) (by decide) ?_
    refine hq_iload_n (pm_d rk_X4_call 29 rfl) rfl 0 rfl ?_
    obtain ⟨t10, hq, h⟩ := pm_b1_i h
    have hM := w_C_X4_expect_7 (d := d + 7) (h := hq)
    refine hq_callVv (a := 7) (ci := 4) [.int (18 : Int32), .int x6] [] (pm_d rk_X4_call 30 rfl) ml_X4_102 iv_X4_expect rfl rfl rfl rfl rfl (Nat.le_of_ble_eq_true rfl) hM ?_
    show hp_go _ _ _ _ _ 53 _ _ _
    refine hq_iinc (v := y3 + (1 : Int32)) (L1 := [(3, .int (y3 + (1 : Int32))), (2, .int x6), (0, .ref 7), (1, .int y1)]) (pm_d rk_X4_call 31 rfl) 3 rfl (by rw [show Int32.ofInt (1) = (1 : Int32) by decide]) (by decide) rfl ?_
    refine pm_nm (G := fun x11 => hp_go sh_C me_X4_call (d + 10) (some (.int x0)) s1 56 [(3, .int x11), (2, .int x6), (0, .ref 7), (1, .int y1)] [] t10) h (fun x11 h => ?_)
    refine hq_goto 8 (pm_d rk_X4_call 32 rfl) (by decide) ?_
    refine hq_drop [2, 3, 1, 0] rfl ?_
    exact ih _ _ _ _ h
def f_C_X4_call_7 (rec : Nat → Int32 → Int32 → Int32 → hp_S → Option (Int32 × hp_S)) (n : Nat) (a1 : Int32) (s : hp_S) : Option (Int32 × hp_S) :=
  pm_bd (rec 8 a1 0 0 s) (fun x2 t1 =>
  l_C_X4_call_7_8 rec n a1 x2 (0 : Int32) t1)
set_option maxRecDepth 100000 in
set_option maxHeartbeats 400000 in
theorem w_C_X4_call_7 (d : Nat) (rec : Nat → Int32 → Int32 → Int32 → hp_S → Option (Int32 × hp_S)) (n : Nat) (a1 : Int32) (hR : rec_ok rec (d + 9)) (s s1 : hp_S) (x0 : Int32) (h : f_C_X4_call_7 rec n a1 s = some (x0, s1)) : hp_is sh_C me_X4_call (d + 10) [.ref 7, .int a1] s (some (.int x0)) s1 := by
  refine hp_ofF [(0, .ref 7), (1, .int a1)] (by decide +kernel) (Nat.le_of_ble_eq_true rfl) rfl ?_
  unfold f_C_X4_call_7 at h
  refine hq_aload_n (pm_d rk_X4_call 0 rfl) rfl 0 rfl ?_
  refine hq_iload_n (pm_d rk_X4_call 1 rfl) rfl 1 rfl ?_
  obtain ⟨x2, t1, hq, h⟩ := pm_bd_i h
  have hM := hR.2.2.2.2.2.2.2.2.1 _ _ _ _ hq
  refine hq_callVi (a := 7) (ci := 4) [.int a1] [] (pm_d rk_X4_call 2 rfl) ml_X4_120 iv_X4_atom rfl rfl rfl rfl rfl (Nat.le_of_ble_eq_true rfl) hM ?_
  refine hq_istore_n (L1 := [(2, .int x2), (0, .ref 7), (1, .int a1)]) (pm_d rk_X4_call 3 rfl) rfl (by decide) rfl ?_
  refine hq_iconst (v := (0 : Int32)) (pm_d rk_X4_call 4 rfl) (by decide) ?_
  show hp_go _ _ _ _ _ 7 _ _ _
  refine hq_istore_n (L1 := [(3, .int (0 : Int32)), (2, .int x2), (0, .ref 7), (1, .int a1)]) (pm_d rk_X4_call 5 rfl) rfl (by decide) rfl ?_
  refine hq_drop [2, 3, 1, 0] rfl ?_
  exact wl_C_X4_call_7_8 d rec hR _ _   _ _ _ _ _ h
def l_C_X6_areSame_3_57 : Nat → Int32 → Int32 → Int32 → hp_S → Option (Int32 × hp_S)
  | 0, _, _, _, _ => none
  | n + 1, y1, y2, y3, s =>
    pm_gd1 (pm_ib y1 500) (
    pm_gd1 (pm_ib y1 500) (
    if ((hs_A s 6 y1.toNatClampNeg) - (hs_A s 5 y1.toNatClampNeg)) ≤ y3 then
      some ((1 : Int32), s)
    else
      pm_gd1 (pm_ib y1 500) (
      pm_bd (f_C_X5_at_1 ((hs_A s 5 y1.toNatClampNeg) + y3) s) (fun x2 t1 =>
      pm_gd1 (pm_ib y2 500) (
      pm_bd (f_C_X5_at_1 ((hs_A t1 5 y2.toNatClampNeg) + y3) t1) (fun x4 t3 =>
      if x2 = x4 then
        pm_let (y3 + (1 : Int32)) (fun x5 =>
        l_C_X6_areSame_3_57 n y1 y2 x5 t3)
      else
        some ((0 : Int32), t3)))))))
set_option maxRecDepth 100000 in
set_option maxHeartbeats 400000 in
theorem wl_C_X6_areSame_3_57 (d : Nat) (s1 : hp_S) (x0 : Int32)  : ∀ (n : Nat) (y1 : Int32) (y2 : Int32) (y3 : Int32) (s : hp_S), l_C_X6_areSame_3_57 n y1 y2 y3 s = some (x0, s1) → hp_go sh_C me_X6_areSame (d + 1) (some (.int x0)) s1 57 [(0, .ref 3), (1, .int y1), (2, .int y2), (3, .int y3)] [] s := by
  intro n
  induction n with
  | zero =>
    intro y1 y2 y3 s h
    cases h
  | succ n ih =>
    intro y1 y2 y3 s h
    rw [l_C_X6_areSame_3_57.eq_2] at h
    show hp_go _ _ _ _ _ 57 _ _ _
    refine hq_iload_n (pm_d rk_X6_areSame 35 rfl) rfl 3 rfl ?_
    refine hq_aload_n (pm_d rk_X6_areSame 36 rfl) rfl 0 rfl ?_
    refine hq_getR (h := 6) 3 (pm_d rk_X6_areSame 37 rfl) fl_X6_18 rfl rfl ?_
    refine hq_iload_n (pm_d rk_X6_areSame 38 rfl) rfl 1 rfl ?_
    obtain ⟨hg, h⟩ := pm_gd_i h
    refine hq_iaload (pm_d rk_X6_areSame 39 rfl) rfl hg ?_
    refine hq_aload_n (pm_d rk_X6_areSame 40 rfl) rfl 0 rfl ?_
    show hp_go _ _ _ _ _ 65 _ _ _
    refine hq_getR (h := 5) 2 (pm_d rk_X6_areSame 41 rfl) fl_X6_15 rfl rfl ?_
    refine hq_iload_n (pm_d rk_X6_areSame 42 rfl) rfl 1 rfl ?_
    obtain ⟨hg, h⟩ := pm_gd_i h
    refine hq_iaload (pm_d rk_X6_areSame 43 rfl) rfl hg ?_
    refine hq_isub (pm_d rk_X6_areSame 44 rfl) ?_
    refine hq_icmp_ge 115 (pm_d rk_X6_areSame 45 rfl) (by decide) (fun hc => ?_) (fun hc => ?_)
    · rw [if_pos hc] at h
      refine hq_iconst (v := (1 : Int32)) (pm_d rk_X6_areSame 69 rfl) (by decide) ?_
      show hp_go _ _ _ _ _ 116 _ _ _
      exact hq_zret (pm_d rk_X6_areSame 70 rfl) rfl rfl h
    rw [if_neg hc] at h
    refine hq_aload_n (pm_d rk_X6_areSame 46 rfl) rfl 0 rfl ?_
    refine hq_getR (h := 1) 0 (pm_d rk_X6_areSame 47 rfl) fl_X6_25 rfl rfl ?_
    refine hq_aload_n (pm_d rk_X6_areSame 48 rfl) rfl 0 rfl ?_
    refine hq_getR (h := 5) 2 (pm_d rk_X6_areSame 49 rfl) fl_X6_15 rfl rfl ?_
    refine hq_iload_n (pm_d rk_X6_areSame 50 rfl) rfl 1 rfl ?_
    show hp_go _ _ _ _ _ 83 _ _ _
    obtain ⟨hg, h⟩ := pm_gd_i h
    refine hq_iaload (pm_d rk_X6_areSame 51 rfl) rfl hg ?_
    refine hq_iload_n (pm_d rk_X6_areSame 52 rfl) rfl 3 rfl ?_
    refine hq_iadd (pm_d rk_X6_areSame 53 rfl) ?_
    obtain ⟨x2, t1, hq, h⟩ := pm_bd_i h
    have hM := w_C_X5_at_1 (d := d + 0) (h := hq)
    refine hq_callVi (a := 1) (ci := 5) [.int ((hs_A s 5 y1.toNatClampNeg) + y3)] [] (pm_d rk_X6_areSame 54 rfl) ml_X6_47 iv_X5_at rfl rfl rfl rfl rfl (Nat.le_of_ble_eq_true rfl) hM ?_
    refine hq_aload_n (pm_d rk_X6_areSame 55 rfl) rfl 0 rfl ?_
    refine hq_getR (h := 1) 0 (pm_d rk_X6_areSame 56 rfl) fl_X6_25 rfl rfl ?_
    show hp_go _ _ _ _ _ 93 _ _ _
    refine hq_aload_n (pm_d rk_X6_areSame 57 rfl) rfl 0 rfl ?_
    refine hq_getR (h := 5) 2 (pm_d rk_X6_areSame 58 rfl) fl_X6_15 rfl rfl ?_
    refine hq_iload_n (pm_d rk_X6_areSame 59 rfl) rfl 2 rfl ?_
    obtain ⟨hg, h⟩ := pm_gd_i h
    refine hq_iaload (pm_d rk_X6_areSame 60 rfl) rfl hg ?_
    refine hq_iload_n (pm_d rk_X6_areSame 61 rfl) rfl 3 rfl ?_
    refine hq_iadd (pm_d rk_X6_areSame 62 rfl) ?_
    show hp_go _ _ _ _ _ 101 _ _ _
    obtain ⟨x4, t3, hq, h⟩ := pm_bd_i h
    have hM := w_C_X5_at_1 (d := d + 0) (h := hq)
    refine hq_callVi (a := 1) (ci := 5) [.int ((hs_A t1 5 y2.toNatClampNeg) + y3)] [.int x2] (pm_d rk_X6_areSame 63 rfl) ml_X6_47 iv_X5_at rfl rfl rfl rfl rfl (Nat.le_of_ble_eq_true rfl) hM ?_
    refine hq_icmp_eq 109 (pm_d rk_X6_areSame 64 rfl) (by decide) (fun hc => ?_) (fun hc => ?_)
    · rw [if_pos hc] at h
      refine hq_iinc (v := y3 + (1 : Int32)) (L1 := [(3, .int (y3 + (1 : Int32))), (0, .ref 3), (1, .int y1), (2, .int y2)]) (pm_d rk_X6_areSame 67 rfl) 3 rfl (by rw [show Int32.ofInt (1) = (1 : Int32) by decide]) (by decide) rfl ?_
      refine pm_nm (G := fun x5 => hp_go sh_C me_X6_areSame (d + 1) (some (.int x0)) s1 112 [(3, .int x5), (0, .ref 3), (1, .int y1), (2, .int y2)] [] t3) h (fun x5 h => ?_)
      refine hq_goto 57 (pm_d rk_X6_areSame 68 rfl) (by decide) ?_
      refine hq_drop [1, 2, 3, 0] rfl ?_
      exact ih _ _ _ _ h
    rw [if_neg hc] at h
    refine hq_iconst (v := (0 : Int32)) (pm_d rk_X6_areSame 65 rfl) (by decide) ?_
    exact hq_zret (pm_d rk_X6_areSame 66 rfl) rfl rfl h
def f_C_X6_areSame_3 (n : Nat) (a1 : Int32) (a2 : Int32) (s : hp_S) : Option (Int32 × hp_S) :=
  if a1 < 0 then
    some ((0 : Int32), s)
  else
    if (hs_I s 3 4) ≤ a1 then
      some ((0 : Int32), s)
    else
      if a2 < 0 then
        some ((0 : Int32), s)
      else
        if (hs_I s 3 4) ≤ a2 then
          some ((0 : Int32), s)
        else
          pm_gd1 (pm_ib a1 500) (
          pm_gd1 (pm_ib a1 500) (
          pm_gd1 (pm_ib a2 500) (
          pm_gd1 (pm_ib a2 500) (
          if ((hs_A s 6 a1.toNatClampNeg) - (hs_A s 5 a1.toNatClampNeg)) = ((hs_A s 6 a2.toNatClampNeg) - (hs_A s 5 a2.toNatClampNeg)) then
            l_C_X6_areSame_3_57 n a1 a2 (0 : Int32) s
          else
            some ((0 : Int32), s)))))
set_option maxRecDepth 100000 in
set_option maxHeartbeats 400000 in
theorem w_C_X6_areSame_3 (d : Nat) (n : Nat) (a1 : Int32) (a2 : Int32) (s s1 : hp_S) (x0 : Int32) (h : f_C_X6_areSame_3 n a1 a2 s = some (x0, s1)) : hp_is sh_C me_X6_areSame (d + 1) [.ref 3, .int a1, .int a2] s (some (.int x0)) s1 := by
  refine hp_ofF [(0, .ref 3), (1, .int a1), (2, .int a2)] (by decide +kernel) (Nat.le_of_ble_eq_true rfl) rfl ?_
  unfold f_C_X6_areSame_3 at h
  refine hq_iload_n (pm_d rk_X6_areSame 0 rfl) rfl 1 rfl ?_
  refine hq_if_lt 53 (pm_d rk_X6_areSame 1 rfl) (by decide) (fun hc => ?_) (fun hc => ?_)
  · rw [if_pos hc] at h
    refine hq_iconst (v := (0 : Int32)) (pm_d rk_X6_areSame 31 rfl) (by decide) ?_
    exact hq_zret (pm_d rk_X6_areSame 32 rfl) rfl rfl h
  rw [if_neg hc] at h
  refine hq_iload_n (pm_d rk_X6_areSame 2 rfl) rfl 1 rfl ?_
  show hp_go _ _ _ _ _ 5 _ _ _
  refine hq_aload_n (pm_d rk_X6_areSame 3 rfl) rfl 0 rfl ?_
  refine hq_getI 4 (pm_d rk_X6_areSame 4 rfl) fl_X6_21 rfl rfl ?_
  refine hq_icmp_ge 53 (pm_d rk_X6_areSame 5 rfl) (by decide) (fun hc => ?_) (fun hc => ?_)
  · rw [if_pos hc] at h
    refine hq_iconst (v := (0 : Int32)) (pm_d rk_X6_areSame 31 rfl) (by decide) ?_
    exact hq_zret (pm_d rk_X6_areSame 32 rfl) rfl rfl h
  rw [if_neg hc] at h
  refine hq_iload_n (pm_d rk_X6_areSame 6 rfl) rfl 2 rfl ?_
  show hp_go _ _ _ _ _ 13 _ _ _
  refine hq_if_lt 53 (pm_d rk_X6_areSame 7 rfl) (by decide) (fun hc => ?_) (fun hc => ?_)
  · rw [if_pos hc] at h
    refine hq_iconst (v := (0 : Int32)) (pm_d rk_X6_areSame 31 rfl) (by decide) ?_
    exact hq_zret (pm_d rk_X6_areSame 32 rfl) rfl rfl h
  rw [if_neg hc] at h
  refine hq_iload_n (pm_d rk_X6_areSame 8 rfl) rfl 2 rfl ?_
  refine hq_aload_n (pm_d rk_X6_areSame 9 rfl) rfl 0 rfl ?_
  refine hq_getI 4 (pm_d rk_X6_areSame 10 rfl) fl_X6_21 rfl rfl ?_
  show hp_go _ _ _ _ _ 21 _ _ _
  refine hq_icmp_ge 53 (pm_d rk_X6_areSame 11 rfl) (by decide) (fun hc => ?_) (fun hc => ?_)
  · rw [if_pos hc] at h
    refine hq_iconst (v := (0 : Int32)) (pm_d rk_X6_areSame 31 rfl) (by decide) ?_
    exact hq_zret (pm_d rk_X6_areSame 32 rfl) rfl rfl h
  rw [if_neg hc] at h
  refine hq_aload_n (pm_d rk_X6_areSame 12 rfl) rfl 0 rfl ?_
  refine hq_getR (h := 6) 3 (pm_d rk_X6_areSame 13 rfl) fl_X6_18 rfl rfl ?_
  refine hq_iload_n (pm_d rk_X6_areSame 14 rfl) rfl 1 rfl ?_
  show hp_go _ _ _ _ _ 29 _ _ _
  obtain ⟨hg, h⟩ := pm_gd_i h
  refine hq_iaload (pm_d rk_X6_areSame 15 rfl) rfl hg ?_
  refine hq_aload_n (pm_d rk_X6_areSame 16 rfl) rfl 0 rfl ?_
  refine hq_getR (h := 5) 2 (pm_d rk_X6_areSame 17 rfl) fl_X6_15 rfl rfl ?_
  refine hq_iload_n (pm_d rk_X6_areSame 18 rfl) rfl 1 rfl ?_
  obtain ⟨hg, h⟩ := pm_gd_i h
  refine hq_iaload (pm_d rk_X6_areSame 19 rfl) rfl hg ?_
  refine hq_isub (pm_d rk_X6_areSame 20 rfl) ?_
  show hp_go _ _ _ _ _ 37 _ _ _
  refine hq_aload_n (pm_d rk_X6_areSame 21 rfl) rfl 0 rfl ?_
  refine hq_getR (h := 6) 3 (pm_d rk_X6_areSame 22 rfl) fl_X6_18 rfl rfl ?_
  refine hq_iload_n (pm_d rk_X6_areSame 23 rfl) rfl 2 rfl ?_
  obtain ⟨hg, h⟩ := pm_gd_i h
  refine hq_iaload (pm_d rk_X6_areSame 24 rfl) rfl hg ?_
  refine hq_aload_n (pm_d rk_X6_areSame 25 rfl) rfl 0 rfl ?_
  refine hq_getR (h := 5) 2 (pm_d rk_X6_areSame 26 rfl) fl_X6_15 rfl rfl ?_
  show hp_go _ _ _ _ _ 47 _ _ _
  refine hq_iload_n (pm_d rk_X6_areSame 27 rfl) rfl 2 rfl ?_
  obtain ⟨hg, h⟩ := pm_gd_i h
  refine hq_iaload (pm_d rk_X6_areSame 28 rfl) rfl hg ?_
  refine hq_isub (pm_d rk_X6_areSame 29 rfl) ?_
  refine hq_icmp_eq 55 (pm_d rk_X6_areSame 30 rfl) (by decide) (fun hc => ?_) (fun hc => ?_)
  · rw [if_pos hc] at h
    refine hq_iconst (v := (0 : Int32)) (pm_d rk_X6_areSame 33 rfl) (by decide) ?_
    refine hq_istore_n (L1 := [(3, .int (0 : Int32)), (0, .ref 3), (1, .int a1), (2, .int a2)]) (pm_d rk_X6_areSame 34 rfl) rfl (by decide) rfl ?_
    refine hq_drop [1, 2, 3, 0] rfl ?_
    exact wl_C_X6_areSame_3_57 d _ _   _ _ _ _ _ h
  rw [if_neg hc] at h
  show hp_go _ _ _ _ _ 53 _ _ _
  refine hq_iconst (v := (0 : Int32)) (pm_d rk_X6_areSame 31 rfl) (by decide) ?_
  exact hq_zret (pm_d rk_X6_areSame 32 rfl) rfl rfl h
def l_C_X4_binderOf_7_12 : Nat → Int32 → Int32 → hp_S → Option (Int32 × hp_S)
  | 0, _, _, _ => none
  | n + 1, y1, y2, s =>
    if y2 < 0 then
      some ((-1 : Int32), s)
    else
      pm_gd1 (pm_ib y2 20) (
      pm_bd (f_C_X6_areSame_3 n ((hs_A s 15 y2.toNatClampNeg) + (1 : Int32)) y1 s) (fun x5 t4 =>
      if x5 = 0 then
        pm_let (y2 + (-1 : Int32)) (fun x6 =>
        l_C_X4_binderOf_7_12 n y1 x6 t4)
      else
        pm_gd1 (pm_ib y2 20) (
        some ((hs_A t4 15 y2.toNatClampNeg), t4))))
set_option maxRecDepth 100000 in
set_option maxHeartbeats 400000 in
theorem wl_C_X4_binderOf_7_12 (d : Nat) (s1 : hp_S) (x0 : Int32)  : ∀ (n : Nat) (y1 : Int32) (y2 : Int32) (s : hp_S), l_C_X4_binderOf_7_12 n y1 y2 s = some (x0, s1) → hp_go sh_C me_X4_binderOf (d + 2) (some (.int x0)) s1 12 [(0, .ref 7), (1, .int y1), (2, .int y2)] [] s := by
  intro n
  induction n with
  | zero =>
    intro y1 y2 s h
    cases h
  | succ n ih =>
    intro y1 y2 s h
    rw [l_C_X4_binderOf_7_12.eq_2] at h
    refine hq_iload_n (pm_d rk_X4_binderOf 7 rfl) rfl 2 rfl ?_
    refine hq_if_lt 48 (pm_d rk_X4_binderOf 8 rfl) (by decide) (fun hc => ?_) (fun hc => ?_)
    · rw [if_pos hc] at h
      refine hq_iconst (v := (-1 : Int32)) (pm_d rk_X4_binderOf 27 rfl) (by decide) ?_
      exact hq_iret (pm_d rk_X4_binderOf 28 rfl) rfl h
    rw [if_neg hc] at h
    show hp_go _ _ _ _ _ 16 _ _ _
    refine hq_aload_n (pm_d rk_X4_binderOf 9 rfl) rfl 0 rfl ?_
    refine hq_getR (h := 3) 0 (pm_d rk_X4_binderOf 10 rfl) fl_X4_46 rfl rfl ?_
    refine hq_aload_n (pm_d rk_X4_binderOf 11 rfl) rfl 0 rfl ?_
    refine hq_getR (h := 15) 3 (pm_d rk_X4_binderOf 12 rfl) fl_X4_24 rfl rfl ?_
    refine hq_iload_n (pm_d rk_X4_binderOf 13 rfl) rfl 2 rfl ?_
    obtain ⟨hg, h⟩ := pm_gd_i h
    refine hq_iaload (pm_d rk_X4_binderOf 14 rfl) rfl hg ?_
    show hp_go _ _ _ _ _ 26 _ _ _
    refine hq_iconst (v := (1 : Int32)) (pm_d rk_X4_binderOf 15 rfl) (by decide) ?_
    refine hq_iadd (pm_d rk_X4_binderOf 16 rfl) ?_
    refine hq_iload_n (pm_d rk_X4_binderOf 17 rfl) rfl 1 rfl ?_
    obtain ⟨x5, t4, hq, h⟩ := pm_bd_i h
    have hM := w_C_X6_areSame_3 (d := d + 0) (h := hq)
    refine hq_callVi (a := 3) (ci := 6) [.int ((hs_A s 15 y2.toNatClampNeg) + (1 : Int32)), .int y1] [] (pm_d rk_X4_binderOf 18 rfl) ml_X4_140 iv_X6_areSame rfl rfl rfl rfl rfl (Nat.le_of_ble_eq_true rfl) hM ?_
    refine hq_if_eq 42 (pm_d rk_X4_binderOf 19 rfl) (by decide) (fun hc => ?_) (fun hc => ?_)
    · rw [if_pos hc] at h
      refine hq_iinc (v := y2 + (-1 : Int32)) (L1 := [(2, .int (y2 + (-1 : Int32))), (0, .ref 7), (1, .int y1)]) (pm_d rk_X4_binderOf 25 rfl) 2 rfl (by rw [show Int32.ofInt (-1) = (-1 : Int32) by decide]) (by decide) rfl ?_
      refine pm_nm (G := fun x6 => hp_go sh_C me_X4_binderOf (d + 2) (some (.int x0)) s1 45 [(2, .int x6), (0, .ref 7), (1, .int y1)] [] t4) h (fun x6 h => ?_)
      show hp_go _ _ _ _ _ 45 _ _ _
      refine hq_goto 12 (pm_d rk_X4_binderOf 26 rfl) (by decide) ?_
      refine hq_drop [1, 2, 0] rfl ?_
      exact ih _ _ _ h
    rw [if_neg hc] at h
    refine hq_aload_n (pm_d rk_X4_binderOf 20 rfl) rfl 0 rfl ?_
    refine hq_getR (h := 15) 3 (pm_d rk_X4_binderOf 21 rfl) fl_X4_24 rfl rfl ?_
    refine hq_iload_n (pm_d rk_X4_binderOf 22 rfl) rfl 2 rfl ?_
    obtain ⟨hg, h⟩ := pm_gd_i h
    refine hq_iaload (pm_d rk_X4_binderOf 23 rfl) rfl hg ?_
    exact hq_iret (pm_d rk_X4_binderOf 24 rfl) rfl h
def f_C_X4_binderOf_7 (n : Nat) (a1 : Int32) (s : hp_S) : Option (Int32 × hp_S) :=
  pm_bd (f_C_J9_min_7cf53 (hs_I s 7 4) (20 : Int32) s) (fun x2 t1 =>
  pm_let (x2 - (1 : Int32)) (fun x3 =>
  l_C_X4_binderOf_7_12 n a1 x3 t1))
set_option maxRecDepth 100000 in
set_option maxHeartbeats 400000 in
theorem w_C_X4_binderOf_7 (d : Nat) (n : Nat) (a1 : Int32) (s s1 : hp_S) (x0 : Int32) (h : f_C_X4_binderOf_7 n a1 s = some (x0, s1)) : hp_is sh_C me_X4_binderOf (d + 2) [.ref 7, .int a1] s (some (.int x0)) s1 := by
  refine hp_ofF [(0, .ref 7), (1, .int a1)] (by decide +kernel) (Nat.le_of_ble_eq_true rfl) rfl ?_
  unfold f_C_X4_binderOf_7 at h
  refine hq_aload_n (pm_d rk_X4_binderOf 0 rfl) rfl 0 rfl ?_
  refine hq_getI 4 (pm_d rk_X4_binderOf 1 rfl) fl_X4_27 rfl rfl ?_
  refine hq_bipush (v := (20 : Int32)) (pm_d rk_X4_binderOf 2 rfl) (by decide) ?_
  obtain ⟨x2, t1, hq, h⟩ := pm_bd_i h
  have hM := w_C_J9_min_7cf53 (d := d + 1) (h := hq)
  refine hq_callSi [.int (hs_I s 7 4), .int (20 : Int32)] [] (pm_d rk_X4_binderOf 3 rfl) ml_X4_135 iv_J9_min_7cf53 rfl rfl (Nat.le_of_ble_eq_true rfl) hM ?_
  refine hq_iconst (v := (1 : Int32)) (pm_d rk_X4_binderOf 4 rfl) (by decide) ?_
  show hp_go _ _ _ _ _ 10 _ _ _
  refine hq_isub (pm_d rk_X4_binderOf 5 rfl) ?_
  refine pm_nm (G := fun x3 => hp_go sh_C me_X4_binderOf (d + 2) (some (.int x0)) s1 11 [(0, .ref 7), (1, .int a1)] [.int x3] t1) h (fun x3 h => ?_)
  refine hq_istore_n (L1 := [(2, .int x3), (0, .ref 7), (1, .int a1)]) (pm_d rk_X4_binderOf 6 rfl) rfl (by decide) rfl ?_
  refine hq_drop [1, 2, 0] rfl ?_
  exact wl_C_X4_binderOf_7_12 d _ _   _ _ _ _ h
def f_C_X2_setMeaning_8 (a1 : Int32) (a2 : Int32) (s : hp_S) : Option hp_S :=
  pm_bd (f_C_X2_holds_8 a1 s) (fun x2 t1 =>
  if x2 = 0 then
    some t1
  else
    pm_gd1 (pm_ib a1 501) (
    pm_let (hs_pA t1 13 a1.toNatClampNeg a2) (fun t3 =>
    some t3)))
set_option maxRecDepth 100000 in
set_option maxHeartbeats 400000 in
theorem w_C_X2_setMeaning_8 (d : Nat) (a1 : Int32) (a2 : Int32) (s s1 : hp_S) (h : f_C_X2_setMeaning_8 a1 a2 s = some s1) : hp_is sh_C me_X2_setMeaning (d + 1) [.ref 8, .int a1, .int a2] s none s1 := by
  refine hp_ofF [(0, .ref 8), (1, .int a1), (2, .int a2)] (by decide +kernel) (Nat.le_of_ble_eq_true rfl) rfl ?_
  unfold f_C_X2_setMeaning_8 at h
  refine hq_aload_n (pm_d rk_X2_setMeaning 0 rfl) rfl 0 rfl ?_
  refine hq_iload_n (pm_d rk_X2_setMeaning 1 rfl) rfl 1 rfl ?_
  obtain ⟨x2, t1, hq, h⟩ := pm_bd_i h
  have hM := w_C_X2_holds_8 (d := d + 0) (h := hq)
  refine hq_callVi (a := 8) (ci := 2) [.int a1] [] (pm_d rk_X2_setMeaning 2 rfl) ml_X2_33 iv_X2_holds rfl rfl rfl rfl rfl (Nat.le_of_ble_eq_true rfl) hM ?_
  refine hq_if_eq 15 (pm_d rk_X2_setMeaning 3 rfl) (by decide) (fun hc => ?_) (fun hc => ?_)
  · rw [if_pos hc] at h
    exact hq_vret (pm_d rk_X2_setMeaning 9 rfl) rfl h
  rw [if_neg hc] at h
  show hp_go _ _ _ _ _ 8 _ _ _
  refine hq_aload_n (pm_d rk_X2_setMeaning 4 rfl) rfl 0 rfl ?_
  refine hq_getR (h := 13) 4 (pm_d rk_X2_setMeaning 5 rfl) fl_X2_30 rfl rfl ?_
  refine hq_iload_n (pm_d rk_X2_setMeaning 6 rfl) rfl 1 rfl ?_
  refine hq_iload_n (pm_d rk_X2_setMeaning 7 rfl) rfl 2 rfl ?_
  obtain ⟨hg, h⟩ := pm_gd_i h
  refine hq_iastore (pm_d rk_X2_setMeaning 8 rfl) rfl hg ?_
  refine pm_nm (G := fun t3 => hp_go sh_C me_X2_setMeaning (d + 1) none s1 15 [(0, .ref 8), (1, .int a1), (2, .int a2)] [] t3) h (fun t3 h => ?_)
  exact hq_vret (pm_d rk_X2_setMeaning 9 rfl) rfl h
def f_C_X4_name_7 (n : Nat) (s : hp_S) : Option (Int32 × hp_S) :=
  pm_bd (f_C_X4_beginNode_7 (2 : Int32) (-1 : Int32) s) (fun x2 t1 =>
  pm_bd (f_C_X4_binderOf_7 n x2 t1) (fun x4 t3 =>
  pm_b1 (f_C_X2_setMeaning_8 x2 x4 t3) (fun t5 =>
  if x4 = (-1 : Int32) then
    if (hs_I t5 7 8) = (-1 : Int32) then
      pm_let (hs_pI t5 7 8 x2) (fun t6 =>
      some (x2, t6))
    else
      some (x2, t5)
  else
    some (x2, t5))))
set_option maxRecDepth 100000 in
set_option maxHeartbeats 400000 in
theorem w_C_X4_name_7 (d : Nat) (n : Nat) (s s1 : hp_S) (x0 : Int32) (h : f_C_X4_name_7 n s = some (x0, s1)) : hp_is sh_C me_X4_name (d + 3) [.ref 7] s (some (.int x0)) s1 := by
  refine hp_ofF [(0, .ref 7)] (by decide +kernel) (Nat.le_of_ble_eq_true rfl) rfl ?_
  unfold f_C_X4_name_7 at h
  refine hq_aload_n (pm_d rk_X4_name 0 rfl) rfl 0 rfl ?_
  refine hq_iconst (v := (2 : Int32)) (pm_d rk_X4_name 1 rfl) (by decide) ?_
  refine hq_iconst (v := (-1 : Int32)) (pm_d rk_X4_name 2 rfl) (by decide) ?_
  obtain ⟨x2, t1, hq, h⟩ := pm_bd_i h
  have hM := w_C_X4_beginNode_7 (d := d + 0) (h := hq)
  refine hq_callVi (a := 7) (ci := 4) [.int (2 : Int32), .int (-1 : Int32)] [] (pm_d rk_X4_name 3 rfl) ml_X4_98 iv_X4_beginNode rfl rfl rfl rfl rfl (Nat.le_of_ble_eq_true rfl) hM ?_
  refine hq_istore_n (L1 := [(1, .int x2), (0, .ref 7)]) (pm_d rk_X4_name 4 rfl) rfl (by decide) rfl ?_
  show hp_go _ _ _ _ _ 7 _ _ _
  refine hq_aload_n (pm_d rk_X4_name 5 rfl) rfl 1 rfl ?_
  refine hq_iload_n (pm_d rk_X4_name 6 rfl) rfl 0 rfl ?_
  obtain ⟨x4, t3, hq, h⟩ := pm_bd_i h
  have hM := w_C_X4_binderOf_7 (d := d + 0) (h := hq)
  refine hq_callVi (a := 7) (ci := 4) [.int x2] [] (pm_d rk_X4_name 7 rfl) ml_X4_129 iv_X4_binderOf rfl rfl rfl rfl rfl (Nat.le_of_ble_eq_true rfl) hM ?_
  refine hq_istore_n (L1 := [(2, .int x4), (1, .int x2), (0, .ref 7)]) (pm_d rk_X4_name 8 rfl) rfl (by decide) rfl ?_
  refine hq_aload_n (pm_d rk_X4_name 9 rfl) rfl 2 rfl ?_
  refine hq_getR (h := 8) 1 (pm_d rk_X4_name 10 rfl) fl_X4_16 rfl rfl ?_
  show hp_go _ _ _ _ _ 17 _ _ _
  refine hq_iload_n (pm_d rk_X4_name 11 rfl) rfl 1 rfl ?_
  refine hq_iload_n (pm_d rk_X4_name 12 rfl) rfl 0 rfl ?_
  obtain ⟨t5, hq, h⟩ := pm_b1_i h
  have hM := w_C_X2_setMeaning_8 (d := d + 1) (h := hq)
  refine hq_callVv (a := 8) (ci := 2) [.int x2, .int x4] [] (pm_d rk_X4_name 13 rfl) ml_X4_132 iv_X2_setMeaning rfl rfl rfl rfl rfl (Nat.le_of_ble_eq_true rfl) hM ?_
  refine hq_iload_n (pm_d rk_X4_name 14 rfl) rfl 0 rfl ?_
  refine hq_iconst (v := (-1 : Int32)) (pm_d rk_X4_name 15 rfl) (by decide) ?_
  refine hq_icmp_ne 40 (pm_d rk_X4_name 16 rfl) (by decide) (fun hc => ?_) (fun hc => ?_)
  · rw [if_neg hc] at h
    show hp_go _ _ _ _ _ 40 _ _ _
    refine hq_iload_n (pm_d rk_X4_name 24 rfl) rfl 1 rfl ?_
    exact hq_iret (pm_d rk_X4_name 25 rfl) rfl h
  rw [if_pos hc] at h
  refine hq_aload_n (pm_d rk_X4_name 17 rfl) rfl 2 rfl ?_
  refine hq_getI 8 (pm_d rk_X4_name 18 rfl) fl_X4_40 rfl rfl ?_
  refine hq_iconst (v := (-1 : Int32)) (pm_d rk_X4_name 19 rfl) (by decide) ?_
  refine hq_icmp_ne 40 (pm_d rk_X4_name 20 rfl) (by decide) (fun hc => ?_) (fun hc => ?_)
  · rw [if_neg hc] at h
    show hp_go _ _ _ _ _ 40 _ _ _
    refine hq_iload_n (pm_d rk_X4_name 24 rfl) rfl 1 rfl ?_
    exact hq_iret (pm_d rk_X4_name 25 rfl) rfl h
  rw [if_pos hc] at h
  refine hq_aload_n (pm_d rk_X4_name 21 rfl) rfl 2 rfl ?_
  refine hq_iload_n (pm_d rk_X4_name 22 rfl) rfl 1 rfl ?_
  refine hq_putI 8 (pm_d rk_X4_name 23 rfl) fl_X4_40 rfl rfl ?_
  refine pm_nm (G := fun t6 => hp_go sh_C me_X4_name (d + 3) (some (.int x0)) s1 40 [(2, .int x4), (1, .int x2), (0, .ref 7)] [] t6) h (fun t6 h => ?_)
  refine hq_iload_n (pm_d rk_X4_name 24 rfl) rfl 1 rfl ?_
  show hp_go _ _ _ _ _ 41 _ _ _
  exact hq_iret (pm_d rk_X4_name 25 rfl) rfl h
def f_C_X4_atom_7 (rec : Nat → Int32 → Int32 → Int32 → hp_S → Option (Int32 × hp_S)) (n : Nat) (a1 : Int32) (s : hp_S) : Option (Int32 × hp_S) :=
  pm_bd (f_C_X4_current_7 s) (fun x2 t1 =>
  if x2 = (2 : Int32) then
    pm_bd (f_C_X4_name_7 n t1) (fun x4 t3 =>
    some (x4, t3))
  else
  if x2 = (3 : Int32) then
    pm_bd (f_C_X4_beginNode_7 x2 (-1 : Int32) t1) (fun x6 t5 =>
    some (x6, t5))
  else
  if x2 = (4 : Int32) then
    pm_b1 (f_C_X4_refuse_7 t1) (fun t7 =>
    some ((-1 : Int32), t7))
  else
  if x2 = (5 : Int32) then
    pm_b1 (f_C_X4_refuse_7 t1) (fun t8 =>
    some ((-1 : Int32), t8))
  else
  if x2 = (6 : Int32) then
    pm_b1 (f_C_X4_refuse_7 t1) (fun t9 =>
    some ((-1 : Int32), t9))
  else
  if x2 = (7 : Int32) then
    pm_b1 (f_C_X4_refuse_7 t1) (fun t10 =>
    some ((-1 : Int32), t10))
  else
  if x2 = (8 : Int32) then
    pm_b1 (f_C_X4_refuse_7 t1) (fun t11 =>
    some ((-1 : Int32), t11))
  else
  if x2 = (9 : Int32) then
    pm_b1 (f_C_X4_refuse_7 t1) (fun t12 =>
    some ((-1 : Int32), t12))
  else
  if x2 = (10 : Int32) then
    pm_bd (f_C_X4_beginNode_7 x2 (-1 : Int32) t1) (fun x14 t13 =>
    some (x14, t13))
  else
  if x2 = (11 : Int32) then
    pm_bd (f_C_X4_beginNode_7 x2 (-1 : Int32) t1) (fun x16 t15 =>
    some (x16, t15))
  else
  if x2 = (12 : Int32) then
    pm_bd (f_C_X4_beginNode_7 x2 (-1 : Int32) t1) (fun x18 t17 =>
    some (x18, t17))
  else
  if x2 = (13 : Int32) then
    pm_bd (f_C_X4_beginNode_7 x2 (-1 : Int32) t1) (fun x20 t19 =>
    some (x20, t19))
  else
  if x2 = (14 : Int32) then
    pm_bd (f_C_X4_beginNode_7 x2 (-1 : Int32) t1) (fun x22 t21 =>
    some (x22, t21))
  else
  if x2 = (15 : Int32) then
    pm_b1 (f_C_X4_refuse_7 t1) (fun t23 =>
    some ((-1 : Int32), t23))
  else
  if x2 = (16 : Int32) then
    pm_b1 (f_C_X4_refuse_7 t1) (fun t24 =>
    some ((-1 : Int32), t24))
  else
  if x2 = (17 : Int32) then
    pm_bd (rec 9 a1 0 0 t1) (fun x26 t25 =>
    some (x26, t25))
  else
    pm_b1 (f_C_X4_refuse_7 t1) (fun t27 =>
    some ((-1 : Int32), t27)))
set_option maxRecDepth 100000 in
set_option maxHeartbeats 400000 in
theorem w_C_X4_atom_7 (d : Nat) (rec : Nat → Int32 → Int32 → Int32 → hp_S → Option (Int32 × hp_S)) (n : Nat) (a1 : Int32) (hR : rec_ok rec (d + 9)) (s s1 : hp_S) (x0 : Int32) (h : f_C_X4_atom_7 rec n a1 s = some (x0, s1)) : hp_is sh_C me_X4_atom (d + 10) [.ref 7, .int a1] s (some (.int x0)) s1 := by
  refine hp_ofF [(0, .ref 7), (1, .int a1)] (by decide +kernel) (Nat.le_of_ble_eq_true rfl) rfl ?_
  unfold f_C_X4_atom_7 at h
  refine hq_aload_n (pm_d rk_X4_atom 0 rfl) rfl 0 rfl ?_
  obtain ⟨x2, t1, hq, h⟩ := pm_bd_i h
  have hM := w_C_X4_current_7 (d := d + 8) (h := hq)
  refine hq_callVi (a := 7) (ci := 4) [] [] (pm_d rk_X4_atom 1 rfl) ml_X4_54 iv_X4_current rfl rfl rfl rfl rfl (Nat.le_of_ble_eq_true rfl) hM ?_
  refine hq_istore_n (L1 := [(2, .int x2), (0, .ref 7), (1, .int a1)]) (pm_d rk_X4_atom 2 rfl) rfl (by decide) rfl ?_
  refine hq_iload_n (pm_d rk_X4_atom 3 rfl) rfl 0 rfl ?_
  by_cases hc0 : x2 = (2 : Int32)
  · rw [if_pos hc0] at h
    refine hq_tableIn 84 (pm_d rk_X4_atom 4 rfl) (by rw [hc0]; decide) (by rw [hc0]; decide) (by rw [hc0] <;> rfl) (by decide) ?_
    show hp_go _ _ _ _ _ 84 _ _ _
    refine hq_aload_n (pm_d rk_X4_atom 5 rfl) rfl 1 rfl ?_
    obtain ⟨x4, t3, hq, h⟩ := pm_bd_i h
    have hM := w_C_X4_name_7 (d := d + 6) (h := hq)
    refine hq_callVi (a := 7) (ci := 4) [] [] (pm_d rk_X4_atom 6 rfl) ml_X4_123 iv_X4_name rfl rfl rfl rfl rfl (Nat.le_of_ble_eq_true rfl) hM ?_
    exact hq_iret (pm_d rk_X4_atom 7 rfl) rfl h
  rw [if_neg hc0] at h
  by_cases hc1 : x2 = (3 : Int32)
  · rw [if_pos hc1] at h
    refine hq_tableIn 89 (pm_d rk_X4_atom 4 rfl) (by rw [hc1]; decide) (by rw [hc1]; decide) (by rw [hc1] <;> rfl) (by decide) ?_
    refine hq_aload_n (pm_d rk_X4_atom 8 rfl) rfl 1 rfl ?_
    refine hq_iload_n (pm_d rk_X4_atom 9 rfl) rfl 0 rfl ?_
    refine hq_iconst (v := (-1 : Int32)) (pm_d rk_X4_atom 10 rfl) (by decide) ?_
    show hp_go _ _ _ _ _ 92 _ _ _
    obtain ⟨x6, t5, hq, h⟩ := pm_bd_i h
    have hM := w_C_X4_beginNode_7 (d := d + 7) (h := hq)
    refine hq_callVi (a := 7) (ci := 4) [.int x2, .int (-1 : Int32)] [] (pm_d rk_X4_atom 11 rfl) ml_X4_98 iv_X4_beginNode rfl rfl rfl rfl rfl (Nat.le_of_ble_eq_true rfl) hM ?_
    exact hq_iret (pm_d rk_X4_atom 12 rfl) rfl h
  rw [if_neg hc1] at h
  by_cases hc2 : x2 = (4 : Int32)
  · rw [if_pos hc2] at h
    refine hq_tableIn 102 (pm_d rk_X4_atom 4 rfl) (by rw [hc2]; decide) (by rw [hc2]; decide) (by rw [hc2] <;> rfl) (by decide) ?_
    refine hq_aload_n (pm_d rk_X4_atom 17 rfl) rfl 1 rfl ?_
    obtain ⟨t7, hq, h⟩ := pm_b1_i h
    have hM := w_C_X4_refuse_7 (d := d + 9) (h := hq)
    refine hq_callVv (a := 7) (ci := 4) [] [] (pm_d rk_X4_atom 18 rfl) ml_X4_58 iv_X4_refuse rfl rfl rfl rfl rfl (Nat.le_of_ble_eq_true rfl) hM ?_
    refine hq_iconst (v := (-1 : Int32)) (pm_d rk_X4_atom 19 rfl) (by decide) ?_
    exact hq_iret (pm_d rk_X4_atom 20 rfl) rfl h
  rw [if_neg hc2] at h
  by_cases hc3 : x2 = (5 : Int32)
  · rw [if_pos hc3] at h
    refine hq_tableIn 102 (pm_d rk_X4_atom 4 rfl) (by rw [hc3]; decide) (by rw [hc3]; decide) (by rw [hc3] <;> rfl) (by decide) ?_
    show hp_go _ _ _ _ _ 102 _ _ _
    refine hq_aload_n (pm_d rk_X4_atom 17 rfl) rfl 1 rfl ?_
    obtain ⟨t8, hq, h⟩ := pm_b1_i h
    have hM := w_C_X4_refuse_7 (d := d + 9) (h := hq)
    refine hq_callVv (a := 7) (ci := 4) [] [] (pm_d rk_X4_atom 18 rfl) ml_X4_58 iv_X4_refuse rfl rfl rfl rfl rfl (Nat.le_of_ble_eq_true rfl) hM ?_
    refine hq_iconst (v := (-1 : Int32)) (pm_d rk_X4_atom 19 rfl) (by decide) ?_
    exact hq_iret (pm_d rk_X4_atom 20 rfl) rfl h
  rw [if_neg hc3] at h
  by_cases hc4 : x2 = (6 : Int32)
  · rw [if_pos hc4] at h
    refine hq_tableIn 102 (pm_d rk_X4_atom 4 rfl) (by rw [hc4]; decide) (by rw [hc4]; decide) (by rw [hc4] <;> rfl) (by decide) ?_
    refine hq_aload_n (pm_d rk_X4_atom 17 rfl) rfl 1 rfl ?_
    obtain ⟨t9, hq, h⟩ := pm_b1_i h
    have hM := w_C_X4_refuse_7 (d := d + 9) (h := hq)
    refine hq_callVv (a := 7) (ci := 4) [] [] (pm_d rk_X4_atom 18 rfl) ml_X4_58 iv_X4_refuse rfl rfl rfl rfl rfl (Nat.le_of_ble_eq_true rfl) hM ?_
    show hp_go _ _ _ _ _ 106 _ _ _
    refine hq_iconst (v := (-1 : Int32)) (pm_d rk_X4_atom 19 rfl) (by decide) ?_
    exact hq_iret (pm_d rk_X4_atom 20 rfl) rfl h
  rw [if_neg hc4] at h
  by_cases hc5 : x2 = (7 : Int32)
  · rw [if_pos hc5] at h
    refine hq_tableIn 102 (pm_d rk_X4_atom 4 rfl) (by rw [hc5]; decide) (by rw [hc5]; decide) (by rw [hc5] <;> rfl) (by decide) ?_
    refine hq_aload_n (pm_d rk_X4_atom 17 rfl) rfl 1 rfl ?_
    obtain ⟨t10, hq, h⟩ := pm_b1_i h
    have hM := w_C_X4_refuse_7 (d := d + 9) (h := hq)
    refine hq_callVv (a := 7) (ci := 4) [] [] (pm_d rk_X4_atom 18 rfl) ml_X4_58 iv_X4_refuse rfl rfl rfl rfl rfl (Nat.le_of_ble_eq_true rfl) hM ?_
    refine hq_iconst (v := (-1 : Int32)) (pm_d rk_X4_atom 19 rfl) (by decide) ?_
    exact hq_iret (pm_d rk_X4_atom 20 rfl) rfl h
  rw [if_neg hc5] at h
  by_cases hc6 : x2 = (8 : Int32)
  · rw [if_pos hc6] at h
    refine hq_tableIn 102 (pm_d rk_X4_atom 4 rfl) (by rw [hc6]; decide) (by rw [hc6]; decide) (by rw [hc6] <;> rfl) (by decide) ?_
    show hp_go _ _ _ _ _ 102 _ _ _
    refine hq_aload_n (pm_d rk_X4_atom 17 rfl) rfl 1 rfl ?_
    obtain ⟨t11, hq, h⟩ := pm_b1_i h
    have hM := w_C_X4_refuse_7 (d := d + 9) (h := hq)
    refine hq_callVv (a := 7) (ci := 4) [] [] (pm_d rk_X4_atom 18 rfl) ml_X4_58 iv_X4_refuse rfl rfl rfl rfl rfl (Nat.le_of_ble_eq_true rfl) hM ?_
    refine hq_iconst (v := (-1 : Int32)) (pm_d rk_X4_atom 19 rfl) (by decide) ?_
    exact hq_iret (pm_d rk_X4_atom 20 rfl) rfl h
  rw [if_neg hc6] at h
  by_cases hc7 : x2 = (9 : Int32)
  · rw [if_pos hc7] at h
    refine hq_tableIn 102 (pm_d rk_X4_atom 4 rfl) (by rw [hc7]; decide) (by rw [hc7]; decide) (by rw [hc7] <;> rfl) (by decide) ?_
    refine hq_aload_n (pm_d rk_X4_atom 17 rfl) rfl 1 rfl ?_
    obtain ⟨t12, hq, h⟩ := pm_b1_i h
    have hM := w_C_X4_refuse_7 (d := d + 9) (h := hq)
    refine hq_callVv (a := 7) (ci := 4) [] [] (pm_d rk_X4_atom 18 rfl) ml_X4_58 iv_X4_refuse rfl rfl rfl rfl rfl (Nat.le_of_ble_eq_true rfl) hM ?_
    show hp_go _ _ _ _ _ 106 _ _ _
    refine hq_iconst (v := (-1 : Int32)) (pm_d rk_X4_atom 19 rfl) (by decide) ?_
    exact hq_iret (pm_d rk_X4_atom 20 rfl) rfl h
  rw [if_neg hc7] at h
  by_cases hc8 : x2 = (10 : Int32)
  · rw [if_pos hc8] at h
    refine hq_tableIn 89 (pm_d rk_X4_atom 4 rfl) (by rw [hc8]; decide) (by rw [hc8]; decide) (by rw [hc8] <;> rfl) (by decide) ?_
    refine hq_aload_n (pm_d rk_X4_atom 8 rfl) rfl 1 rfl ?_
    refine hq_iload_n (pm_d rk_X4_atom 9 rfl) rfl 0 rfl ?_
    refine hq_iconst (v := (-1 : Int32)) (pm_d rk_X4_atom 10 rfl) (by decide) ?_
    obtain ⟨x14, t13, hq, h⟩ := pm_bd_i h
    have hM := w_C_X4_beginNode_7 (d := d + 7) (h := hq)
    refine hq_callVi (a := 7) (ci := 4) [.int x2, .int (-1 : Int32)] [] (pm_d rk_X4_atom 11 rfl) ml_X4_98 iv_X4_beginNode rfl rfl rfl rfl rfl (Nat.le_of_ble_eq_true rfl) hM ?_
    show hp_go _ _ _ _ _ 95 _ _ _
    exact hq_iret (pm_d rk_X4_atom 12 rfl) rfl h
  rw [if_neg hc8] at h
  by_cases hc9 : x2 = (11 : Int32)
  · rw [if_pos hc9] at h
    refine hq_tableIn 89 (pm_d rk_X4_atom 4 rfl) (by rw [hc9]; decide) (by rw [hc9]; decide) (by rw [hc9] <;> rfl) (by decide) ?_
    refine hq_aload_n (pm_d rk_X4_atom 8 rfl) rfl 1 rfl ?_
    refine hq_iload_n (pm_d rk_X4_atom 9 rfl) rfl 0 rfl ?_
    refine hq_iconst (v := (-1 : Int32)) (pm_d rk_X4_atom 10 rfl) (by decide) ?_
    obtain ⟨x16, t15, hq, h⟩ := pm_bd_i h
    have hM := w_C_X4_beginNode_7 (d := d + 7) (h := hq)
    refine hq_callVi (a := 7) (ci := 4) [.int x2, .int (-1 : Int32)] [] (pm_d rk_X4_atom 11 rfl) ml_X4_98 iv_X4_beginNode rfl rfl rfl rfl rfl (Nat.le_of_ble_eq_true rfl) hM ?_
    exact hq_iret (pm_d rk_X4_atom 12 rfl) rfl h
  rw [if_neg hc9] at h
  by_cases hc10 : x2 = (12 : Int32)
  · rw [if_pos hc10] at h
    refine hq_tableIn 89 (pm_d rk_X4_atom 4 rfl) (by rw [hc10]; decide) (by rw [hc10]; decide) (by rw [hc10] <;> rfl) (by decide) ?_
    show hp_go _ _ _ _ _ 89 _ _ _
    refine hq_aload_n (pm_d rk_X4_atom 8 rfl) rfl 1 rfl ?_
    refine hq_iload_n (pm_d rk_X4_atom 9 rfl) rfl 0 rfl ?_
    refine hq_iconst (v := (-1 : Int32)) (pm_d rk_X4_atom 10 rfl) (by decide) ?_
    obtain ⟨x18, t17, hq, h⟩ := pm_bd_i h
    have hM := w_C_X4_beginNode_7 (d := d + 7) (h := hq)
    refine hq_callVi (a := 7) (ci := 4) [.int x2, .int (-1 : Int32)] [] (pm_d rk_X4_atom 11 rfl) ml_X4_98 iv_X4_beginNode rfl rfl rfl rfl rfl (Nat.le_of_ble_eq_true rfl) hM ?_
    exact hq_iret (pm_d rk_X4_atom 12 rfl) rfl h
  rw [if_neg hc10] at h
  by_cases hc11 : x2 = (13 : Int32)
  · rw [if_pos hc11] at h
    refine hq_tableIn 89 (pm_d rk_X4_atom 4 rfl) (by rw [hc11]; decide) (by rw [hc11]; decide) (by rw [hc11] <;> rfl) (by decide) ?_
    refine hq_aload_n (pm_d rk_X4_atom 8 rfl) rfl 1 rfl ?_
    show hp_go _ _ _ _ _ 90 _ _ _
    refine hq_iload_n (pm_d rk_X4_atom 9 rfl) rfl 0 rfl ?_
    refine hq_iconst (v := (-1 : Int32)) (pm_d rk_X4_atom 10 rfl) (by decide) ?_
    obtain ⟨x20, t19, hq, h⟩ := pm_bd_i h
    have hM := w_C_X4_beginNode_7 (d := d + 7) (h := hq)
    refine hq_callVi (a := 7) (ci := 4) [.int x2, .int (-1 : Int32)] [] (pm_d rk_X4_atom 11 rfl) ml_X4_98 iv_X4_beginNode rfl rfl rfl rfl rfl (Nat.le_of_ble_eq_true rfl) hM ?_
    exact hq_iret (pm_d rk_X4_atom 12 rfl) rfl h
  rw [if_neg hc11] at h
  by_cases hc12 : x2 = (14 : Int32)
  · rw [if_pos hc12] at h
    refine hq_tableIn 89 (pm_d rk_X4_atom 4 rfl) (by rw [hc12]; decide) (by rw [hc12]; decide) (by rw [hc12] <;> rfl) (by decide) ?_
    refine hq_aload_n (pm_d rk_X4_atom 8 rfl) rfl 1 rfl ?_
    refine hq_iload_n (pm_d rk_X4_atom 9 rfl) rfl 0 rfl ?_
    show hp_go _ _ _ _ _ 91 _ _ _
    refine hq_iconst (v := (-1 : Int32)) (pm_d rk_X4_atom 10 rfl) (by decide) ?_
    obtain ⟨x22, t21, hq, h⟩ := pm_bd_i h
    have hM := w_C_X4_beginNode_7 (d := d + 7) (h := hq)
    refine hq_callVi (a := 7) (ci := 4) [.int x2, .int (-1 : Int32)] [] (pm_d rk_X4_atom 11 rfl) ml_X4_98 iv_X4_beginNode rfl rfl rfl rfl rfl (Nat.le_of_ble_eq_true rfl) hM ?_
    exact hq_iret (pm_d rk_X4_atom 12 rfl) rfl h
  rw [if_neg hc12] at h
  by_cases hc13 : x2 = (15 : Int32)
  · rw [if_pos hc13] at h
    refine hq_tableIn 102 (pm_d rk_X4_atom 4 rfl) (by rw [hc13]; decide) (by rw [hc13]; decide) (by rw [hc13] <;> rfl) (by decide) ?_
    refine hq_aload_n (pm_d rk_X4_atom 17 rfl) rfl 1 rfl ?_
    obtain ⟨t23, hq, h⟩ := pm_b1_i h
    have hM := w_C_X4_refuse_7 (d := d + 9) (h := hq)
    refine hq_callVv (a := 7) (ci := 4) [] [] (pm_d rk_X4_atom 18 rfl) ml_X4_58 iv_X4_refuse rfl rfl rfl rfl rfl (Nat.le_of_ble_eq_true rfl) hM ?_
    refine hq_iconst (v := (-1 : Int32)) (pm_d rk_X4_atom 19 rfl) (by decide) ?_
    show hp_go _ _ _ _ _ 107 _ _ _
    exact hq_iret (pm_d rk_X4_atom 20 rfl) rfl h
  rw [if_neg hc13] at h
  by_cases hc14 : x2 = (16 : Int32)
  · rw [if_pos hc14] at h
    refine hq_tableIn 102 (pm_d rk_X4_atom 4 rfl) (by rw [hc14]; decide) (by rw [hc14]; decide) (by rw [hc14] <;> rfl) (by decide) ?_
    refine hq_aload_n (pm_d rk_X4_atom 17 rfl) rfl 1 rfl ?_
    obtain ⟨t24, hq, h⟩ := pm_b1_i h
    have hM := w_C_X4_refuse_7 (d := d + 9) (h := hq)
    refine hq_callVv (a := 7) (ci := 4) [] [] (pm_d rk_X4_atom 18 rfl) ml_X4_58 iv_X4_refuse rfl rfl rfl rfl rfl (Nat.le_of_ble_eq_true rfl) hM ?_
    refine hq_iconst (v := (-1 : Int32)) (pm_d rk_X4_atom 19 rfl) (by decide) ?_
    exact hq_iret (pm_d rk_X4_atom 20 rfl) rfl h
  rw [if_neg hc14] at h
  by_cases hc15 : x2 = (17 : Int32)
  · rw [if_pos hc15] at h
    refine hq_tableIn 96 (pm_d rk_X4_atom 4 rfl) (by rw [hc15]; decide) (by rw [hc15]; decide) (by rw [hc15] <;> rfl) (by decide) ?_
    refine hq_aload_n (pm_d rk_X4_atom 13 rfl) rfl 1 rfl ?_
    show hp_go _ _ _ _ _ 97 _ _ _
    refine hq_iload_n (pm_d rk_X4_atom 14 rfl) rfl 2 rfl ?_
    obtain ⟨x26, t25, hq, h⟩ := pm_bd_i h
    have hM := hR.2.2.2.2.2.2.2.2.2.1 _ _ _ _ hq
    refine hq_callVi (a := 7) (ci := 4) [.int a1] [] (pm_d rk_X4_atom 15 rfl) ml_X4_126 iv_X4_bracketed rfl rfl rfl rfl rfl (Nat.le_of_ble_eq_true rfl) hM ?_
    exact hq_iret (pm_d rk_X4_atom 16 rfl) rfl h
  rw [if_neg hc15] at h
  refine hq_tableOut 102 (pm_d rk_X4_atom 4 rfl) (by
      rcases tb_out (t := x2.toInt) (lo := 2) 16 (fun k hk => match k, hk with | 0, _ => tb_ne hc0 (by decide) | 1, _ => tb_ne hc1 (by decide) | 2, _ => tb_ne hc2 (by decide) | 3, _ => tb_ne hc3 (by decide) | 4, _ => tb_ne hc4 (by decide) | 5, _ => tb_ne hc5 (by decide) | 6, _ => tb_ne hc6 (by decide) | 7, _ => tb_ne hc7 (by decide) | 8, _ => tb_ne hc8 (by decide) | 9, _ => tb_ne hc9 (by decide) | 10, _ => tb_ne hc10 (by decide) | 11, _ => tb_ne hc11 (by decide) | 12, _ => tb_ne hc12 (by decide) | 13, _ => tb_ne hc13 (by decide) | 14, _ => tb_ne hc14 (by decide) | 15, _ => tb_ne hc15 (by decide) | k + 16, hk => absurd hk (by omega)) with q | q
      · exact Or.inl q
      · exact Or.inr (by omega)) (by decide) ?_
  refine hq_aload_n (pm_d rk_X4_atom 17 rfl) rfl 1 rfl ?_
  obtain ⟨t27, hq, h⟩ := pm_b1_i h
  have hM := w_C_X4_refuse_7 (d := d + 9) (h := hq)
  refine hq_callVv (a := 7) (ci := 4) [] [] (pm_d rk_X4_atom 18 rfl) ml_X4_58 iv_X4_refuse rfl rfl rfl rfl rfl (Nat.le_of_ble_eq_true rfl) hM ?_
  refine hq_iconst (v := (-1 : Int32)) (pm_d rk_X4_atom 19 rfl) (by decide) ?_
  show hp_go _ _ _ _ _ 107 _ _ _
  exact hq_iret (pm_d rk_X4_atom 20 rfl) rfl h
def f_C_X4_bracketed_7 (rec : Nat → Int32 → Int32 → Int32 → hp_S → Option (Int32 × hp_S)) (n : Nat) (a1 : Int32) (s : hp_S) : Option (Int32 × hp_S) :=
  pm_let (hs_I s 7 5) (fun x1 =>
  pm_b1 (f_C_X4_take_7 (-1 : Int32) s) (fun t2 =>
  pm_bd (rec 0 (a1 + (1 : Int32)) 0 0 t2) (fun x4 t3 =>
  pm_bd (f_C_X4_current_7 t3) (fun x6 t5 =>
  if x6 = (19 : Int32) then
    pm_bd (rec 10 x1 x4 a1 t5) (fun x9 t8 =>
    some (x9, t8))
  else
    pm_b1 (f_C_X4_expect_7 (18 : Int32) (-1 : Int32) t5) (fun t7 =>
    some (x4, t7))))))
set_option maxRecDepth 100000 in
set_option maxHeartbeats 400000 in
theorem w_C_X4_bracketed_7 (d : Nat) (rec : Nat → Int32 → Int32 → Int32 → hp_S → Option (Int32 × hp_S)) (n : Nat) (a1 : Int32) (hR : rec_ok rec (d + 9)) (s s1 : hp_S) (x0 : Int32) (h : f_C_X4_bracketed_7 rec n a1 s = some (x0, s1)) : hp_is sh_C me_X4_bracketed (d + 10) [.ref 7, .int a1] s (some (.int x0)) s1 := by
  refine hp_ofF [(0, .ref 7), (1, .int a1)] (by decide +kernel) (Nat.le_of_ble_eq_true rfl) rfl ?_
  unfold f_C_X4_bracketed_7 at h
  refine hq_aload_n (pm_d rk_X4_bracketed 0 rfl) rfl 0 rfl ?_
  refine hq_getI 5 (pm_d rk_X4_bracketed 1 rfl) fl_X4_31 rfl rfl ?_
  refine pm_nm (G := fun x1 => hp_go sh_C me_X4_bracketed (d + 10) (some (.int x0)) s1 4 [(0, .ref 7), (1, .int a1)] [.int x1] s) h (fun x1 h => ?_)
  refine hq_istore_n (L1 := [(2, .int x1), (0, .ref 7), (1, .int a1)]) (pm_d rk_X4_bracketed 2 rfl) rfl (by decide) rfl ?_
  refine hq_aload_n (pm_d rk_X4_bracketed 3 rfl) rfl 1 rfl ?_
  refine hq_iconst (v := (-1 : Int32)) (pm_d rk_X4_bracketed 4 rfl) (by decide) ?_
  show hp_go _ _ _ _ _ 7 _ _ _
  obtain ⟨t2, hq, h⟩ := pm_b1_i h
  have hM := w_C_X4_take_7 (d := d + 8) (h := hq)
  refine hq_callVv (a := 7) (ci := 4) [.int (-1 : Int32)] [] (pm_d rk_X4_bracketed 5 rfl) ml_X4_73 iv_X4_take rfl rfl rfl rfl rfl (Nat.le_of_ble_eq_true rfl) hM ?_
  refine hq_aload_n (pm_d rk_X4_bracketed 6 rfl) rfl 1 rfl ?_
  refine hq_iload_n (pm_d rk_X4_bracketed 7 rfl) rfl 2 rfl ?_
  refine hq_iconst (v := (1 : Int32)) (pm_d rk_X4_bracketed 8 rfl) (by decide) ?_
  refine hq_iadd (pm_d rk_X4_bracketed 9 rfl) ?_
  obtain ⟨x4, t3, hq, h⟩ := pm_bd_i h
  have hM := hR.1 _ _ _ _ hq
  refine hq_callVi (a := 7) (ci := 4) [.int (a1 + (1 : Int32))] [] (pm_d rk_X4_bracketed 10 rfl) ml_X4_50 iv_X4_expression rfl rfl rfl rfl rfl (Nat.le_of_ble_eq_true rfl) hM ?_
  show hp_go _ _ _ _ _ 17 _ _ _
  refine hq_istore_n (L1 := [(3, .int x4), (2, .int x1), (0, .ref 7), (1, .int a1)]) (pm_d rk_X4_bracketed 11 rfl) rfl (by decide) rfl ?_
  refine hq_aload_n (pm_d rk_X4_bracketed 12 rfl) rfl 2 rfl ?_
  obtain ⟨x6, t5, hq, h⟩ := pm_bd_i h
  have hM := w_C_X4_current_7 (d := d + 8) (h := hq)
  refine hq_callVi (a := 7) (ci := 4) [] [] (pm_d rk_X4_bracketed 13 rfl) ml_X4_54 iv_X4_current rfl rfl rfl rfl rfl (Nat.le_of_ble_eq_true rfl) hM ?_
  refine hq_bipush (v := (19 : Int32)) (pm_d rk_X4_bracketed 14 rfl) (by decide) ?_
  refine hq_icmp_ne 35 (pm_d rk_X4_bracketed 15 rfl) (by decide) (fun hc => ?_) (fun hc => ?_)
  · rw [if_neg hc] at h
    refine hq_aload_n (pm_d rk_X4_bracketed 22 rfl) rfl 2 rfl ?_
    show hp_go _ _ _ _ _ 36 _ _ _
    refine hq_bipush (v := (18 : Int32)) (pm_d rk_X4_bracketed 23 rfl) (by decide) ?_
    refine hq_iconst (v := (-1 : Int32)) (pm_d rk_X4_bracketed 24 rfl) (by decide) ?_
    obtain ⟨t7, hq, h⟩ := pm_b1_i h
    have hM := w_C_X4_expect_7 (d := d + 7) (h := hq)
    refine hq_callVv (a := 7) (ci := 4) [.int (18 : Int32), .int (-1 : Int32)] [] (pm_d rk_X4_bracketed 25 rfl) ml_X4_102 iv_X4_expect rfl rfl rfl rfl rfl (Nat.le_of_ble_eq_true rfl) hM ?_
    refine hq_iload_n (pm_d rk_X4_bracketed 26 rfl) rfl 0 rfl ?_
    exact hq_iret (pm_d rk_X4_bracketed 27 rfl) rfl h
  rw [if_pos hc] at h
  refine hq_aload_n (pm_d rk_X4_bracketed 16 rfl) rfl 2 rfl ?_
  show hp_go _ _ _ _ _ 28 _ _ _
  refine hq_iload_n (pm_d rk_X4_bracketed 17 rfl) rfl 1 rfl ?_
  refine hq_iload_n (pm_d rk_X4_bracketed 18 rfl) rfl 0 rfl ?_
  refine hq_iload_n (pm_d rk_X4_bracketed 19 rfl) rfl 3 rfl ?_
  obtain ⟨x9, t8, hq, h⟩ := pm_bd_i h
  have hM := hR.2.2.2.2.2.2.2.2.2.2 _ _ _ _ _ _ hq
  refine hq_callVi (a := 7) (ci := 4) [.int x1, .int x4, .int a1] [] (pm_d rk_X4_bracketed 20 rfl) ml_X4_144 iv_X4_pair rfl rfl rfl rfl rfl (Nat.le_of_ble_eq_true rfl) hM ?_
  exact hq_iret (pm_d rk_X4_bracketed 21 rfl) rfl h
def f_C_X4_isPlace (a0 : Int32) (s : hp_S) : Option (Int32 × hp_S) :=
  if a0 < 0 then
    some ((0 : Int32), s)
  else
    if (501 : Int32) ≤ a0 then
      some ((0 : Int32), s)
    else
      some ((1 : Int32), s)
set_option maxRecDepth 100000 in
set_option maxHeartbeats 400000 in
theorem w_C_X4_isPlace (d : Nat) (a0 : Int32) (s s1 : hp_S) (x0 : Int32) (h : f_C_X4_isPlace a0 s = some (x0, s1)) : hp_is sh_C me_X4_isPlace (d + 0) [.int a0] s (some (.int x0)) s1 := by
  refine hp_ofF [(0, .int a0)] (by decide +kernel) (Nat.le_of_ble_eq_true rfl) rfl ?_
  unfold f_C_X4_isPlace at h
  refine hq_iload_n (pm_d rk_X4_isPlace 0 rfl) rfl 0 rfl ?_
  refine hq_if_lt 15 (pm_d rk_X4_isPlace 1 rfl) (by decide) (fun hc => ?_) (fun hc => ?_)
  · rw [if_pos hc] at h
    refine hq_iconst (v := (0 : Int32)) (pm_d rk_X4_isPlace 7 rfl) (by decide) ?_
    exact hq_zret (pm_d rk_X4_isPlace 8 rfl) rfl rfl h
  rw [if_neg hc] at h
  refine hq_iload_n (pm_d rk_X4_isPlace 2 rfl) rfl 0 rfl ?_
  show hp_go _ _ _ _ _ 5 _ _ _
  refine hq_sipush (v := (501 : Int32)) (pm_d rk_X4_isPlace 3 rfl) (by decide) ?_
  refine hq_icmp_ge 15 (pm_d rk_X4_isPlace 4 rfl) (by decide) (fun hc => ?_) (fun hc => ?_)
  · rw [if_pos hc] at h
    refine hq_iconst (v := (0 : Int32)) (pm_d rk_X4_isPlace 7 rfl) (by decide) ?_
    exact hq_zret (pm_d rk_X4_isPlace 8 rfl) rfl rfl h
  rw [if_neg hc] at h
  refine hq_iconst (v := (1 : Int32)) (pm_d rk_X4_isPlace 5 rfl) (by decide) ?_
  refine hq_goto 16 (pm_d rk_X4_isPlace 6 rfl) (by decide) ?_
  show hp_go _ _ _ _ _ 16 _ _ _
  exact hq_zret (pm_d rk_X4_isPlace 8 rfl) rfl rfl h
def f_C_X4_pair_7 (rec : Nat → Int32 → Int32 → Int32 → hp_S → Option (Int32 × hp_S)) (n : Nat) (a1 : Int32) (a2 : Int32) (a3 : Int32) (s : hp_S) : Option (Int32 × hp_S) :=
  pm_b1 (f_C_X4_countNode_7 s) (fun t1 =>
  pm_b1 (f_C_X2_begin_8 a1 (19 : Int32) t1) (fun t2 =>
  pm_b1 (f_C_X2_setFirst_8 a1 a2 t2) (fun t3 =>
  pm_bd (f_C_X4_isPlace a1 t3) (fun x5 t4 =>
  pm_let (fun (z37_1 : Int32) (z37_3 : Int32) (s : hp_S) =>
    pm_b1 (f_C_X4_expect_7 (19 : Int32) z37_1 s) (fun t6 =>
    pm_bd (rec 0 (z37_3 + (1 : Int32)) 0 0 t6) (fun x8 t7 =>
    pm_b1 (f_C_X2_setSecond_8 z37_1 x8 t7) (fun t9 =>
    pm_b1 (f_C_X4_expect_7 (18 : Int32) z37_1 t9) (fun t10 =>
    some (z37_1, t10)))))) (fun j37 =>
  if x5 = 0 then
    j37 a1 a3 t4
  else
    pm_gd1 (pm_ib a1 501) (
    pm_let (hs_pA t4 14 a1.toNatClampNeg a1) (fun t11 =>
    j37 a1 a3 t11)))))))
set_option maxRecDepth 100000 in
set_option maxHeartbeats 400000 in
theorem w_C_X4_pair_7 (d : Nat) (rec : Nat → Int32 → Int32 → Int32 → hp_S → Option (Int32 × hp_S)) (n : Nat) (a1 : Int32) (a2 : Int32) (a3 : Int32) (hR : rec_ok rec (d + 9)) (s s1 : hp_S) (x0 : Int32) (h : f_C_X4_pair_7 rec n a1 a2 a3 s = some (x0, s1)) : hp_is sh_C me_X4_pair (d + 10) [.ref 7, .int a1, .int a2, .int a3] s (some (.int x0)) s1 := by
  refine hp_ofF [(0, .ref 7), (1, .int a1), (2, .int a2), (3, .int a3)] (by decide +kernel) (Nat.le_of_ble_eq_true rfl) rfl ?_
  unfold f_C_X4_pair_7 at h
  refine hq_aload_n (pm_d rk_X4_pair 0 rfl) rfl 0 rfl ?_
  obtain ⟨t1, hq, h⟩ := pm_b1_i h
  have hM := w_C_X4_countNode_7 (d := d + 8) (h := hq)
  refine hq_callVv (a := 7) (ci := 4) [] [] (pm_d rk_X4_pair 1 rfl) ml_X4_76 iv_X4_countNode rfl rfl rfl rfl rfl (Nat.le_of_ble_eq_true rfl) hM ?_
  refine hq_aload_n (pm_d rk_X4_pair 2 rfl) rfl 0 rfl ?_
  refine hq_getR (h := 8) 1 (pm_d rk_X4_pair 3 rfl) fl_X4_16 rfl rfl ?_
  refine hq_iload_n (pm_d rk_X4_pair 4 rfl) rfl 1 rfl ?_
  show hp_go _ _ _ _ _ 9 _ _ _
  refine hq_bipush (v := (19 : Int32)) (pm_d rk_X4_pair 5 rfl) (by decide) ?_
  obtain ⟨t2, hq, h⟩ := pm_b1_i h
  have hM := w_C_X2_begin_8 (d := d + 8) (h := hq)
  refine hq_callVv (a := 8) (ci := 2) [.int a1, .int (19 : Int32)] [] (pm_d rk_X4_pair 6 rfl) ml_X4_79 iv_X2_begin rfl rfl rfl rfl rfl (Nat.le_of_ble_eq_true rfl) hM ?_
  refine hq_aload_n (pm_d rk_X4_pair 7 rfl) rfl 0 rfl ?_
  refine hq_getR (h := 8) 1 (pm_d rk_X4_pair 8 rfl) fl_X4_16 rfl rfl ?_
  refine hq_iload_n (pm_d rk_X4_pair 9 rfl) rfl 1 rfl ?_
  refine hq_iload_n (pm_d rk_X4_pair 10 rfl) rfl 2 rfl ?_
  show hp_go _ _ _ _ _ 20 _ _ _
  obtain ⟨t3, hq, h⟩ := pm_b1_i h
  have hM := w_C_X2_setFirst_8 (d := d + 8) (h := hq)
  refine hq_callVv (a := 8) (ci := 2) [.int a1, .int a2] [] (pm_d rk_X4_pair 11 rfl) ml_X4_83 iv_X2_setFirst rfl rfl rfl rfl rfl (Nat.le_of_ble_eq_true rfl) hM ?_
  refine hq_iload_n (pm_d rk_X4_pair 12 rfl) rfl 1 rfl ?_
  obtain ⟨x5, t4, hq, h⟩ := pm_bd_i h
  have hM := w_C_X4_isPlace (d := d + 9) (h := hq)
  refine hq_callSi [.int a1] [] (pm_d rk_X4_pair 13 rfl) ml_X4_61 iv_X4_isPlace rfl rfl (Nat.le_of_ble_eq_true rfl) hM ?_
  refine pm_jn (P := fun j37 => ∀ (z37_1 : Int32) (z37_3 : Int32) (s : hp_S), j37 z37_1 z37_3 s = some (x0, s1) → hp_go sh_C me_X4_pair (d + 10) (some (.int x0)) s1 37 [(0, .ref 7), (1, .int z37_1), (3, .int z37_3)] [] s) h ?_ (fun j37 hj37 h => ?_)
  · intro z37_1 z37_3 s h
    dsimp only at h
    refine hq_aload_n (pm_d rk_X4_pair 20 rfl) rfl 0 rfl ?_
    refine hq_bipush (v := (19 : Int32)) (pm_d rk_X4_pair 21 rfl) (by decide) ?_
    refine hq_iload_n (pm_d rk_X4_pair 22 rfl) rfl 1 rfl ?_
    show hp_go _ _ _ _ _ 41 _ _ _
    obtain ⟨t6, hq, h⟩ := pm_b1_i h
    have hM := w_C_X4_expect_7 (d := d + 7) (h := hq)
    refine hq_callVv (a := 7) (ci := 4) [.int (19 : Int32), .int z37_1] [] (pm_d rk_X4_pair 23 rfl) ml_X4_102 iv_X4_expect rfl rfl rfl rfl rfl (Nat.le_of_ble_eq_true rfl) hM ?_
    refine hq_aload_n (pm_d rk_X4_pair 24 rfl) rfl 0 rfl ?_
    refine hq_getR (h := 8) 1 (pm_d rk_X4_pair 25 rfl) fl_X4_16 rfl rfl ?_
    refine hq_iload_n (pm_d rk_X4_pair 26 rfl) rfl 1 rfl ?_
    refine hq_aload_n (pm_d rk_X4_pair 27 rfl) rfl 0 rfl ?_
    refine hq_iload_n (pm_d rk_X4_pair 28 rfl) rfl 2 rfl ?_
    show hp_go _ _ _ _ _ 51 _ _ _
    refine hq_iconst (v := (1 : Int32)) (pm_d rk_X4_pair 29 rfl) (by decide) ?_
    refine hq_iadd (pm_d rk_X4_pair 30 rfl) ?_
    obtain ⟨x8, t7, hq, h⟩ := pm_bd_i h
    have hM := hR.1 _ _ _ _ hq
    refine hq_callVi (a := 7) (ci := 4) [.int (z37_3 + (1 : Int32))] [.int z37_1, .ref 8] (pm_d rk_X4_pair 31 rfl) ml_X4_50 iv_X4_expression rfl rfl rfl rfl rfl (Nat.le_of_ble_eq_true rfl) hM ?_
    obtain ⟨t9, hq, h⟩ := pm_b1_i h
    have hM := w_C_X2_setSecond_8 (d := d + 8) (h := hq)
    refine hq_callVv (a := 8) (ci := 2) [.int z37_1, .int x8] [] (pm_d rk_X4_pair 32 rfl) ml_X4_108 iv_X2_setSecond rfl rfl rfl rfl rfl (Nat.le_of_ble_eq_true rfl) hM ?_
    refine hq_aload_n (pm_d rk_X4_pair 33 rfl) rfl 0 rfl ?_
    refine hq_bipush (v := (18 : Int32)) (pm_d rk_X4_pair 34 rfl) (by decide) ?_
    show hp_go _ _ _ _ _ 62 _ _ _
    refine hq_iload_n (pm_d rk_X4_pair 35 rfl) rfl 1 rfl ?_
    obtain ⟨t10, hq, h⟩ := pm_b1_i h
    have hM := w_C_X4_expect_7 (d := d + 7) (h := hq)
    refine hq_callVv (a := 7) (ci := 4) [.int (18 : Int32), .int z37_1] [] (pm_d rk_X4_pair 36 rfl) ml_X4_102 iv_X4_expect rfl rfl rfl rfl rfl (Nat.le_of_ble_eq_true rfl) hM ?_
    refine hq_iload_n (pm_d rk_X4_pair 37 rfl) rfl 1 rfl ?_
    exact hq_iret (pm_d rk_X4_pair 38 rfl) rfl h
  refine hq_if_eq 37 (pm_d rk_X4_pair 14 rfl) (by decide) (fun hc => ?_) (fun hc => ?_)
  · rw [if_pos hc] at h
    refine hq_drop [0, 1, 3] rfl ?_
    exact hj37 _ _ _ h
  rw [if_neg hc] at h
  refine hq_aload_n (pm_d rk_X4_pair 15 rfl) rfl 0 rfl ?_
  show hp_go _ _ _ _ _ 31 _ _ _
  refine hq_getR (h := 14) 2 (pm_d rk_X4_pair 16 rfl) fl_X4_20 rfl rfl ?_
  refine hq_iload_n (pm_d rk_X4_pair 17 rfl) rfl 1 rfl ?_
  refine hq_iload_n (pm_d rk_X4_pair 18 rfl) rfl 1 rfl ?_
  obtain ⟨hg, h⟩ := pm_gd_i h
  refine hq_iastore (pm_d rk_X4_pair 19 rfl) rfl hg ?_
  refine pm_nm (G := fun t11 => hp_go sh_C me_X4_pair (d + 10) (some (.int x0)) s1 37 [(0, .ref 7), (1, .int a1), (2, .int a2), (3, .int a3)] [] t11) h (fun t11 h => ?_)
  refine hq_drop [0, 1, 3] rfl ?_
  exact hj37 _ _ _ h
def f_C_rec (n : Nat) : Nat → Nat → Int32 → Int32 → Int32 → hp_S → Option (Int32 × hp_S)
  | 0, _, _, _, _, _ => none
  | N + 1, m, a, b, c, s =>
    if m = 0 then f_C_X4_expression_7 (f_C_rec n N) n a s else
    if m = 1 then f_C_X4_function_7 (f_C_rec n N) n a s else
    if m = 2 then f_C_X4_let_7 (f_C_rec n N) n a s else
    if m = 3 then f_C_X4_expressionInScope_7 (f_C_rec n N) n a b s else
    if m = 4 then f_C_X4_choice_7 (f_C_rec n N) n a s else
    if m = 5 then f_C_X4_comparison_7 (f_C_rec n N) n a s else
    if m = 6 then f_C_X4_sum_7 (f_C_rec n N) n a s else
    if m = 7 then f_C_X4_call_7 (f_C_rec n N) n a s else
    if m = 8 then f_C_X4_atom_7 (f_C_rec n N) n a s else
    if m = 9 then f_C_X4_bracketed_7 (f_C_rec n N) n a s else
    if m = 10 then f_C_X4_pair_7 (f_C_rec n N) n a b c s else
    none
set_option maxRecDepth 100000 in
set_option maxHeartbeats 400000 in
theorem w_C_rec (d n : Nat) : ∀ N : Nat, rec_ok (f_C_rec n N) (d + (N + 9)) := by
  intro N
  induction N with
  | zero =>
    refine ⟨(fun _ _ _ _ h => by cases h), (fun _ _ _ _ h => by cases h), (fun _ _ _ _ h => by cases h), (fun _ _ _ _ _ h => by cases h), (fun _ _ _ _ h => by cases h), (fun _ _ _ _ h => by cases h), (fun _ _ _ _ h => by cases h), (fun _ _ _ _ h => by cases h), (fun _ _ _ _ h => by cases h), (fun _ _ _ _ h => by cases h), (fun _ _ _ _ _ _ h => by cases h)⟩
  | succ N ih =>
    refine ⟨?_, ?_, ?_, ?_, ?_, ?_, ?_, ?_, ?_, ?_, ?_⟩
    · intro a s x s1 h
      rw [f_C_rec.eq_2] at h
      rw [if_pos rfl] at h
      have hM := w_C_X4_expression_7 (d := d + N) (hR := ih) (h := h)
      rw [show d + (N + 1 + 9) = d + N + 10 by omega]
      exact hM
    · intro a s x s1 h
      rw [f_C_rec.eq_2] at h
      rw [if_neg (by decide)] at h
      rw [if_pos rfl] at h
      have hM := w_C_X4_function_7 (d := d + N) (hR := ih) (h := h)
      rw [show d + (N + 1 + 9) = d + N + 10 by omega]
      exact hM
    · intro a s x s1 h
      rw [f_C_rec.eq_2] at h
      rw [if_neg (by decide)] at h
      rw [if_neg (by decide)] at h
      rw [if_pos rfl] at h
      have hM := w_C_X4_let_7 (d := d + N) (hR := ih) (h := h)
      rw [show d + (N + 1 + 9) = d + N + 10 by omega]
      exact hM
    · intro a b s x s1 h
      rw [f_C_rec.eq_2] at h
      rw [if_neg (by decide)] at h
      rw [if_neg (by decide)] at h
      rw [if_neg (by decide)] at h
      rw [if_pos rfl] at h
      have hM := w_C_X4_expressionInScope_7 (d := d + N) (hR := ih) (h := h)
      rw [show d + (N + 1 + 9) = d + N + 10 by omega]
      exact hM
    · intro a s x s1 h
      rw [f_C_rec.eq_2] at h
      rw [if_neg (by decide)] at h
      rw [if_neg (by decide)] at h
      rw [if_neg (by decide)] at h
      rw [if_neg (by decide)] at h
      rw [if_pos rfl] at h
      have hM := w_C_X4_choice_7 (d := d + N) (hR := ih) (h := h)
      rw [show d + (N + 1 + 9) = d + N + 10 by omega]
      exact hM
    · intro a s x s1 h
      rw [f_C_rec.eq_2] at h
      rw [if_neg (by decide)] at h
      rw [if_neg (by decide)] at h
      rw [if_neg (by decide)] at h
      rw [if_neg (by decide)] at h
      rw [if_neg (by decide)] at h
      rw [if_pos rfl] at h
      have hM := w_C_X4_comparison_7 (d := d + N) (hR := ih) (h := h)
      rw [show d + (N + 1 + 9) = d + N + 10 by omega]
      exact hM
    · intro a s x s1 h
      rw [f_C_rec.eq_2] at h
      rw [if_neg (by decide)] at h
      rw [if_neg (by decide)] at h
      rw [if_neg (by decide)] at h
      rw [if_neg (by decide)] at h
      rw [if_neg (by decide)] at h
      rw [if_neg (by decide)] at h
      rw [if_pos rfl] at h
      have hM := w_C_X4_sum_7 (d := d + N) (hR := ih) (h := h)
      rw [show d + (N + 1 + 9) = d + N + 10 by omega]
      exact hM
    · intro a s x s1 h
      rw [f_C_rec.eq_2] at h
      rw [if_neg (by decide)] at h
      rw [if_neg (by decide)] at h
      rw [if_neg (by decide)] at h
      rw [if_neg (by decide)] at h
      rw [if_neg (by decide)] at h
      rw [if_neg (by decide)] at h
      rw [if_neg (by decide)] at h
      rw [if_pos rfl] at h
      have hM := w_C_X4_call_7 (d := d + N) (hR := ih) (h := h)
      rw [show d + (N + 1 + 9) = d + N + 10 by omega]
      exact hM
    · intro a s x s1 h
      rw [f_C_rec.eq_2] at h
      rw [if_neg (by decide)] at h
      rw [if_neg (by decide)] at h
      rw [if_neg (by decide)] at h
      rw [if_neg (by decide)] at h
      rw [if_neg (by decide)] at h
      rw [if_neg (by decide)] at h
      rw [if_neg (by decide)] at h
      rw [if_neg (by decide)] at h
      rw [if_pos rfl] at h
      have hM := w_C_X4_atom_7 (d := d + N) (hR := ih) (h := h)
      rw [show d + (N + 1 + 9) = d + N + 10 by omega]
      exact hM
    · intro a s x s1 h
      rw [f_C_rec.eq_2] at h
      rw [if_neg (by decide)] at h
      rw [if_neg (by decide)] at h
      rw [if_neg (by decide)] at h
      rw [if_neg (by decide)] at h
      rw [if_neg (by decide)] at h
      rw [if_neg (by decide)] at h
      rw [if_neg (by decide)] at h
      rw [if_neg (by decide)] at h
      rw [if_neg (by decide)] at h
      rw [if_pos rfl] at h
      have hM := w_C_X4_bracketed_7 (d := d + N) (hR := ih) (h := h)
      rw [show d + (N + 1 + 9) = d + N + 10 by omega]
      exact hM
    · intro a b c s x s1 h
      rw [f_C_rec.eq_2] at h
      rw [if_neg (by decide)] at h
      rw [if_neg (by decide)] at h
      rw [if_neg (by decide)] at h
      rw [if_neg (by decide)] at h
      rw [if_neg (by decide)] at h
      rw [if_neg (by decide)] at h
      rw [if_neg (by decide)] at h
      rw [if_neg (by decide)] at h
      rw [if_neg (by decide)] at h
      rw [if_neg (by decide)] at h
      rw [if_pos rfl] at h
      have hM := w_C_X4_pair_7 (d := d + N) (hR := ih) (h := h)
      rw [show d + (N + 1 + 9) = d + N + 10 by omega]
      exact hM
def f_C_X4_parse_7 (n : Nat) (s : hp_S) : Option (Int32 × hp_S) :=
  pm_let (hs_pI s 7 4 (0 : Int32)) (fun t1 =>
  pm_let (hs_pI t1 7 5 (0 : Int32)) (fun t2 =>
  pm_let (hs_pI t2 7 6 (0 : Int32)) (fun t3 =>
  pm_let (hs_pI t3 7 7 (-1 : Int32)) (fun t4 =>
  pm_let (hs_pI t4 7 8 (-1 : Int32)) (fun t5 =>
  pm_bd (f_C_rec n 160 0 (1 : Int32) 0 0 t5) (fun x7 t6 =>
  pm_let (hs_pI t6 7 9 x7) (fun t8 =>
  pm_bd (f_C_X4_current_7 t8) (fun x10 t9 =>
  pm_let (fun (s : hp_S) =>
    if (hs_I s 7 7) = (-1 : Int32) then
      some ((1 : Int32), s)
    else
      some ((0 : Int32), s)) (fun j45 =>
  if x10 = 0 then
    j45  t9
  else
    pm_b1 (f_C_X4_refuse_7 t9) (fun t11 =>
    j45  t11))))))))))
set_option maxRecDepth 100000 in
set_option maxHeartbeats 400000 in
theorem w_C_X4_parse_7 (d : Nat) (n : Nat) (s s1 : hp_S) (x0 : Int32) (h : f_C_X4_parse_7 n s = some (x0, s1)) : hp_is sh_C me_X4_parse (d + 170) [.ref 7] s (some (.int x0)) s1 := by
  refine hp_ofF [(0, .ref 7)] (by decide +kernel) (Nat.le_of_ble_eq_true rfl) rfl ?_
  unfold f_C_X4_parse_7 at h
  refine hq_aload_n (pm_d rk_X4_parse 0 rfl) rfl 0 rfl ?_
  refine hq_iconst (v := (0 : Int32)) (pm_d rk_X4_parse 1 rfl) (by decide) ?_
  refine hq_putI 4 (pm_d rk_X4_parse 2 rfl) fl_X4_27 rfl rfl ?_
  refine pm_nm (G := fun t1 => hp_go sh_C me_X4_parse (d + 170) (some (.int x0)) s1 5 [(0, .ref 7)] [] t1) h (fun t1 h => ?_)
  refine hq_aload_n (pm_d rk_X4_parse 3 rfl) rfl 0 rfl ?_
  refine hq_iconst (v := (0 : Int32)) (pm_d rk_X4_parse 4 rfl) (by decide) ?_
  show hp_go _ _ _ _ _ 7 _ _ _
  refine hq_putI 5 (pm_d rk_X4_parse 5 rfl) fl_X4_31 rfl rfl ?_
  refine pm_nm (G := fun t2 => hp_go sh_C me_X4_parse (d + 170) (some (.int x0)) s1 10 [(0, .ref 7)] [] t2) h (fun t2 h => ?_)
  refine hq_aload_n (pm_d rk_X4_parse 6 rfl) rfl 0 rfl ?_
  refine hq_iconst (v := (0 : Int32)) (pm_d rk_X4_parse 7 rfl) (by decide) ?_
  refine hq_putI 6 (pm_d rk_X4_parse 8 rfl) fl_X4_34 rfl rfl ?_
  refine pm_nm (G := fun t3 => hp_go sh_C me_X4_parse (d + 170) (some (.int x0)) s1 15 [(0, .ref 7)] [] t3) h (fun t3 h => ?_)
  refine hq_aload_n (pm_d rk_X4_parse 9 rfl) rfl 0 rfl ?_
  refine hq_iconst (v := (-1 : Int32)) (pm_d rk_X4_parse 10 rfl) (by decide) ?_
  show hp_go _ _ _ _ _ 17 _ _ _
  refine hq_putI 7 (pm_d rk_X4_parse 11 rfl) fl_X4_37 rfl rfl ?_
  refine pm_nm (G := fun t4 => hp_go sh_C me_X4_parse (d + 170) (some (.int x0)) s1 20 [(0, .ref 7)] [] t4) h (fun t4 h => ?_)
  refine hq_aload_n (pm_d rk_X4_parse 12 rfl) rfl 0 rfl ?_
  refine hq_iconst (v := (-1 : Int32)) (pm_d rk_X4_parse 13 rfl) (by decide) ?_
  refine hq_putI 8 (pm_d rk_X4_parse 14 rfl) fl_X4_40 rfl rfl ?_
  refine pm_nm (G := fun t5 => hp_go sh_C me_X4_parse (d + 170) (some (.int x0)) s1 25 [(0, .ref 7)] [] t5) h (fun t5 h => ?_)
  refine hq_aload_n (pm_d rk_X4_parse 15 rfl) rfl 0 rfl ?_
  refine hq_aload_n (pm_d rk_X4_parse 16 rfl) rfl 0 rfl ?_
  show hp_go _ _ _ _ _ 27 _ _ _
  refine hq_iconst (v := (1 : Int32)) (pm_d rk_X4_parse 17 rfl) (by decide) ?_
  obtain ⟨x7, t6, hq, h⟩ := pm_bd_i h
  have hM := (w_C_rec (d := d + 0) n 160).1 _ _ _ _ hq
  refine hq_callVi (a := 7) (ci := 4) [.int (1 : Int32)] [.ref 7] (pm_d rk_X4_parse 18 rfl) ml_X4_50 iv_X4_expression rfl rfl rfl rfl rfl (Nat.le_of_ble_eq_true rfl) hM ?_
  refine hq_putI 9 (pm_d rk_X4_parse 19 rfl) fl_X4_43 rfl rfl ?_
  refine pm_nm (G := fun t8 => hp_go sh_C me_X4_parse (d + 170) (some (.int x0)) s1 34 [(0, .ref 7)] [] t8) h (fun t8 h => ?_)
  refine hq_aload_n (pm_d rk_X4_parse 20 rfl) rfl 0 rfl ?_
  obtain ⟨x10, t9, hq, h⟩ := pm_bd_i h
  have hM := w_C_X4_current_7 (d := d + 168) (h := hq)
  refine hq_callVi (a := 7) (ci := 4) [] [] (pm_d rk_X4_parse 21 rfl) ml_X4_54 iv_X4_current rfl rfl rfl rfl rfl (Nat.le_of_ble_eq_true rfl) hM ?_
  refine pm_jn (P := fun j45 => ∀ (s : hp_S), j45  s = some (x0, s1) → hp_go sh_C me_X4_parse (d + 170) (some (.int x0)) s1 45 [(0, .ref 7)] [] s) h ?_ (fun j45 hj45 h => ?_)
  · intro  s h
    dsimp only at h
    refine hq_aload_n (pm_d rk_X4_parse 25 rfl) rfl 0 rfl ?_
    show hp_go _ _ _ _ _ 46 _ _ _
    refine hq_getI 7 (pm_d rk_X4_parse 26 rfl) fl_X4_37 rfl rfl ?_
    refine hq_iconst (v := (-1 : Int32)) (pm_d rk_X4_parse 27 rfl) (by decide) ?_
    refine hq_icmp_ne 57 (pm_d rk_X4_parse 28 rfl) (by decide) (fun hc => ?_) (fun hc => ?_)
    · rw [if_neg hc] at h
      refine hq_iconst (v := (0 : Int32)) (pm_d rk_X4_parse 31 rfl) (by decide) ?_
      exact hq_zret (pm_d rk_X4_parse 32 rfl) rfl rfl h
    rw [if_pos hc] at h
    refine hq_iconst (v := (1 : Int32)) (pm_d rk_X4_parse 29 rfl) (by decide) ?_
    show hp_go _ _ _ _ _ 54 _ _ _
    refine hq_goto 58 (pm_d rk_X4_parse 30 rfl) (by decide) ?_
    exact hq_zret (pm_d rk_X4_parse 32 rfl) rfl rfl h
  refine hq_if_eq 45 (pm_d rk_X4_parse 22 rfl) (by decide) (fun hc => ?_) (fun hc => ?_)
  · rw [if_pos hc] at h
    refine hq_drop [0] rfl ?_
    exact hj45  _ h
  rw [if_neg hc] at h
  refine hq_aload_n (pm_d rk_X4_parse 23 rfl) rfl 0 rfl ?_
  obtain ⟨t11, hq, h⟩ := pm_b1_i h
  have hM := w_C_X4_refuse_7 (d := d + 169) (h := hq)
  refine hq_callVv (a := 7) (ci := 4) [] [] (pm_d rk_X4_parse 24 rfl) ml_X4_58 iv_X4_refuse rfl rfl rfl rfl rfl (Nat.le_of_ble_eq_true rfl) hM ?_
  refine hq_drop [0] rfl ?_
  exact hj45  _ h
