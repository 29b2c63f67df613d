def f_C_X10_place_0  (s : hp_S) : Option (Int32 × hp_S) :=
  some ((hs_I s 0 10), s)
set_option maxRecDepth 100000 in
set_option maxHeartbeats 400000 in
theorem w_C_X10_place_0 (d : Nat)  (s s1 : hp_S) (x0 : Int32) (h : f_C_X10_place_0 s = some (x0, s1)) : hp_is sh_C me_X10_place (d + 0) [.ref 0] s (some (.int x0)) s1 := by
  refine hp_ofF [(0, .ref 0)] (by decide +kernel) (Nat.le_of_ble_eq_true rfl) rfl ?_
  unfold f_C_X10_place_0 at h
  refine hq_aload_n (pm_d rk_X10_place 0 rfl) rfl 0 rfl ?_
  refine hq_getI 10 (pm_d rk_X10_place 1 rfl) fl_X10_86 rfl rfl ?_
  exact hq_iret (pm_d rk_X10_place 2 rfl) rfl h
def f_C_X10_isIn_0 (a1 : Int32) (s : hp_S) : Option (Int32 × hp_S) :=
  if a1 < 0 then
    some ((0 : Int32), s)
  else
    if (hs_I s 0 11) ≤ a1 then
      some ((0 : Int32), s)
    else
      if (100 : Int32) ≤ a1 then
        some ((0 : Int32), s)
      else
        pm_gd1 (pm_ib a1 100) (
        if (hs_A s 42 a1.toNatClampNeg) = 0 then
          some ((0 : Int32), s)
        else
          some ((1 : Int32), s))
set_option maxRecDepth 100000 in
set_option maxHeartbeats 400000 in
theorem w_C_X10_isIn_0 (d : Nat) (a1 : Int32) (s s1 : hp_S) (x0 : Int32) (h : f_C_X10_isIn_0 a1 s = some (x0, s1)) : hp_is sh_C me_X10_isIn (d + 0) [.ref 0, .int a1] s (some (.int x0)) s1 := by
  refine hp_ofF [(0, .ref 0), (1, .int a1)] (by decide +kernel) (Nat.le_of_ble_eq_true rfl) rfl ?_
  unfold f_C_X10_isIn_0 at h
  refine hq_iload_n (pm_d rk_X10_isIn 0 rfl) rfl 1 rfl ?_
  refine hq_if_lt 31 (pm_d rk_X10_isIn 1 rfl) (by decide) (fun hc => ?_) (fun hc => ?_)
  · rw [if_pos hc] at h
    refine hq_iconst (v := (0 : Int32)) (pm_d rk_X10_isIn 16 rfl) (by decide) ?_
    exact hq_zret (pm_d rk_X10_isIn 17 rfl) rfl rfl h
  rw [if_neg hc] at h
  refine hq_iload_n (pm_d rk_X10_isIn 2 rfl) rfl 1 rfl ?_
  show hp_go _ _ _ _ _ 5 _ _ _
  refine hq_aload_n (pm_d rk_X10_isIn 3 rfl) rfl 0 rfl ?_
  refine hq_getI 11 (pm_d rk_X10_isIn 4 rfl) fl_X10_90 rfl rfl ?_
  refine hq_icmp_ge 31 (pm_d rk_X10_isIn 5 rfl) (by decide) (fun hc => ?_) (fun hc => ?_)
  · rw [if_pos hc] at h
    refine hq_iconst (v := (0 : Int32)) (pm_d rk_X10_isIn 16 rfl) (by decide) ?_
    exact hq_zret (pm_d rk_X10_isIn 17 rfl) rfl rfl h
  rw [if_neg hc] at h
  refine hq_iload_n (pm_d rk_X10_isIn 6 rfl) rfl 1 rfl ?_
  show hp_go _ _ _ _ _ 13 _ _ _
  refine hq_bipush (v := (100 : Int32)) (pm_d rk_X10_isIn 7 rfl) (by decide) ?_
  refine hq_icmp_ge 31 (pm_d rk_X10_isIn 8 rfl) (by decide) (fun hc => ?_) (fun hc => ?_)
  · rw [if_pos hc] at h
    refine hq_iconst (v := (0 : Int32)) (pm_d rk_X10_isIn 16 rfl) (by decide) ?_
    exact hq_zret (pm_d rk_X10_isIn 17 rfl) rfl rfl h
  rw [if_neg hc] at h
  refine hq_aload_n (pm_d rk_X10_isIn 9 rfl) rfl 0 rfl ?_
  refine hq_getR (h := 42) 9 (pm_d rk_X10_isIn 10 rfl) fl_X10_82 rfl rfl ?_
  show hp_go _ _ _ _ _ 22 _ _ _
  refine hq_iload_n (pm_d rk_X10_isIn 11 rfl) rfl 1 rfl ?_
  obtain ⟨hg, h⟩ := pm_gd_i h
  refine hq_zaload (pm_d rk_X10_isIn 12 rfl) rfl hg ?_
  refine hq_if_eq 31 (pm_d rk_X10_isIn 13 rfl) (by decide) (fun hc => ?_) (fun hc => ?_)
  · rw [if_pos hc] at h
    refine hq_iconst (v := (0 : Int32)) (pm_d rk_X10_isIn 16 rfl) (by decide) ?_
    exact hq_zret (pm_d rk_X10_isIn 17 rfl) rfl rfl h
  rw [if_neg hc] at h
  refine hq_iconst (v := (1 : Int32)) (pm_d rk_X10_isIn 14 rfl) (by decide) ?_
  show hp_go _ _ _ _ _ 28 _ _ _
  refine hq_goto 32 (pm_d rk_X10_isIn 15 rfl) (by decide) ?_
  exact hq_zret (pm_d rk_X10_isIn 17 rfl) rfl rfl h
def f_C_X5_length_1  (s : hp_S) : Option (Int32 × hp_S) :=
  some ((hs_I s 1 1), s)
set_option maxRecDepth 100000 in
set_option maxHeartbeats 400000 in
theorem w_C_X5_length_1 (d : Nat)  (s s1 : hp_S) (x0 : Int32) (h : f_C_X5_length_1 s = some (x0, s1)) : hp_is sh_C me_X5_length (d + 0) [.ref 1] s (some (.int x0)) s1 := by
  refine hp_ofF [(0, .ref 1)] (by decide +kernel) (Nat.le_of_ble_eq_true rfl) rfl ?_
  unfold f_C_X5_length_1 at h
  refine hq_aload_n (pm_d rk_X5_length 0 rfl) rfl 0 rfl ?_
  refine hq_getI 1 (pm_d rk_X5_length 1 rfl) fl_X5_15 rfl rfl ?_
  exact hq_iret (pm_d rk_X5_length 2 rfl) rfl h
def f_C_X5_append_1 (a1 : Int32) (s : hp_S) : Option hp_S :=
  if (500 : Int32) ≤ (hs_I s 1 1) then
    some s
  else
    pm_gd1 (pm_ib (hs_I s 1 1) 500) (
    pm_let (hs_pA s 2 (hs_I s 1 1).toNatClampNeg (vp_nar .byte a1)) (fun t1 =>
    pm_let (hs_pI t1 1 1 ((hs_I t1 1 1) + (1 : Int32))) (fun t2 =>
    some t2)))
set_option maxRecDepth 100000 in
set_option maxHeartbeats 400000 in
theorem w_C_X5_append_1 (d : Nat) (a1 : Int32) (s s1 : hp_S) (h : f_C_X5_append_1 a1 s = some s1) : hp_is sh_C me_X5_append (d + 0) [.ref 1, .int a1] s none s1 := by
  refine hp_ofF [(0, .ref 1), (1, .int a1)] (by decide +kernel) (Nat.le_of_ble_eq_true rfl) rfl ?_
  unfold f_C_X5_append_1 at h
  refine hq_aload_n (pm_d rk_X5_append 0 rfl) rfl 0 rfl ?_
  refine hq_getI 1 (pm_d rk_X5_append 1 rfl) fl_X5_15 rfl rfl ?_
  refine hq_sipush (v := (500 : Int32)) (pm_d rk_X5_append 2 rfl) (by decide) ?_
  refine hq_icmp_ge 30 (pm_d rk_X5_append 3 rfl) (by decide) (fun hc => ?_) (fun hc => ?_)
  · rw [if_pos hc] at h
    exact hq_vret (pm_d rk_X5_append 16 rfl) rfl h
  rw [if_neg hc] at h
  show hp_go _ _ _ _ _ 10 _ _ _
  refine hq_aload_n (pm_d rk_X5_append 4 rfl) rfl 0 rfl ?_
  refine hq_getR (h := 2) 0 (pm_d rk_X5_append 5 rfl) fl_X5_9 rfl rfl ?_
  refine hq_aload_n (pm_d rk_X5_append 6 rfl) rfl 0 rfl ?_
  refine hq_getI 1 (pm_d rk_X5_append 7 rfl) fl_X5_15 rfl rfl ?_
  refine hq_iload_n (pm_d rk_X5_append 8 rfl) rfl 1 rfl ?_
  obtain ⟨hg, h⟩ := pm_gd_i h
  refine hq_bastore (pm_d rk_X5_append 9 rfl) rfl hg ?_
  refine pm_nm (G := fun t1 => hp_go sh_C me_X5_append (d + 0) none s1 20 [(0, .ref 1), (1, .int a1)] [] t1) h (fun t1 h => ?_)
  show hp_go _ _ _ _ _ 20 _ _ _
  refine hq_aload_n (pm_d rk_X5_append 10 rfl) rfl 0 rfl ?_
  refine hq_dup (pm_d rk_X5_append 11 rfl) rfl ?_
  refine hq_getI 1 (pm_d rk_X5_append 12 rfl) fl_X5_15 rfl rfl ?_
  refine hq_iconst (v := (1 : Int32)) (pm_d rk_X5_append 13 rfl) (by decide) ?_
  refine hq_iadd (pm_d rk_X5_append 14 rfl) ?_
  refine hq_putI 1 (pm_d rk_X5_append 15 rfl) fl_X5_15 rfl rfl ?_
  refine pm_nm (G := fun t2 => hp_go sh_C me_X5_append (d + 0) none s1 30 [(0, .ref 1), (1, .int a1)] [] t2) h (fun t2 h => ?_)
  show hp_go _ _ _ _ _ 30 _ _ _
  exact hq_vret (pm_d rk_X5_append 16 rfl) rfl h
def l_C_X10_put_0_33 : Nat → Int64 → Int32 → hp_S → Option (Int32 × hp_S)
  | 0, _, _, _ => none
  | n + 1, y1, y4, s =>
    if y4 < 0 then
      some ((1 : Int32), s)
    else
      pm_b1 (f_C_X5_append_1 ((((y1.toUInt64 >>> (((8 : Int32) * y4).toInt64.toUInt64 &&& Int64.toUInt64 63)).toInt64).toInt32).toInt8.toInt32) s) (fun t4 =>
      pm_let (y4 + (-1 : Int32)) (fun x5 =>
      l_C_X10_put_0_33 n y1 x5 t4))
set_option maxRecDepth 100000 in
set_option maxHeartbeats 400000 in
theorem wl_C_X10_put_0_33 (d : Nat) (s1 : hp_S) (x0 : Int32)  : ∀ (n : Nat) (y1 : Int64) (y4 : Int32) (s : hp_S), l_C_X10_put_0_33 n y1 y4 s = some (x0, s1) → hp_go sh_C me_X10_put (d + 1) (some (.int x0)) s1 33 [(0, .ref 0), (1, .long y1), (4, .int y4)] [] s := by
  intro n
  induction n with
  | zero =>
    intro y1 y4 s h
    cases h
  | succ n ih =>
    intro y1 y4 s h
    rw [l_C_X10_put_0_33.eq_2] at h
    refine hq_iload (pm_d rk_X10_put 19 rfl) 2 rfl ?_
    refine hq_if_lt 60 (pm_d rk_X10_put 20 rfl) (by decide) (fun hc => ?_) (fun hc => ?_)
    · rw [if_pos hc] at h
      show hp_go _ _ _ _ _ 60 _ _ _
      refine hq_iconst (v := (1 : Int32)) (pm_d rk_X10_put 33 rfl) (by decide) ?_
      exact hq_zret (pm_d rk_X10_put 34 rfl) rfl rfl h
    rw [if_neg hc] at h
    refine hq_aload_n (pm_d rk_X10_put 21 rfl) rfl 0 rfl ?_
    refine hq_getR (h := 1) 0 (pm_d rk_X10_put 22 rfl) fl_X10_10 rfl rfl ?_
    refine hq_lload_n (pm_d rk_X10_put 23 rfl) rfl 1 rfl ?_
    refine hq_bipush (v := (8 : Int32)) (pm_d rk_X10_put 24 rfl) (by decide) ?_
    show hp_go _ _ _ _ _ 45 _ _ _
    refine hq_iload (pm_d rk_X10_put 25 rfl) 2 rfl ?_
    refine hq_imul (pm_d rk_X10_put 26 rfl) ?_
    refine hq_lushr (pm_d rk_X10_put 27 rfl) ?_
    refine hq_l2i (pm_d rk_X10_put 28 rfl) ?_
    refine hq_i2b (pm_d rk_X10_put 29 rfl) ?_
    obtain ⟨t4, hq, h⟩ := pm_b1_i h
    have hM := w_C_X5_append_1 (d := d + 0) (h := hq)
    refine hq_callVv (a := 1) (ci := 5) [.int ((((y1.toUInt64 >>> (((8 : Int32) * y4).toInt64.toUInt64 &&& Int64.toUInt64 63)).toInt64).toInt32).toInt8.toInt32)] [] (pm_d rk_X10_put 30 rfl) ml_X10_103 iv_X5_append rfl rfl rfl rfl rfl (Nat.le_of_ble_eq_true rfl) hM ?_
    show hp_go _ _ _ _ _ 54 _ _ _
    refine hq_iinc (v := y4 + (-1 : Int32)) (L1 := [(4, .int (y4 + (-1 : Int32))), (0, .ref 0), (1, .long y1)]) (pm_d rk_X10_put 31 rfl) 2 rfl (by rw [show Int32.ofInt (-1) = (-1 : Int32) by decide]) (by decide) rfl ?_
    refine pm_nm (G := fun x5 => hp_go sh_C me_X10_put (d + 1) (some (.int x0)) s1 57 [(4, .int x5), (0, .ref 0), (1, .long y1)] [] t4) h (fun x5 h => ?_)
    refine hq_goto 33 (pm_d rk_X10_put 32 rfl) (by decide) ?_
    refine hq_drop [1, 2, 0] rfl ?_
    exact ih _ _ _ h
def f_C_X10_put_0 (n : Nat) (a1 : Int64) (a3 : Int32) (s : hp_S) : Option (Int32 × hp_S) :=
  if a3 < (1 : Int32) then
    some ((0 : Int32), s)
  else
    if (8 : Int32) < a3 then
      some ((0 : Int32), s)
    else
      pm_bd (f_C_X5_length_1 s) (fun x2 t1 =>
      if (x2 + a3) ≤ (500 : Int32) then
        pm_let (a3 - (1 : Int32)) (fun x3 =>
        l_C_X10_put_0_33 n a1 x3 t1)
      else
        some ((0 : Int32), t1))
set_option maxRecDepth 100000 in
set_option maxHeartbeats 400000 in
theorem w_C_X10_put_0 (d : Nat) (n : Nat) (a1 : Int64) (a3 : Int32) (s s1 : hp_S) (x0 : Int32) (h : f_C_X10_put_0 n a1 a3 s = some (x0, s1)) : hp_is sh_C me_X10_put (d + 1) [.ref 0, .long a1, .int a3] s (some (.int x0)) s1 := by
  refine hp_ofF [(0, .ref 0), (1, .long a1), (3, .int a3)] (by decide +kernel) (Nat.le_of_ble_eq_true rfl) rfl ?_
  unfold f_C_X10_put_0 at h
  refine hq_iload_n (pm_d rk_X10_put 0 rfl) rfl 2 rfl ?_
  refine hq_iconst (v := (1 : Int32)) (pm_d rk_X10_put 1 rfl) (by decide) ?_
  refine hq_icmp_lt 26 (pm_d rk_X10_put 2 rfl) (by decide) (fun hc => ?_) (fun hc => ?_)
  · rw [if_pos hc] at h
    refine hq_iconst (v := (0 : Int32)) (pm_d rk_X10_put 13 rfl) (by decide) ?_
    exact hq_zret (pm_d rk_X10_put 14 rfl) rfl rfl h
  rw [if_neg hc] at h
  show hp_go _ _ _ _ _ 5 _ _ _
  refine hq_iload_n (pm_d rk_X10_put 3 rfl) rfl 2 rfl ?_
  refine hq_bipush (v := (8 : Int32)) (pm_d rk_X10_put 4 rfl) (by decide) ?_
  refine hq_icmp_gt 26 (pm_d rk_X10_put 5 rfl) (by decide) (fun hc => ?_) (fun hc => ?_)
  · rw [if_pos hc] at h
    refine hq_iconst (v := (0 : Int32)) (pm_d rk_X10_put 13 rfl) (by decide) ?_
    exact hq_zret (pm_d rk_X10_put 14 rfl) rfl rfl h
  rw [if_neg hc] at h
  refine hq_aload_n (pm_d rk_X10_put 6 rfl) rfl 0 rfl ?_
  show hp_go _ _ _ _ _ 12 _ _ _
  refine hq_getR (h := 1) 0 (pm_d rk_X10_put 7 rfl) fl_X10_10 rfl rfl ?_
  obtain ⟨x2, t1, hq, h⟩ := pm_bd_i h
  have hM := w_C_X5_length_1 (d := d + 0) (h := hq)
  refine hq_callVi (a := 1) (ci := 5) [] [] (pm_d rk_X10_put 8 rfl) ml_X10_99 iv_X5_length rfl rfl rfl rfl rfl (Nat.le_of_ble_eq_true rfl) hM ?_
  refine hq_iload_n (pm_d rk_X10_put 9 rfl) rfl 2 rfl ?_
  refine hq_iadd (pm_d rk_X10_put 10 rfl) ?_
  refine hq_sipush (v := (500 : Int32)) (pm_d rk_X10_put 11 rfl) (by decide) ?_
  refine hq_icmp_le 28 (pm_d rk_X10_put 12 rfl) (by decide) (fun hc => ?_) (fun hc => ?_)
  · rw [if_pos hc] at h
    show hp_go _ _ _ _ _ 28 _ _ _
    refine hq_iload_n (pm_d rk_X10_put 15 rfl) rfl 2 rfl ?_
    refine hq_iconst (v := (1 : Int32)) (pm_d rk_X10_put 16 rfl) (by decide) ?_
    refine hq_isub (pm_d rk_X10_put 17 rfl) ?_
    refine pm_nm (G := fun x3 => hp_go sh_C me_X10_put (d + 1) (some (.int x0)) s1 31 [(0, .ref 0), (1, .long a1), (3, .int a3)] [.int x3] t1) h (fun x3 h => ?_)
    refine hq_istore (L1 := [(4, .int x3), (0, .ref 0), (1, .long a1), (3, .int a3)]) (pm_d rk_X10_put 18 rfl) (by decide) rfl ?_
    refine hq_drop [1, 2, 0] rfl ?_
    exact wl_C_X10_put_0_33 d _ _   _ _ _ _ h
  rw [if_neg hc] at h
  refine hq_iconst (v := (0 : Int32)) (pm_d rk_X10_put 13 rfl) (by decide) ?_
  exact hq_zret (pm_d rk_X10_put 14 rfl) rfl rfl h
def f_C_X3_left_39  (s : hp_S) : Option (Int32 × hp_S) :=
  some (((hs_I s 39 1) - (hs_I s 39 2)), s)
set_option maxRecDepth 100000 in
set_option maxHeartbeats 400000 in
theorem w_C_X3_left_39 (d : Nat)  (s s1 : hp_S) (x0 : Int32) (h : f_C_X3_left_39 s = some (x0, s1)) : hp_is sh_C me_X3_left (d + 0) [.ref 39] s (some (.int x0)) s1 := by
  refine hp_ofF [(0, .ref 39)] (by decide +kernel) (Nat.le_of_ble_eq_true rfl) rfl ?_
  unfold f_C_X3_left_39 at h
  refine hq_aload_n (pm_d rk_X3_left 0 rfl) rfl 0 rfl ?_
  refine hq_getI 1 (pm_d rk_X3_left 1 rfl) fl_X3_15 rfl rfl ?_
  refine hq_aload_n (pm_d rk_X3_left 2 rfl) rfl 0 rfl ?_
  refine hq_getI 2 (pm_d rk_X3_left 3 rfl) fl_X3_19 rfl rfl ?_
  refine hq_isub (pm_d rk_X3_left 4 rfl) ?_
  show hp_go _ _ _ _ _ 9 _ _ _
  exact hq_iret (pm_d rk_X3_left 5 rfl) rfl h
def f_C_X10_count_0 (a1 : Int32) (s : hp_S) : Option (Int32 × hp_S) :=
  if a1 = (0 : Int32) then
    pm_bd (f_C_X5_length_1 s) (fun x2 t1 =>
    some (x2, t1))
  else
  if a1 = (1 : Int32) then
    some ((hs_I s 0 11), s)
  else
  if a1 = (2 : Int32) then
    some ((hs_I s 0 12), s)
  else
  if a1 = (3 : Int32) then
    some ((hs_I s 0 13), s)
  else
  if a1 = (4 : Int32) then
    pm_bd (f_C_X3_left_39 s) (fun x4 t3 =>
    some (x4, t3))
  else
    some ((-1 : Int32), s)
set_option maxRecDepth 100000 in
set_option maxHeartbeats 400000 in
theorem w_C_X10_count_0 (d : Nat) (a1 : Int32) (s s1 : hp_S) (x0 : Int32) (h : f_C_X10_count_0 a1 s = some (x0, s1)) : hp_is sh_C me_X10_count (d + 1) [.ref 0, .int a1] s (some (.int x0)) s1 := by
  refine hp_ofF [(0, .ref 0), (1, .int a1)] (by decide +kernel) (Nat.le_of_ble_eq_true rfl) rfl ?_
  unfold f_C_X10_count_0 at h
  refine hq_iload_n (pm_d rk_X10_count 0 rfl) rfl 1 rfl ?_
  by_cases hc0 : a1 = (0 : Int32)
  · rw [if_pos hc0] at h
    refine hq_tableIn 36 (pm_d rk_X10_count 1 rfl) (by rw [hc0]; decide) (by rw [hc0]; decide) (by rw [hc0] <;> rfl) (by decide) ?_
    refine hq_aload_n (pm_d rk_X10_count 2 rfl) rfl 0 rfl ?_
    refine hq_getR (h := 1) 0 (pm_d rk_X10_count 3 rfl) fl_X10_10 rfl rfl ?_
    obtain ⟨x2, t1, hq, h⟩ := pm_bd_i h
    have hM := w_C_X5_length_1 (d := d + 0) (h := hq)
    refine hq_callVi (a := 1) (ci := 5) [] [] (pm_d rk_X10_count 4 rfl) ml_X10_99 iv_X5_length rfl rfl rfl rfl rfl (Nat.le_of_ble_eq_true rfl) hM ?_
    show hp_go _ _ _ _ _ 43 _ _ _
    exact hq_iret (pm_d rk_X10_count 5 rfl) rfl h
  rw [if_neg hc0] at h
  by_cases hc1 : a1 = (1 : Int32)
  · rw [if_pos hc1] at h
    refine hq_tableIn 44 (pm_d rk_X10_count 1 rfl) (by rw [hc1]; decide) (by rw [hc1]; decide) (by rw [hc1] <;> rfl) (by decide) ?_
    refine hq_aload_n (pm_d rk_X10_count 6 rfl) rfl 0 rfl ?_
    refine hq_getI 11 (pm_d rk_X10_count 7 rfl) fl_X10_90 rfl rfl ?_
    exact hq_iret (pm_d rk_X10_count 8 rfl) rfl h
  rw [if_neg hc1] at h
  by_cases hc2 : a1 = (2 : Int32)
  · rw [if_pos hc2] at h
    refine hq_tableIn 49 (pm_d rk_X10_count 1 rfl) (by rw [hc2]; decide) (by rw [hc2]; decide) (by rw [hc2] <;> rfl) (by decide) ?_
    refine hq_aload_n (pm_d rk_X10_count 9 rfl) rfl 0 rfl ?_
    refine hq_getI 12 (pm_d rk_X10_count 10 rfl) fl_X10_93 rfl rfl ?_
    show hp_go _ _ _ _ _ 53 _ _ _
    exact hq_iret (pm_d rk_X10_count 11 rfl) rfl h
  rw [if_neg hc2] at h
  by_cases hc3 : a1 = (3 : Int32)
  · rw [if_pos hc3] at h
    refine hq_tableIn 54 (pm_d rk_X10_count 1 rfl) (by rw [hc3]; decide) (by rw [hc3]; decide) (by rw [hc3] <;> rfl) (by decide) ?_
    refine hq_aload_n (pm_d rk_X10_count 12 rfl) rfl 0 rfl ?_
    refine hq_getI 13 (pm_d rk_X10_count 13 rfl) fl_X10_96 rfl rfl ?_
    exact hq_iret (pm_d rk_X10_count 14 rfl) rfl h
  rw [if_neg hc3] at h
  by_cases hc4 : a1 = (4 : Int32)
  · rw [if_pos hc4] at h
    refine hq_tableIn 59 (pm_d rk_X10_count 1 rfl) (by rw [hc4]; decide) (by rw [hc4]; decide) (by rw [hc4] <;> rfl) (by decide) ?_
    refine hq_aload_n (pm_d rk_X10_count 15 rfl) rfl 0 rfl ?_
    refine hq_getR (h := 39) 7 (pm_d rk_X10_count 16 rfl) fl_X10_69 rfl rfl ?_
    show hp_go _ _ _ _ _ 63 _ _ _
    obtain ⟨x4, t3, hq, h⟩ := pm_bd_i h
    have hM := w_C_X3_left_39 (d := d + 0) (h := hq)
    refine hq_callVi (a := 39) (ci := 3) [] [] (pm_d rk_X10_count 17 rfl) ml_X10_123 iv_X3_left rfl rfl rfl rfl rfl (Nat.le_of_ble_eq_true rfl) hM ?_
    exact hq_iret (pm_d rk_X10_count 18 rfl) rfl h
  rw [if_neg hc4] at h
  refine hq_tableOut 67 (pm_d rk_X10_count 1 rfl) (by
      rcases tb_out (t := a1.toInt) (lo := 0) 5 (fun k hk => match k, hk with | 0, _ => tb_ne hc0 (by decide) | 1, _ => tb_ne hc1 (by decide) | 2, _ => tb_ne hc2 (by decide) | 3, _ => tb_ne hc3 (by decide) | 4, _ => tb_ne hc4 (by decide) | k + 5, hk => absurd hk (by omega)) with q | q
      · exact Or.inl q
      · exact Or.inr (by omega)) (by decide) ?_
  refine hq_iconst (v := (-1 : Int32)) (pm_d rk_X10_count 19 rfl) (by decide) ?_
  exact hq_iret (pm_d rk_X10_count 20 rfl) rfl h
def f_C_J9_min_7cf53 (a0 : Int32) (a1 : Int32) (s : hp_S) : Option (Int32 × hp_S) :=
  if a1 < a0 then
    some (a1, s)
  else
    some (a0, s)
set_option maxRecDepth 100000 in
set_option maxHeartbeats 400000 in
theorem w_C_J9_min_7cf53 (d : Nat) (a0 : Int32) (a1 : Int32) (s s1 : hp_S) (x0 : Int32) (h : f_C_J9_min_7cf53 a0 a1 s = some (x0, s1)) : hp_is sh_C me_J9_min_7cf53 (d + 0) [.int a0, .int a1] s (some (.int x0)) s1 := by
  refine hp_ofF [(0, .int a0), (1, .int a1)] (by decide +kernel) (Nat.le_of_ble_eq_true rfl) rfl ?_
  unfold f_C_J9_min_7cf53 at h
  refine hq_iload_n (pm_d rk_J9_min_7cf53 0 rfl) rfl 0 rfl ?_
  refine hq_iload_n (pm_d rk_J9_min_7cf53 1 rfl) rfl 1 rfl ?_
  refine hq_icmp_gt 9 (pm_d rk_J9_min_7cf53 2 rfl) (by decide) (fun hc => ?_) (fun hc => ?_)
  · rw [if_pos hc] at h
    refine hq_iload_n (pm_d rk_J9_min_7cf53 5 rfl) rfl 1 rfl ?_
    exact hq_iret (pm_d rk_J9_min_7cf53 6 rfl) rfl h
  rw [if_neg hc] at h
  show hp_go _ _ _ _ _ 5 _ _ _
  refine hq_iload_n (pm_d rk_J9_min_7cf53 3 rfl) rfl 0 rfl ?_
  refine hq_goto 10 (pm_d rk_J9_min_7cf53 4 rfl) (by decide) ?_
  exact hq_iret (pm_d rk_J9_min_7cf53 6 rfl) rfl h
def l_C_X3_take_39_16 : Nat → Int32 → Int64 → Int32 → hp_S → Option (Int64 × hp_S)
  | 0, _, _, _, _ => none
  | n + 1, y1, y2, y4, s =>
    if (7 : Int32) ≤ y4 then
      some (y2, s)
    else
      pm_let (fun (z44_1 : Int32) (z44_2 : Int64) (z44_4 : Int32) (z44_S0 : Int32) (s : hp_S) =>
        pm_let (fun (z72_1 : Int32) (z72_4 : Int32) (z72_5 : Int32) (z72_S0 : Int32) (z72_S1 : Int64) (s : hp_S) =>
          pm_let (z72_S1 ||| (z72_S0.toInt64)) (fun x6 =>
          pm_let (fun (z90_1 : Int32) (z90_2 : Int64) (z90_4 : Int32) (z90_S0 : Int32) (z90_S1 : Int32) (s : hp_S) =>
            pm_let (hs_pI s 39 2 (z90_S1 + z90_S0)) (fun t7 =>
            pm_let (z90_4 + (1 : Int32)) (fun x8 =>
            l_C_X3_take_39_16 n z90_1 z90_2 x8 t7))) (fun j90 =>
          if z72_5 = 0 then
            j90 z72_1 x6 z72_4 (0 : Int32) (hs_I s 39 2) s
          else
            j90 z72_1 x6 z72_4 (1 : Int32) (hs_I s 39 2) s))) (fun j72 =>
        if z44_S0 = 0 then
          j72 z44_1 z44_4 z44_S0 (0 : Int32) (z44_2 <<< ((8 : Int32).toInt64 &&& 63)) s
        else
          pm_gd1 (pm_ib (hs_I s 39 2) 4000) (
          j72 z44_1 z44_4 z44_S0 ((hs_A s 40 (hs_I s 39 2).toNatClampNeg) &&& (255 : Int32)) (z44_2 <<< ((8 : Int32).toInt64 &&& 63)) s))) (fun j44 =>
      pm_let (fun (z43_1 : Int32) (z43_2 : Int64) (z43_4 : Int32) (s : hp_S) =>
        j44 z43_1 z43_2 z43_4 (0 : Int32) s) (fun j43 =>
      if y1 ≤ y4 then
        j43 y1 y2 y4 s
      else
        if (4000 : Int32) ≤ (hs_I s 39 2) then
          j43 y1 y2 y4 s
        else
          j44 y1 y2 y4 (1 : Int32) s))
set_option maxRecDepth 100000 in
set_option maxHeartbeats 400000 in
theorem wl_C_X3_take_39_16 (d : Nat) (s1 : hp_S) (x0 : Int64)  : ∀ (n : Nat) (y1 : Int32) (y2 : Int64) (y4 : Int32) (s : hp_S), l_C_X3_take_39_16 n y1 y2 y4 s = some (x0, s1) → hp_go sh_C me_X3_take (d + 1) (some (.long x0)) s1 16 [(0, .ref 39), (1, .int y1), (2, .long y2), (4, .int y4)] [] s := by
  intro n
  induction n with
  | zero =>
    intro y1 y2 y4 s h
    cases h
  | succ n ih =>
    intro y1 y2 y4 s h
    rw [l_C_X3_take_39_16.eq_2] at h
    refine hq_iload (pm_d rk_X3_take 10 rfl) 3 rfl ?_
    show hp_go _ _ _ _ _ 18 _ _ _
    refine hq_bipush (v := (7 : Int32)) (pm_d rk_X3_take 11 rfl) (by decide) ?_
    refine hq_icmp_ge 100 (pm_d rk_X3_take 12 rfl) (by decide) (fun hc => ?_) (fun hc => ?_)
    · rw [if_pos hc] at h
      refine hq_lload_n (pm_d rk_X3_take 53 rfl) rfl 2 rfl ?_
      exact hq_lret (pm_d rk_X3_take 54 rfl) rfl h
    rw [if_neg hc] at h
    refine hq_iload (pm_d rk_X3_take 13 rfl) 3 rfl ?_
    refine hq_iload_n (pm_d rk_X3_take 14 rfl) rfl 1 rfl ?_
    refine pm_jn (P := fun j44 => ∀ (z44_1 : Int32) (z44_2 : Int64) (z44_4 : Int32) (z44_S0 : Int32) (s : hp_S), j44 z44_1 z44_2 z44_4 z44_S0 s = some (x0, s1) → hp_go sh_C me_X3_take (d + 1) (some (.long x0)) s1 44 [(0, .ref 39), (1, .int z44_1), (2, .long z44_2), (4, .int z44_4)] [.int z44_S0] s) h ?_ (fun j44 hj44 h => ?_)
    · intro z44_1 z44_2 z44_4 z44_S0 s h
      dsimp only at h
      show hp_go _ _ _ _ _ 44 _ _ _
      refine hq_istore (L1 := [(5, .int z44_S0), (0, .ref 39), (1, .int z44_1), (2, .long z44_2), (4, .int z44_4)]) (pm_d rk_X3_take 23 rfl) (by decide) rfl ?_
      refine hq_lload_n (pm_d rk_X3_take 24 rfl) rfl 3 rfl ?_
      refine hq_bipush (v := (8 : Int32)) (pm_d rk_X3_take 25 rfl) (by decide) ?_
      refine hq_lshl (pm_d rk_X3_take 26 rfl) ?_
      refine hq_iload (pm_d rk_X3_take 27 rfl) 0 rfl ?_
      refine pm_jn (P := fun j72 => ∀ (z72_1 : Int32) (z72_4 : Int32) (z72_5 : Int32) (z72_S0 : Int32) (z72_S1 : Int64) (s : hp_S), j72 z72_1 z72_4 z72_5 z72_S0 z72_S1 s = some (x0, s1) → hp_go sh_C me_X3_take (d + 1) (some (.long x0)) s1 72 [(0, .ref 39), (1, .int z72_1), (4, .int z72_4), (5, .int z72_5)] [.int z72_S0, .long z72_S1] s) h ?_ (fun j72 hj72 h => ?_)
      · intro z72_1 z72_4 z72_5 z72_S0 z72_S1 s h
        dsimp only at h
        refine hq_i2l (pm_d rk_X3_take 38 rfl) ?_
        show hp_go _ _ _ _ _ 73 _ _ _
        refine hq_lor (pm_d rk_X3_take 39 rfl) ?_
        refine pm_nm (G := fun x6 => hp_go sh_C me_X3_take (d + 1) (some (.long x0)) s1 74 [(0, .ref 39), (1, .int z72_1), (4, .int z72_4), (5, .int z72_5)] [.long x6] s) h (fun x6 h => ?_)
        refine hq_lstore_n (L1 := [(2, .long x6), (0, .ref 39), (1, .int z72_1), (4, .int z72_4), (5, .int z72_5)]) (pm_d rk_X3_take 40 rfl) rfl (by decide) rfl ?_
        refine hq_aload_n (pm_d rk_X3_take 41 rfl) rfl 1 rfl ?_
        refine hq_dup (pm_d rk_X3_take 42 rfl) rfl ?_
        refine hq_getI 2 (pm_d rk_X3_take 43 rfl) fl_X3_19 rfl rfl ?_
        refine hq_iload (pm_d rk_X3_take 44 rfl) 4 rfl ?_
        refine pm_jn (P := fun j90 => ∀ (z90_1 : Int32) (z90_2 : Int64) (z90_4 : Int32) (z90_S0 : Int32) (z90_S1 : Int32) (s : hp_S), j90 z90_1 z90_2 z90_4 z90_S0 z90_S1 s = some (x0, s1) → hp_go sh_C me_X3_take (d + 1) (some (.long x0)) s1 90 [(0, .ref 39), (1, .int z90_1), (2, .long z90_2), (4, .int z90_4)] [.int z90_S0, .int z90_S1, .ref 39] s) h ?_ (fun j90 hj90 h => ?_)
        · intro z90_1 z90_2 z90_4 z90_S0 z90_S1 s h
          dsimp only at h
          show hp_go _ _ _ _ _ 90 _ _ _
          refine hq_iadd (pm_d rk_X3_take 49 rfl) ?_
          refine hq_putI 2 (pm_d rk_X3_take 50 rfl) fl_X3_19 rfl rfl ?_
          refine pm_nm (G := fun t7 => hp_go sh_C me_X3_take (d + 1) (some (.long x0)) s1 94 [(0, .ref 39), (1, .int z90_1), (2, .long z90_2), (4, .int z90_4)] [] t7) h (fun t7 h => ?_)
          refine hq_iinc (v := z90_4 + (1 : Int32)) (L1 := [(4, .int (z90_4 + (1 : Int32))), (0, .ref 39), (1, .int z90_1), (2, .long z90_2)]) (pm_d rk_X3_take 51 rfl) 3 rfl (by rw [show Int32.ofInt (1) = (1 : Int32) by decide]) (by decide) rfl ?_
          refine pm_nm (G := fun x8 => hp_go sh_C me_X3_take (d + 1) (some (.long x0)) s1 97 [(4, .int x8), (0, .ref 39), (1, .int z90_1), (2, .long z90_2)] [] t7) h (fun x8 h => ?_)
          refine hq_goto 16 (pm_d rk_X3_take 52 rfl) (by decide) ?_
          refine hq_drop [1, 2, 3, 0] rfl ?_
          exact ih _ _ _ _ h
        refine hq_if_eq 89 (pm_d rk_X3_take 45 rfl) (by decide) (fun hc => ?_) (fun hc => ?_)
        · rw [if_pos hc] at h
          refine hq_iconst (v := (0 : Int32)) (pm_d rk_X3_take 48 rfl) (by decide) ?_
          refine hq_drop [1, 2, 0, 3] rfl ?_
          exact hj90 _ _ _ _ _ _ h
        rw [if_neg hc] at h
        show hp_go _ _ _ _ _ 85 _ _ _
        refine hq_iconst (v := (1 : Int32)) (pm_d rk_X3_take 46 rfl) (by decide) ?_
        refine hq_goto 90 (pm_d rk_X3_take 47 rfl) (by decide) ?_
        refine hq_drop [1, 2, 0, 3] rfl ?_
        exact hj90 _ _ _ _ _ _ h
      refine hq_if_eq 71 (pm_d rk_X3_take 28 rfl) (by decide) (fun hc => ?_) (fun hc => ?_)
      · rw [if_pos hc] at h
        refine hq_iconst (v := (0 : Int32)) (pm_d rk_X3_take 37 rfl) (by decide) ?_
        refine hq_drop [1, 2, 4, 0] rfl ?_
        exact hj72 _ _ _ _ _ _ h
      rw [if_neg hc] at h
      refine hq_aload_n (pm_d rk_X3_take 29 rfl) rfl 1 rfl ?_
      refine hq_getR (h := 40) 0 (pm_d rk_X3_take 30 rfl) fl_X3_9 rfl rfl ?_
      show hp_go _ _ _ _ _ 59 _ _ _
      refine hq_aload_n (pm_d rk_X3_take 31 rfl) rfl 1 rfl ?_
      refine hq_getI 2 (pm_d rk_X3_take 32 rfl) fl_X3_19 rfl rfl ?_
      obtain ⟨hg, h⟩ := pm_gd_i h
      refine hq_baload (pm_d rk_X3_take 33 rfl) rfl hg ?_
      refine hq_sipush (v := (255 : Int32)) (pm_d rk_X3_take 34 rfl) (by decide) ?_
      refine hq_iand (pm_d rk_X3_take 35 rfl) ?_
      refine hq_goto 72 (pm_d rk_X3_take 36 rfl) (by decide) ?_
      refine hq_drop [1, 2, 4, 0] rfl ?_
      exact hj72 _ _ _ _ _ _ h
    refine pm_jn (P := fun j43 => ∀ (z43_1 : Int32) (z43_2 : Int64) (z43_4 : Int32) (s : hp_S), j43 z43_1 z43_2 z43_4 s = some (x0, s1) → hp_go sh_C me_X3_take (d + 1) (some (.long x0)) s1 43 [(0, .ref 39), (1, .int z43_1), (2, .long z43_2), (4, .int z43_4)] [] s) h ?_ (fun j43 hj43 h => ?_)
    · intro z43_1 z43_2 z43_4 s h
      dsimp only at h
      show hp_go _ _ _ _ _ 43 _ _ _
      refine hq_iconst (v := (0 : Int32)) (pm_d rk_X3_take 22 rfl) (by decide) ?_
      refine hq_drop [0, 1, 2, 3] rfl ?_
      exact hj44 _ _ _ _ _ h
    refine hq_icmp_ge 43 (pm_d rk_X3_take 15 rfl) (by decide) (fun hc => ?_) (fun hc => ?_)
    · rw [if_pos hc] at h
      refine hq_drop [0, 1, 2, 3] rfl ?_
      exact hj43 _ _ _ _ h
    rw [if_neg hc] at h
    refine hq_aload_n (pm_d rk_X3_take 16 rfl) rfl 0 rfl ?_
    refine hq_getI 2 (pm_d rk_X3_take 17 rfl) fl_X3_19 rfl rfl ?_
    refine hq_sipush (v := (4000 : Int32)) (pm_d rk_X3_take 18 rfl) (by decide) ?_
    refine hq_icmp_ge 43 (pm_d rk_X3_take 19 rfl) (by decide) (fun hc => ?_) (fun hc => ?_)
    · rw [if_pos hc] at h
      refine hq_drop [0, 1, 2, 3] rfl ?_
      exact hj43 _ _ _ _ h
    rw [if_neg hc] at h
    show hp_go _ _ _ _ _ 39 _ _ _
    refine hq_iconst (v := (1 : Int32)) (pm_d rk_X3_take 20 rfl) (by decide) ?_
    refine hq_goto 44 (pm_d rk_X3_take 21 rfl) (by decide) ?_
    refine hq_drop [0, 1, 2, 3] rfl ?_
    exact hj44 _ _ _ _ _ h
def f_C_X3_take_39 (n : Nat) (s : hp_S) : Option (Int64 × hp_S) :=
  pm_bd (f_C_X3_left_39 s) (fun x2 t1 =>
  pm_bd (f_C_J9_min_7cf53 x2 (7 : Int32) t1) (fun x4 t3 =>
  pm_let (x4.toInt64) (fun x5 =>
  l_C_X3_take_39_16 n x4 x5 (0 : Int32) t3)))
set_option maxRecDepth 100000 in
set_option maxHeartbeats 400000 in
theorem w_C_X3_take_39 (d : Nat) (n : Nat) (s s1 : hp_S) (x0 : Int64) (h : f_C_X3_take_39 n s = some (x0, s1)) : hp_is sh_C me_X3_take (d + 1) [.ref 39] s (some (.long x0)) s1 := by
  refine hp_ofF [(0, .ref 39)] (by decide +kernel) (Nat.le_of_ble_eq_true rfl) rfl ?_
  unfold f_C_X3_take_39 at h
  refine hq_aload_n (pm_d rk_X3_take 0 rfl) rfl 0 rfl ?_
  obtain ⟨x2, t1, hq, h⟩ := pm_bd_i h
  have hM := w_C_X3_left_39 (d := d + 0) (h := hq)
  refine hq_callVi (a := 39) (ci := 3) [] [] (pm_d rk_X3_take 1 rfl) ml_X3_40 iv_X3_left rfl rfl rfl rfl rfl (Nat.le_of_ble_eq_true rfl) hM ?_
  refine hq_bipush (v := (7 : Int32)) (pm_d rk_X3_take 2 rfl) (by decide) ?_
  obtain ⟨x4, t3, hq, h⟩ := pm_bd_i h
  have hM := w_C_J9_min_7cf53 (d := d + 0) (h := hq)
  refine hq_callSi [.int x2, .int (7 : Int32)] [] (pm_d rk_X3_take 3 rfl) ml_X3_43 iv_J9_min_7cf53 rfl rfl (Nat.le_of_ble_eq_true rfl) hM ?_
  refine hq_istore_n (L1 := [(1, .int x4), (0, .ref 39)]) (pm_d rk_X3_take 4 rfl) rfl (by decide) rfl ?_
  show hp_go _ _ _ _ _ 10 _ _ _
  refine hq_iload_n (pm_d rk_X3_take 5 rfl) rfl 0 rfl ?_
  refine hq_i2l (pm_d rk_X3_take 6 rfl) ?_
  refine pm_nm (G := fun x5 => hp_go sh_C me_X3_take (d + 1) (some (.long x0)) s1 12 [(1, .int x4), (0, .ref 39)] [.long x5] t3) h (fun x5 h => ?_)
  refine hq_lstore_n (L1 := [(2, .long x5), (1, .int x4), (0, .ref 39)]) (pm_d rk_X3_take 7 rfl) rfl (by decide) rfl ?_
  refine hq_iconst (v := (0 : Int32)) (pm_d rk_X3_take 8 rfl) (by decide) ?_
  refine hq_istore (L1 := [(4, .int (0 : Int32)), (2, .long x5), (1, .int x4), (0, .ref 39)]) (pm_d rk_X3_take 9 rfl) (by decide) rfl ?_
  refine hq_drop [3, 2, 1, 0] rfl ?_
  exact wl_C_X3_take_39_16 d _ _   _ _ _ _ _ h
def f_C_X10_fetch_0 (n : Nat) (s : hp_S) : Option (Int64 × hp_S) :=
  pm_bd (f_C_X3_take_39 n s) (fun x2 t1 =>
  some (x2, t1))
set_option maxRecDepth 100000 in
set_option maxHeartbeats 400000 in
theorem w_C_X10_fetch_0 (d : Nat) (n : Nat) (s s1 : hp_S) (x0 : Int64) (h : f_C_X10_fetch_0 n s = some (x0, s1)) : hp_is sh_C me_X10_fetch (d + 2) [.ref 0] s (some (.long x0)) s1 := by
  refine hp_ofF [(0, .ref 0)] (by decide +kernel) (Nat.le_of_ble_eq_true rfl) rfl ?_
  unfold f_C_X10_fetch_0 at h
  refine hq_aload_n (pm_d rk_X10_fetch 0 rfl) rfl 0 rfl ?_
  refine hq_getR (h := 39) 7 (pm_d rk_X10_fetch 1 rfl) fl_X10_69 rfl rfl ?_
  obtain ⟨x2, t1, hq, h⟩ := pm_bd_i h
  have hM := w_C_X3_take_39 (d := d + 0) (h := hq)
  refine hq_callVl (a := 39) (ci := 3) [] [] (pm_d rk_X10_fetch 2 rfl) ml_X10_119 iv_X3_take rfl rfl rfl rfl rfl (Nat.le_of_ble_eq_true rfl) hM ?_
  exact hq_lret (pm_d rk_X10_fetch 3 rfl) rfl h
def f_C_X5_at_1 (a1 : Int32) (s : hp_S) : Option (Int32 × hp_S) :=
  if a1 < 0 then
    some ((-1 : Int32), s)
  else
    if (hs_I s 1 1) ≤ a1 then
      some ((-1 : Int32), s)
    else
      if (500 : Int32) ≤ a1 then
        some ((-1 : Int32), s)
      else
        pm_gd1 (pm_ib a1 500) (
        some (((hs_A s 2 a1.toNatClampNeg) &&& (255 : Int32)), s))
set_option maxRecDepth 100000 in
set_option maxHeartbeats 400000 in
theorem w_C_X5_at_1 (d : Nat) (a1 : Int32) (s s1 : hp_S) (x0 : Int32) (h : f_C_X5_at_1 a1 s = some (x0, s1)) : hp_is sh_C me_X5_at (d + 0) [.ref 1, .int a1] s (some (.int x0)) s1 := by
  refine hp_ofF [(0, .ref 1), (1, .int a1)] (by decide +kernel) (Nat.le_of_ble_eq_true rfl) rfl ?_
  unfold f_C_X5_at_1 at h
  refine hq_iload_n (pm_d rk_X5_at 0 rfl) rfl 1 rfl ?_
  refine hq_if_lt 32 (pm_d rk_X5_at 1 rfl) (by decide) (fun hc => ?_) (fun hc => ?_)
  · rw [if_pos hc] at h
    refine hq_iconst (v := (-1 : Int32)) (pm_d rk_X5_at 16 rfl) (by decide) ?_
    exact hq_iret (pm_d rk_X5_at 17 rfl) rfl h
  rw [if_neg hc] at h
  refine hq_iload_n (pm_d rk_X5_at 2 rfl) rfl 1 rfl ?_
  show hp_go _ _ _ _ _ 5 _ _ _
  refine hq_aload_n (pm_d rk_X5_at 3 rfl) rfl 0 rfl ?_
  refine hq_getI 1 (pm_d rk_X5_at 4 rfl) fl_X5_15 rfl rfl ?_
  refine hq_icmp_ge 32 (pm_d rk_X5_at 5 rfl) (by decide) (fun hc => ?_) (fun hc => ?_)
  · rw [if_pos hc] at h
    refine hq_iconst (v := (-1 : Int32)) (pm_d rk_X5_at 16 rfl) (by decide) ?_
    exact hq_iret (pm_d rk_X5_at 17 rfl) rfl h
  rw [if_neg hc] at h
  refine hq_iload_n (pm_d rk_X5_at 6 rfl) rfl 1 rfl ?_
  show hp_go _ _ _ _ _ 13 _ _ _
  refine hq_sipush (v := (500 : Int32)) (pm_d rk_X5_at 7 rfl) (by decide) ?_
  refine hq_icmp_ge 32 (pm_d rk_X5_at 8 rfl) (by decide) (fun hc => ?_) (fun hc => ?_)
  · rw [if_pos hc] at h
    refine hq_iconst (v := (-1 : Int32)) (pm_d rk_X5_at 16 rfl) (by decide) ?_
    exact hq_iret (pm_d rk_X5_at 17 rfl) rfl h
  rw [if_neg hc] at h
  refine hq_aload_n (pm_d rk_X5_at 9 rfl) rfl 0 rfl ?_
  refine hq_getR (h := 2) 0 (pm_d rk_X5_at 10 rfl) fl_X5_9 rfl rfl ?_
  show hp_go _ _ _ _ _ 23 _ _ _
  refine hq_iload_n (pm_d rk_X5_at 11 rfl) rfl 1 rfl ?_
  obtain ⟨hg, h⟩ := pm_gd_i h
  refine hq_baload (pm_d rk_X5_at 12 rfl) rfl hg ?_
  refine hq_sipush (v := (255 : Int32)) (pm_d rk_X5_at 13 rfl) (by decide) ?_
  refine hq_iand (pm_d rk_X5_at 14 rfl) ?_
  refine hq_goto 33 (pm_d rk_X5_at 15 rfl) (by decide) ?_
  exact hq_iret (pm_d rk_X5_at 17 rfl) rfl h
def f_C_X5_isBlank_1 (a1 : Int32) (s : hp_S) : Option (Int32 × hp_S) :=
  pm_bd (f_C_X5_at_1 a1 s) (fun x2 t1 =>
  if x2 = (10 : Int32) then
    some ((1 : Int32), t1)
  else
    pm_bd (f_C_X5_at_1 a1 t1) (fun x4 t3 =>
    if x4 = (32 : Int32) then
      some ((1 : Int32), t3)
    else
      some ((0 : Int32), t3)))
set_option maxRecDepth 100000 in
set_option maxHeartbeats 400000 in
theorem w_C_X5_isBlank_1 (d : Nat) (a1 : Int32) (s s1 : hp_S) (x0 : Int32) (h : f_C_X5_isBlank_1 a1 s = some (x0, s1)) : hp_is sh_C me_X5_isBlank (d + 1) [.ref 1, .int a1] s (some (.int x0)) s1 := by
  refine hp_ofF [(0, .ref 1), (1, .int a1)] (by decide +kernel) (Nat.le_of_ble_eq_true rfl) rfl ?_
  unfold f_C_X5_isBlank_1 at h
  refine hq_aload_n (pm_d rk_X5_isBlank 0 rfl) rfl 0 rfl ?_
  refine hq_iload_n (pm_d rk_X5_isBlank 1 rfl) rfl 1 rfl ?_
  obtain ⟨x2, t1, hq, h⟩ := pm_bd_i h
  have hM := w_C_X5_at_1 (d := d + 0) (h := hq)
  refine hq_callVi (a := 1) (ci := 5) [.int a1] [] (pm_d rk_X5_isBlank 2 rfl) ml_X5_19 iv_X5_at rfl rfl rfl rfl rfl (Nat.le_of_ble_eq_true rfl) hM ?_
  refine hq_bipush (v := (10 : Int32)) (pm_d rk_X5_isBlank 3 rfl) (by decide) ?_
  refine hq_icmp_eq 20 (pm_d rk_X5_isBlank 4 rfl) (by decide) (fun hc => ?_) (fun hc => ?_)
  · rw [if_pos hc] at h
    show hp_go _ _ _ _ _ 20 _ _ _
    refine hq_iconst (v := (1 : Int32)) (pm_d rk_X5_isBlank 10 rfl) (by decide) ?_
    refine hq_goto 25 (pm_d rk_X5_isBlank 11 rfl) (by decide) ?_
    exact hq_zret (pm_d rk_X5_isBlank 13 rfl) rfl rfl h
  rw [if_neg hc] at h
  refine hq_aload_n (pm_d rk_X5_isBlank 5 rfl) rfl 0 rfl ?_
  refine hq_iload_n (pm_d rk_X5_isBlank 6 rfl) rfl 1 rfl ?_
  obtain ⟨x4, t3, hq, h⟩ := pm_bd_i h
  have hM := w_C_X5_at_1 (d := d + 0) (h := hq)
  refine hq_callVi (a := 1) (ci := 5) [.int a1] [] (pm_d rk_X5_isBlank 7 rfl) ml_X5_19 iv_X5_at rfl rfl rfl rfl rfl (Nat.le_of_ble_eq_true rfl) hM ?_
  show hp_go _ _ _ _ _ 15 _ _ _
  refine hq_bipush (v := (32 : Int32)) (pm_d rk_X5_isBlank 8 rfl) (by decide) ?_
  refine hq_icmp_ne 24 (pm_d rk_X5_isBlank 9 rfl) (by decide) (fun hc => ?_) (fun hc => ?_)
  · rw [if_neg hc] at h
    refine hq_iconst (v := (0 : Int32)) (pm_d rk_X5_isBlank 12 rfl) (by decide) ?_
    exact hq_zret (pm_d rk_X5_isBlank 13 rfl) rfl rfl h
  rw [if_pos hc] at h
  refine hq_iconst (v := (1 : Int32)) (pm_d rk_X5_isBlank 10 rfl) (by decide) ?_
  refine hq_goto 25 (pm_d rk_X5_isBlank 11 rfl) (by decide) ?_
  show hp_go _ _ _ _ _ 25 _ _ _
  exact hq_zret (pm_d rk_X5_isBlank 13 rfl) rfl rfl h
def f_C_X5_isLetter_1 (a1 : Int32) (s : hp_S) : Option (Int32 × hp_S) :=
  pm_bd (f_C_X5_at_1 a1 s) (fun x2 t1 =>
  if x2 < (97 : Int32) then
    some ((0 : Int32), t1)
  else
    pm_bd (f_C_X5_at_1 a1 t1) (fun x4 t3 =>
    if (122 : Int32) < x4 then
      some ((0 : Int32), t3)
    else
      some ((1 : Int32), t3)))
set_option maxRecDepth 100000 in
set_option maxHeartbeats 400000 in
theorem w_C_X5_isLetter_1 (d : Nat) (a1 : Int32) (s s1 : hp_S) (x0 : Int32) (h : f_C_X5_isLetter_1 a1 s = some (x0, s1)) : hp_is sh_C me_X5_isLetter (d + 1) [.ref 1, .int a1] s (some (.int x0)) s1 := by
  refine hp_ofF [(0, .ref 1), (1, .int a1)] (by decide +kernel) (Nat.le_of_ble_eq_true rfl) rfl ?_
  unfold f_C_X5_isLetter_1 at h
  refine hq_aload_n (pm_d rk_X5_isLetter 0 rfl) rfl 0 rfl ?_
  refine hq_iload_n (pm_d rk_X5_isLetter 1 rfl) rfl 1 rfl ?_
  obtain ⟨x2, t1, hq, h⟩ := pm_bd_i h
  have hM := w_C_X5_at_1 (d := d + 0) (h := hq)
  refine hq_callVi (a := 1) (ci := 5) [.int a1] [] (pm_d rk_X5_isLetter 2 rfl) ml_X5_19 iv_X5_at rfl rfl rfl rfl rfl (Nat.le_of_ble_eq_true rfl) hM ?_
  refine hq_bipush (v := (97 : Int32)) (pm_d rk_X5_isLetter 3 rfl) (by decide) ?_
  refine hq_icmp_lt 24 (pm_d rk_X5_isLetter 4 rfl) (by decide) (fun hc => ?_) (fun hc => ?_)
  · rw [if_pos hc] at h
    show hp_go _ _ _ _ _ 24 _ _ _
    refine hq_iconst (v := (0 : Int32)) (pm_d rk_X5_isLetter 12 rfl) (by decide) ?_
    exact hq_zret (pm_d rk_X5_isLetter 13 rfl) rfl rfl h
  rw [if_neg hc] at h
  refine hq_aload_n (pm_d rk_X5_isLetter 5 rfl) rfl 0 rfl ?_
  refine hq_iload_n (pm_d rk_X5_isLetter 6 rfl) rfl 1 rfl ?_
  obtain ⟨x4, t3, hq, h⟩ := pm_bd_i h
  have hM := w_C_X5_at_1 (d := d + 0) (h := hq)
  refine hq_callVi (a := 1) (ci := 5) [.int a1] [] (pm_d rk_X5_isLetter 7 rfl) ml_X5_19 iv_X5_at rfl rfl rfl rfl rfl (Nat.le_of_ble_eq_true rfl) hM ?_
  refine hq_bipush (v := (122 : Int32)) (pm_d rk_X5_isLetter 8 rfl) (by decide) ?_
  show hp_go _ _ _ _ _ 17 _ _ _
  refine hq_icmp_gt 24 (pm_d rk_X5_isLetter 9 rfl) (by decide) (fun hc => ?_) (fun hc => ?_)
  · rw [if_pos hc] at h
    refine hq_iconst (v := (0 : Int32)) (pm_d rk_X5_isLetter 12 rfl) (by decide) ?_
    exact hq_zret (pm_d rk_X5_isLetter 13 rfl) rfl rfl h
  rw [if_neg hc] at h
  refine hq_iconst (v := (1 : Int32)) (pm_d rk_X5_isLetter 10 rfl) (by decide) ?_
  refine hq_goto 25 (pm_d rk_X5_isLetter 11 rfl) (by decide) ?_
  exact hq_zret (pm_d rk_X5_isLetter 13 rfl) rfl rfl h
def f_C_X5_isDigit_1 (a1 : Int32) (s : hp_S) : Option (Int32 × hp_S) :=
  pm_bd (f_C_X5_at_1 a1 s) (fun x2 t1 =>
  if x2 < (48 : Int32) then
    some ((0 : Int32), t1)
  else
    pm_bd (f_C_X5_at_1 a1 t1) (fun x4 t3 =>
    if (57 : Int32) < x4 then
      some ((0 : Int32), t3)
    else
      some ((1 : Int32), t3)))
set_option maxRecDepth 100000 in
set_option maxHeartbeats 400000 in
theorem w_C_X5_isDigit_1 (d : Nat) (a1 : Int32) (s s1 : hp_S) (x0 : Int32) (h : f_C_X5_isDigit_1 a1 s = some (x0, s1)) : hp_is sh_C me_X5_isDigit (d + 1) [.ref 1, .int a1] s (some (.int x0)) s1 := by
  refine hp_ofF [(0, .ref 1), (1, .int a1)] (by decide +kernel) (Nat.le_of_ble_eq_true rfl) rfl ?_
  unfold f_C_X5_isDigit_1 at h
  refine hq_aload_n (pm_d rk_X5_isDigit 0 rfl) rfl 0 rfl ?_
  refine hq_iload_n (pm_d rk_X5_isDigit 1 rfl) rfl 1 rfl ?_
  obtain ⟨x2, t1, hq, h⟩ := pm_bd_i h
  have hM := w_C_X5_at_1 (d := d + 0) (h := hq)
  refine hq_callVi (a := 1) (ci := 5) [.int a1] [] (pm_d rk_X5_isDigit 2 rfl) ml_X5_19 iv_X5_at rfl rfl rfl rfl rfl (Nat.le_of_ble_eq_true rfl) hM ?_
  refine hq_bipush (v := (48 : Int32)) (pm_d rk_X5_isDigit 3 rfl) (by decide) ?_
  refine hq_icmp_lt 24 (pm_d rk_X5_isDigit 4 rfl) (by decide) (fun hc => ?_) (fun hc => ?_)
  · rw [if_pos hc] at h
    show hp_go _ _ _ _ _ 24 _ _ _
    refine hq_iconst (v := (0 : Int32)) (pm_d rk_X5_isDigit 12 rfl) (by decide) ?_
    exact hq_zret (pm_d rk_X5_isDigit 13 rfl) rfl rfl h
  rw [if_neg hc] at h
  refine hq_aload_n (pm_d rk_X5_isDigit 5 rfl) rfl 0 rfl ?_
  refine hq_iload_n (pm_d rk_X5_isDigit 6 rfl) rfl 1 rfl ?_
  obtain ⟨x4, t3, hq, h⟩ := pm_bd_i h
  have hM := w_C_X5_at_1 (d := d + 0) (h := hq)
  refine hq_callVi (a := 1) (ci := 5) [.int a1] [] (pm_d rk_X5_isDigit 7 rfl) ml_X5_19 iv_X5_at rfl rfl rfl rfl rfl (Nat.le_of_ble_eq_true rfl) hM ?_
  refine hq_bipush (v := (57 : Int32)) (pm_d rk_X5_isDigit 8 rfl) (by decide) ?_
  show hp_go _ _ _ _ _ 17 _ _ _
  refine hq_icmp_gt 24 (pm_d rk_X5_isDigit 9 rfl) (by decide) (fun hc => ?_) (fun hc => ?_)
  · rw [if_pos hc] at h
    refine hq_iconst (v := (0 : Int32)) (pm_d rk_X5_isDigit 12 rfl) (by decide) ?_
    exact hq_zret (pm_d rk_X5_isDigit 13 rfl) rfl rfl h
  rw [if_neg hc] at h
  refine hq_iconst (v := (1 : Int32)) (pm_d rk_X5_isDigit 10 rfl) (by decide) ?_
  refine hq_goto 25 (pm_d rk_X5_isDigit 11 rfl) (by decide) ?_
  exact hq_zret (pm_d rk_X5_isDigit 13 rfl) rfl rfl h
def f_C_X5_isLetterOrDigit_1 (a1 : Int32) (s : hp_S) : Option (Int32 × hp_S) :=
  pm_bd (f_C_X5_isLetter_1 a1 s) (fun x2 t1 =>
  if x2 = 0 then
    pm_bd (f_C_X5_isDigit_1 a1 t1) (fun x4 t3 =>
    if x4 = 0 then
      some ((0 : Int32), t3)
    else
      some ((1 : Int32), t3))
  else
    some ((1 : Int32), t1))
set_option maxRecDepth 100000 in
set_option maxHeartbeats 400000 in
theorem w_C_X5_isLetterOrDigit_1 (d : Nat) (a1 : Int32) (s s1 : hp_S) (x0 : Int32) (h : f_C_X5_isLetterOrDigit_1 a1 s = some (x0, s1)) : hp_is sh_C me_X5_isLetterOrDigit (d + 2) [.ref 1, .int a1] s (some (.int x0)) s1 := by
  refine hp_ofF [(0, .ref 1), (1, .int a1)] (by decide +kernel) (Nat.le_of_ble_eq_true rfl) rfl ?_
  unfold f_C_X5_isLetterOrDigit_1 at h
  refine hq_aload_n (pm_d rk_X5_isLetterOrDigit 0 rfl) rfl 0 rfl ?_
  refine hq_iload_n (pm_d rk_X5_isLetterOrDigit 1 rfl) rfl 1 rfl ?_
  obtain ⟨x2, t1, hq, h⟩ := pm_bd_i h
  have hM := w_C_X5_isLetter_1 (d := d + 0) (h := hq)
  refine hq_callVi (a := 1) (ci := 5) [.int a1] [] (pm_d rk_X5_isLetterOrDigit 2 rfl) ml_X5_23 iv_X5_isLetter rfl rfl rfl rfl rfl (Nat.le_of_ble_eq_true rfl) hM ?_
  refine hq_if_ne 16 (pm_d rk_X5_isLetterOrDigit 3 rfl) (by decide) (fun hc => ?_) (fun hc => ?_)
  · rw [if_neg hc] at h
    refine hq_iconst (v := (1 : Int32)) (pm_d rk_X5_isLetterOrDigit 8 rfl) (by decide) ?_
    show hp_go _ _ _ _ _ 17 _ _ _
    refine hq_goto 21 (pm_d rk_X5_isLetterOrDigit 9 rfl) (by decide) ?_
    exact hq_zret (pm_d rk_X5_isLetterOrDigit 11 rfl) rfl rfl h
  rw [if_pos hc] at h
  refine hq_aload_n (pm_d rk_X5_isLetterOrDigit 4 rfl) rfl 0 rfl ?_
  refine hq_iload_n (pm_d rk_X5_isLetterOrDigit 5 rfl) rfl 1 rfl ?_
  obtain ⟨x4, t3, hq, h⟩ := pm_bd_i h
  have hM := w_C_X5_isDigit_1 (d := d + 0) (h := hq)
  refine hq_callVi (a := 1) (ci := 5) [.int a1] [] (pm_d rk_X5_isLetterOrDigit 6 rfl) ml_X5_27 iv_X5_isDigit rfl rfl rfl rfl rfl (Nat.le_of_ble_eq_true rfl) hM ?_
  refine hq_if_eq 20 (pm_d rk_X5_isLetterOrDigit 7 rfl) (by decide) (fun hc => ?_) (fun hc => ?_)
  · rw [if_pos hc] at h
    show hp_go _ _ _ _ _ 20 _ _ _
    refine hq_iconst (v := (0 : Int32)) (pm_d rk_X5_isLetterOrDigit 10 rfl) (by decide) ?_
    exact hq_zret (pm_d rk_X5_isLetterOrDigit 11 rfl) rfl rfl h
  rw [if_neg hc] at h
  refine hq_iconst (v := (1 : Int32)) (pm_d rk_X5_isLetterOrDigit 8 rfl) (by decide) ?_
  refine hq_goto 21 (pm_d rk_X5_isLetterOrDigit 9 rfl) (by decide) ?_
  exact hq_zret (pm_d rk_X5_isLetterOrDigit 11 rfl) rfl rfl h
def l_C_X6_endFrom_3_53 : Nat → Int32 → hp_S → Option (Int32 × hp_S)
  | 0, _, _ => none
  | n + 1, y2, s =>
    pm_bd (f_C_X5_length_1 s) (fun x5 t4 =>
    if x5 ≤ y2 then
      some (y2, t4)
    else
      pm_bd (f_C_X5_isLetterOrDigit_1 y2 t4) (fun x7 t6 =>
      if x7 = 0 then
        some (y2, t6)
      else
        pm_let (y2 + (1 : Int32)) (fun x8 =>
        l_C_X6_endFrom_3_53 n x8 t6)))
set_option maxRecDepth 100000 in
set_option maxHeartbeats 400000 in
theorem wl_C_X6_endFrom_3_53 (d : Nat) (s1 : hp_S) (x0 : Int32)  : ∀ (n : Nat) (y2 : Int32) (s : hp_S), l_C_X6_endFrom_3_53 n y2 s = some (x0, s1) → hp_go sh_C me_X6_endFrom (d + 3) (some (.int x0)) s1 53 [(0, .ref 3), (2, .int y2)] [] s := by
  intro n
  induction n with
  | zero =>
    intro y2 s h
    cases h
  | succ n ih =>
    intro y2 s h
    rw [l_C_X6_endFrom_3_53.eq_2] at h
    refine hq_iload_n (pm_d rk_X6_endFrom 31 rfl) rfl 1 rfl ?_
    refine hq_aload_n (pm_d rk_X6_endFrom 32 rfl) rfl 0 rfl ?_
    show hp_go _ _ _ _ _ 55 _ _ _
    refine hq_getR (h := 1) 0 (pm_d rk_X6_endFrom 33 rfl) fl_X6_25 rfl rfl ?_
    obtain ⟨x5, t4, hq, h⟩ := pm_bd_i h
    have hM := w_C_X5_length_1 (d := d + 2) (h := hq)
    refine hq_callVi (a := 1) (ci := 5) [] [.int y2] (pm_d rk_X6_endFrom 34 rfl) ml_X6_29 iv_X5_length rfl rfl rfl rfl rfl (Nat.le_of_ble_eq_true rfl) hM ?_
    refine hq_icmp_ge 81 (pm_d rk_X6_endFrom 35 rfl) (by decide) (fun hc => ?_) (fun hc => ?_)
    · rw [if_pos hc] at h
      refine hq_iload_n (pm_d rk_X6_endFrom 43 rfl) rfl 1 rfl ?_
      exact hq_iret (pm_d rk_X6_endFrom 44 rfl) rfl h
    rw [if_neg hc] at h
    refine hq_aload_n (pm_d rk_X6_endFrom 36 rfl) rfl 0 rfl ?_
    show hp_go _ _ _ _ _ 65 _ _ _
    refine hq_getR (h := 1) 0 (pm_d rk_X6_endFrom 37 rfl) fl_X6_25 rfl rfl ?_
    refine hq_iload_n (pm_d rk_X6_endFrom 38 rfl) rfl 1 rfl ?_
    obtain ⟨x7, t6, hq, h⟩ := pm_bd_i h
    have hM := w_C_X5_isLetterOrDigit_1 (d := d + 0) (h := hq)
    refine hq_callVi (a := 1) (ci := 5) [.int y2] [] (pm_d rk_X6_endFrom 39 rfl) ml_X6_65 iv_X5_isLetterOrDigit rfl rfl rfl rfl rfl (Nat.le_of_ble_eq_true rfl) hM ?_
    refine hq_if_eq 81 (pm_d rk_X6_endFrom 40 rfl) (by decide) (fun hc => ?_) (fun hc => ?_)
    · rw [if_pos hc] at h
      refine hq_iload_n (pm_d rk_X6_endFrom 43 rfl) rfl 1 rfl ?_
      exact hq_iret (pm_d rk_X6_endFrom 44 rfl) rfl h
    rw [if_neg hc] at h
    show hp_go _ _ _ _ _ 75 _ _ _
    refine hq_iinc (v := y2 + (1 : Int32)) (L1 := [(2, .int (y2 + (1 : Int32))), (0, .ref 3)]) (pm_d rk_X6_endFrom 41 rfl) 1 rfl (by rw [show Int32.ofInt (1) = (1 : Int32) by decide]) (by decide) rfl ?_
    refine pm_nm (G := fun x8 => hp_go sh_C me_X6_endFrom (d + 3) (some (.int x0)) s1 78 [(2, .int x8), (0, .ref 3)] [] t6) h (fun x8 h => ?_)
    refine hq_goto 53 (pm_d rk_X6_endFrom 42 rfl) (by decide) ?_
    refine hq_drop [1, 0] rfl ?_
    exact ih _ _ h
def f_C_X6_endFrom_3 (n : Nat) (a1 : Int32) (s : hp_S) : Option (Int32 × hp_S) :=
  pm_bd (f_C_X5_isLetterOrDigit_1 a1 s) (fun x2 t1 =>
  if x2 = 0 then
    pm_bd (f_C_X5_at_1 a1 t1) (fun x10 t9 =>
    if x10 = (61 : Int32) then
      pm_bd (f_C_X5_at_1 (a1 + (1 : Int32)) t9) (fun x12 t11 =>
      if x12 = (62 : Int32) then
        some ((a1 + (2 : Int32)), t11)
      else
        some ((a1 + (1 : Int32)), t11))
    else
      some ((a1 + (1 : Int32)), t9))
  else
    pm_let (a1 + (1 : Int32)) (fun x3 =>
    l_C_X6_endFrom_3_53 n x3 t1))
set_option maxRecDepth 100000 in
set_option maxHeartbeats 400000 in
theorem w_C_X6_endFrom_3 (d : Nat) (n : Nat) (a1 : Int32) (s s1 : hp_S) (x0 : Int32) (h : f_C_X6_endFrom_3 n a1 s = some (x0, s1)) : hp_is sh_C me_X6_endFrom (d + 3) [.ref 3, .int a1] s (some (.int x0)) s1 := by
  refine hp_ofF [(0, .ref 3), (1, .int a1)] (by decide +kernel) (Nat.le_of_ble_eq_true rfl) rfl ?_
  unfold f_C_X6_endFrom_3 at h
  refine hq_aload_n (pm_d rk_X6_endFrom 0 rfl) rfl 0 rfl ?_
  refine hq_getR (h := 1) 0 (pm_d rk_X6_endFrom 1 rfl) fl_X6_25 rfl rfl ?_
  refine hq_iload_n (pm_d rk_X6_endFrom 2 rfl) rfl 1 rfl ?_
  obtain ⟨x2, t1, hq, h⟩ := pm_bd_i h
  have hM := w_C_X5_isLetterOrDigit_1 (d := d + 0) (h := hq)
  refine hq_callVi (a := 1) (ci := 5) [.int a1] [] (pm_d rk_X6_endFrom 3 rfl) ml_X6_65 iv_X5_isLetterOrDigit rfl rfl rfl rfl rfl (Nat.le_of_ble_eq_true rfl) hM ?_
  refine hq_if_ne 49 (pm_d rk_X6_endFrom 4 rfl) (by decide) (fun hc => ?_) (fun hc => ?_)
  · rw [if_neg hc] at h
    show hp_go _ _ _ _ _ 49 _ _ _
    refine hq_iload_n (pm_d rk_X6_endFrom 27 rfl) rfl 1 rfl ?_
    refine hq_iconst (v := (1 : Int32)) (pm_d rk_X6_endFrom 28 rfl) (by decide) ?_
    refine hq_iadd (pm_d rk_X6_endFrom 29 rfl) ?_
    refine pm_nm (G := fun x3 => hp_go sh_C me_X6_endFrom (d + 3) (some (.int x0)) s1 52 [(0, .ref 3), (1, .int a1)] [.int x3] t1) h (fun x3 h => ?_)
    refine hq_istore_n (L1 := [(2, .int x3), (0, .ref 3), (1, .int a1)]) (pm_d rk_X6_endFrom 30 rfl) rfl (by decide) rfl ?_
    refine hq_drop [1, 0] rfl ?_
    exact wl_C_X6_endFrom_3_53 d _ _   _ _ _ h
  rw [if_pos hc] at h
  refine hq_aload_n (pm_d rk_X6_endFrom 5 rfl) rfl 0 rfl ?_
  refine hq_getR (h := 1) 0 (pm_d rk_X6_endFrom 6 rfl) fl_X6_25 rfl rfl ?_
  refine hq_iload_n (pm_d rk_X6_endFrom 7 rfl) rfl 1 rfl ?_
  obtain ⟨x10, t9, hq, h⟩ := pm_bd_i h
  have hM := w_C_X5_at_1 (d := d + 2) (h := hq)
  refine hq_callVi (a := 1) (ci := 5) [.int a1] [] (pm_d rk_X6_endFrom 8 rfl) ml_X6_47 iv_X5_at rfl rfl rfl rfl rfl (Nat.le_of_ble_eq_true rfl) hM ?_
  show hp_go _ _ _ _ _ 19 _ _ _
  refine hq_bipush (v := (61 : Int32)) (pm_d rk_X6_endFrom 9 rfl) (by decide) ?_
  refine hq_icmp_ne 45 (pm_d rk_X6_endFrom 10 rfl) (by decide) (fun hc => ?_) (fun hc => ?_)
  · rw [if_neg hc] at h
    refine hq_iload_n (pm_d rk_X6_endFrom 23 rfl) rfl 1 rfl ?_
    refine hq_iconst (v := (1 : Int32)) (pm_d rk_X6_endFrom 24 rfl) (by decide) ?_
    refine hq_iadd (pm_d rk_X6_endFrom 25 rfl) ?_
    exact hq_iret (pm_d rk_X6_endFrom 26 rfl) rfl h
  rw [if_pos hc] at h
  show hp_go _ _ _ _ _ 24 _ _ _
  refine hq_aload_n (pm_d rk_X6_endFrom 11 rfl) rfl 0 rfl ?_
  refine hq_getR (h := 1) 0 (pm_d rk_X6_endFrom 12 rfl) fl_X6_25 rfl rfl ?_
  refine hq_iload_n (pm_d rk_X6_endFrom 13 rfl) rfl 1 rfl ?_
  refine hq_iconst (v := (1 : Int32)) (pm_d rk_X6_endFrom 14 rfl) (by decide) ?_
  refine hq_iadd (pm_d rk_X6_endFrom 15 rfl) ?_
  obtain ⟨x12, t11, hq, h⟩ := pm_bd_i h
  have hM := w_C_X5_at_1 (d := d + 2) (h := hq)
  refine hq_callVi (a := 1) (ci := 5) [.int (a1 + (1 : Int32))] [] (pm_d rk_X6_endFrom 16 rfl) ml_X6_47 iv_X5_at rfl rfl rfl rfl rfl (Nat.le_of_ble_eq_true rfl) hM ?_
  show hp_go _ _ _ _ _ 34 _ _ _
  refine hq_bipush (v := (62 : Int32)) (pm_d rk_X6_endFrom 17 rfl) (by decide) ?_
  refine hq_icmp_ne 45 (pm_d rk_X6_endFrom 18 rfl) (by decide) (fun hc => ?_) (fun hc => ?_)
  · rw [if_neg hc] at h
    refine hq_iload_n (pm_d rk_X6_endFrom 23 rfl) rfl 1 rfl ?_
    refine hq_iconst (v := (1 : Int32)) (pm_d rk_X6_endFrom 24 rfl) (by decide) ?_
    refine hq_iadd (pm_d rk_X6_endFrom 25 rfl) ?_
    exact hq_iret (pm_d rk_X6_endFrom 26 rfl) rfl h
  rw [if_pos hc] at h
  show hp_go _ _ _ _ _ 39 _ _ _
  refine hq_iload_n (pm_d rk_X6_endFrom 19 rfl) rfl 1 rfl ?_
  refine hq_iconst (v := (2 : Int32)) (pm_d rk_X6_endFrom 20 rfl) (by decide) ?_
  refine hq_iadd (pm_d rk_X6_endFrom 21 rfl) ?_
  refine hq_goto 48 (pm_d rk_X6_endFrom 22 rfl) (by decide) ?_
  exact hq_iret (pm_d rk_X6_endFrom 26 rfl) rfl h
def f_C_X6_sign (a0 : Int32) (s : hp_S) : Option (Int32 × hp_S) :=
  if a0 = (40 : Int32) then
    some ((17 : Int32), s)
  else
  if a0 = (41 : Int32) then
    some ((18 : Int32), s)
  else
  if a0 = (43 : Int32) then
    some ((20 : Int32), s)
  else
  if a0 = (44 : Int32) then
    some ((19 : Int32), s)
  else
  if a0 = (60 : Int32) then
    some ((21 : Int32), s)
  else
  if a0 = (61 : Int32) then
    some ((16 : Int32), s)
  else
    some ((1 : Int32), s)
set_option maxRecDepth 100000 in
set_option maxHeartbeats 400000 in
theorem w_C_X6_sign (d : Nat) (a0 : Int32) (s s1 : hp_S) (x0 : Int32) (h : f_C_X6_sign a0 s = some (x0, s1)) : hp_is sh_C me_X6_sign (d + 0) [.int a0] s (some (.int x0)) s1 := by
  refine hp_ofF [(0, .int a0)] (by decide +kernel) (Nat.le_of_ble_eq_true rfl) rfl ?_
  unfold f_C_X6_sign at h
  refine hq_iload_n (pm_d rk_X6_sign 0 rfl) rfl 0 rfl ?_
  by_cases hc0 : a0 = (40 : Int32)
  · rw [if_pos hc0] at h
    refine hq_lookup 63 (pm_d rk_X6_sign 1 rfl) (by decide) (by rw [hc0] <;> rfl) (by decide) ?_
    refine hq_bipush (v := (17 : Int32)) (pm_d rk_X6_sign 4 rfl) (by decide) ?_
    exact hq_iret (pm_d rk_X6_sign 5 rfl) rfl h
  rw [if_neg hc0] at h
  by_cases hc1 : a0 = (41 : Int32)
  · rw [if_pos hc1] at h
    refine hq_lookup 66 (pm_d rk_X6_sign 1 rfl) (by decide) (by rw [hc1] <;> rfl) (by decide) ?_
    refine hq_bipush (v := (18 : Int32)) (pm_d rk_X6_sign 6 rfl) (by decide) ?_
    show hp_go _ _ _ _ _ 68 _ _ _
    exact hq_iret (pm_d rk_X6_sign 7 rfl) rfl h
  rw [if_neg hc1] at h
  by_cases hc2 : a0 = (43 : Int32)
  · rw [if_pos hc2] at h
    refine hq_lookup 72 (pm_d rk_X6_sign 1 rfl) (by decide) (by rw [hc2] <;> rfl) (by decide) ?_
    refine hq_bipush (v := (20 : Int32)) (pm_d rk_X6_sign 10 rfl) (by decide) ?_
    exact hq_iret (pm_d rk_X6_sign 11 rfl) rfl h
  rw [if_neg hc2] at h
  by_cases hc3 : a0 = (44 : Int32)
  · rw [if_pos hc3] at h
    refine hq_lookup 69 (pm_d rk_X6_sign 1 rfl) (by decide) (by rw [hc3] <;> rfl) (by decide) ?_
    refine hq_bipush (v := (19 : Int32)) (pm_d rk_X6_sign 8 rfl) (by decide) ?_
    exact hq_iret (pm_d rk_X6_sign 9 rfl) rfl h
  rw [if_neg hc3] at h
  by_cases hc4 : a0 = (60 : Int32)
  · rw [if_pos hc4] at h
    refine hq_lookup 75 (pm_d rk_X6_sign 1 rfl) (by decide) (by rw [hc4] <;> rfl) (by decide) ?_
    refine hq_bipush (v := (21 : Int32)) (pm_d rk_X6_sign 12 rfl) (by decide) ?_
    show hp_go _ _ _ _ _ 77 _ _ _
    exact hq_iret (pm_d rk_X6_sign 13 rfl) rfl h
  rw [if_neg hc4] at h
  by_cases hc5 : a0 = (61 : Int32)
  · rw [if_pos hc5] at h
    refine hq_lookup 60 (pm_d rk_X6_sign 1 rfl) (by decide) (by rw [hc5] <;> rfl) (by decide) ?_
    refine hq_bipush (v := (16 : Int32)) (pm_d rk_X6_sign 2 rfl) (by decide) ?_
    exact hq_iret (pm_d rk_X6_sign 3 rfl) rfl h
  rw [if_neg hc5] at h
  refine hq_lookup (off := 77) 78 (pm_d rk_X6_sign 1 rfl) (by decide) (by rw [lv_osw hc0 (by decide), lv_osw hc1 (by decide), lv_osw hc2 (by decide), lv_osw hc3 (by decide), lv_osw hc4 (by decide), lv_osw hc5 (by decide)] <;> rfl) (by decide) ?_
  refine hq_iconst (v := (1 : Int32)) (pm_d rk_X6_sign 14 rfl) (by decide) ?_
  exact hq_iret (pm_d rk_X6_sign 15 rfl) rfl h
def l_C_X6_holdsLetter_3_2 : Nat → Int32 → Int32 → hp_S → Option (Int32 × hp_S)
  | 0, _, _, _ => none
  | n + 1, y2, y3, s =>
    if y2 ≤ y3 then
      some ((0 : Int32), s)
    else
      pm_bd (f_C_X5_isLetter_1 y3 s) (fun x2 t1 =>
      if x2 = 0 then
        pm_let (y3 + (1 : Int32)) (fun x3 =>
        l_C_X6_holdsLetter_3_2 n y2 x3 t1)
      else
        some ((1 : Int32), t1))
set_option maxRecDepth 100000 in
set_option maxHeartbeats 400000 in
theorem wl_C_X6_holdsLetter_3_2 (d : Nat) (s1 : hp_S) (x0 : Int32)  : ∀ (n : Nat) (y2 : Int32) (y3 : Int32) (s : hp_S), l_C_X6_holdsLetter_3_2 n y2 y3 s = some (x0, s1) → hp_go sh_C me_X6_holdsLetter (d + 2) (some (.int x0)) s1 2 [(0, .ref 3), (2, .int y2), (3, .int y3)] [] s := by
  intro n
  induction n with
  | zero =>
    intro y2 y3 s h
    cases h
  | succ n ih =>
    intro y2 y3 s h
    rw [l_C_X6_holdsLetter_3_2.eq_2] at h
    refine hq_iload_n (pm_d rk_X6_holdsLetter 2 rfl) rfl 2 rfl ?_
    refine hq_iload_n (pm_d rk_X6_holdsLetter 3 rfl) rfl 1 rfl ?_
    refine hq_icmp_ge 26 (pm_d rk_X6_holdsLetter 4 rfl) (by decide) (fun hc => ?_) (fun hc => ?_)
    · rw [if_pos hc] at h
      show hp_go _ _ _ _ _ 26 _ _ _
      refine hq_iconst (v := (0 : Int32)) (pm_d rk_X6_holdsLetter 14 rfl) (by decide) ?_
      exact hq_zret (pm_d rk_X6_holdsLetter 15 rfl) rfl rfl h
    rw [if_neg hc] at h
    refine hq_aload_n (pm_d rk_X6_holdsLetter 5 rfl) rfl 0 rfl ?_
    refine hq_getR (h := 1) 0 (pm_d rk_X6_holdsLetter 6 rfl) fl_X6_25 rfl rfl ?_
    refine hq_iload_n (pm_d rk_X6_holdsLetter 7 rfl) rfl 2 rfl ?_
    obtain ⟨x2, t1, hq, h⟩ := pm_bd_i h
    have hM := w_C_X5_isLetter_1 (d := d + 0) (h := hq)
    refine hq_callVi (a := 1) (ci := 5) [.int y3] [] (pm_d rk_X6_holdsLetter 8 rfl) ml_X6_68 iv_X5_isLetter rfl rfl rfl rfl rfl (Nat.le_of_ble_eq_true rfl) hM ?_
    show hp_go _ _ _ _ _ 15 _ _ _
    refine hq_if_eq 20 (pm_d rk_X6_holdsLetter 9 rfl) (by decide) (fun hc => ?_) (fun hc => ?_)
    · rw [if_pos hc] at h
      refine hq_iinc (v := y3 + (1 : Int32)) (L1 := [(3, .int (y3 + (1 : Int32))), (0, .ref 3), (2, .int y2)]) (pm_d rk_X6_holdsLetter 12 rfl) 2 rfl (by rw [show Int32.ofInt (1) = (1 : Int32) by decide]) (by decide) rfl ?_
      refine pm_nm (G := fun x3 => hp_go sh_C me_X6_holdsLetter (d + 2) (some (.int x0)) s1 23 [(3, .int x3), (0, .ref 3), (2, .int y2)] [] t1) h (fun x3 h => ?_)
      refine hq_goto 2 (pm_d rk_X6_holdsLetter 13 rfl) (by decide) ?_
      refine hq_drop [1, 2, 0] rfl ?_
      exact ih _ _ _ h
    rw [if_neg hc] at h
    refine hq_iconst (v := (1 : Int32)) (pm_d rk_X6_holdsLetter 10 rfl) (by decide) ?_
    exact hq_zret (pm_d rk_X6_holdsLetter 11 rfl) rfl rfl h
def f_C_X6_holdsLetter_3 (n : Nat) (a1 : Int32) (a2 : Int32) (s : hp_S) : Option (Int32 × hp_S) :=
  l_C_X6_holdsLetter_3_2 n a2 a1 s
set_option maxRecDepth 100000 in
set_option maxHeartbeats 400000 in
theorem w_C_X6_holdsLetter_3 (d : Nat) (n : Nat) (a1 : Int32) (a2 : Int32) (s s1 : hp_S) (x0 : Int32) (h : f_C_X6_holdsLetter_3 n a1 a2 s = some (x0, s1)) : hp_is sh_C me_X6_holdsLetter (d + 2) [.ref 3, .int a1, .int a2] s (some (.int x0)) s1 := by
  refine hp_ofF [(0, .ref 3), (1, .int a1), (2, .int a2)] (by decide +kernel) (Nat.le_of_ble_eq_true rfl) rfl ?_
  unfold f_C_X6_holdsLetter_3 at h
  refine hq_iload_n (pm_d rk_X6_holdsLetter 0 rfl) rfl 1 rfl ?_
  refine hq_istore_n (L1 := [(3, .int a1), (0, .ref 3), (1, .int a1), (2, .int a2)]) (pm_d rk_X6_holdsLetter 1 rfl) rfl (by decide) rfl ?_
  refine hq_drop [1, 3, 0] rfl ?_
  exact wl_C_X6_holdsLetter_3_2 d _ _   _ _ _ _ h
def f_C_J0_coder_7d493 (i0 : Nat) (s : hp_S) : Option (Int32 × hp_S) :=
  pm_gd1 (decide (i0 < 13)) (
  some ((0 : Int32), s))
set_option maxRecDepth 100000 in
set_option maxHeartbeats 400000 in
theorem w_C_J0_coder_7d493 (d : Nat) (i0 : Nat) (s s1 : hp_S) (x0 : Int32) (h : f_C_J0_coder_7d493 i0 s = some (x0, s1)) : hp_is sh_C me_J0_coder_7d493 (d + 0) [.ref (1000 + i0)] s (some (.int x0)) s1 := by
  refine hp_ofF [(0, .ref (1000 + i0))] (by decide +kernel) (Nat.le_of_ble_eq_true rfl) rfl ?_
  unfold f_C_J0_coder_7d493 at h
  refine hq_compact (pm_d rk_J0_coder_7d493 0 rfl) (pm_i2 167 rfl rfl) ?_
  refine hq_if_eq 13 (pm_d rk_J0_coder_7d493 1 rfl) (by decide) (fun hc => absurd hc (by decide)) (fun _ => ?_)
  refine hq_aload_n (pm_d rk_J0_coder_7d493 2 rfl) rfl 0 rfl ?_
  obtain ⟨hg13, h⟩ := pm_gd_i h
  refine hq_strCoder (pm_13 hg13) (pm_d rk_J0_coder_7d493 3 rfl) (pm_i6 153 rfl rfl) ?_
  refine hq_goto 14 (pm_d rk_J0_coder_7d493 4 rfl) (by decide) ?_
  show hp_go _ _ _ _ _ 14 _ _ _
  exact hq_zret (pm_d rk_J0_coder_7d493 6 rfl) rfl rfl h
def f_C_J0_length_8abf5 (i0 : Nat) (s : hp_S) : Option (Int32 × hp_S) :=
  pm_gd1 (decide (i0 < 13)) (
  pm_gd1 (decide (i0 < 13)) (
  pm_bd (f_C_J0_coder_7d493 i0 s) (fun x2 t1 =>
  pm_gd1 (decide (i0 < 13)) (
  some (((Int32.ofNat (pm_lenS.getD i0 0)) >>> (x2 &&& 31)), t1)))))
set_option maxRecDepth 100000 in
set_option maxHeartbeats 400000 in
theorem w_C_J0_length_8abf5 (d : Nat) (i0 : Nat) (s s1 : hp_S) (x0 : Int32) (h : f_C_J0_length_8abf5 i0 s = some (x0, s1)) : hp_is sh_C me_J0_length_8abf5 (d + 1) [.ref (1000 + i0)] s (some (.int x0)) s1 := by
  refine hp_ofF [(0, .ref (1000 + i0))] (by decide +kernel) (Nat.le_of_ble_eq_true rfl) rfl ?_
  unfold f_C_J0_length_8abf5 at h
  refine hq_aload_n (pm_d rk_J0_length_8abf5 0 rfl) rfl 0 rfl ?_
  obtain ⟨hg13, h⟩ := pm_gd_i h
  refine hq_strValue (pm_13 hg13) (pm_d rk_J0_length_8abf5 1 rfl) (pm_i6 152 rfl rfl) ?_
  obtain ⟨hg13, h⟩ := pm_gd_i h
  refine hq_strLen (pm_13 hg13) (pm_d rk_J0_length_8abf5 2 rfl) rfl ?_
  refine hq_aload_n (pm_d rk_J0_length_8abf5 3 rfl) rfl 0 rfl ?_
  obtain ⟨x2, t1, hq, h⟩ := pm_bd_i h
  have hM := w_C_J0_coder_7d493 (d := d + 0) (h := hq)
  obtain ⟨hg13, h⟩ := pm_gd_i h
  refine hq_callVSi [] [.int (Int32.ofNat (pm_lenS.getD i0 0))] (pm_d rk_J0_length_8abf5 4 rfl) ml_J0_335 iv_J0_coder_7d493 (pm_13 hg13) rfl rfl rfl (Nat.le_of_ble_eq_true rfl) hM ?_
  show hp_go _ _ _ _ _ 9 _ _ _
  refine hq_ishr (pm_d rk_J0_length_8abf5 5 rfl) ?_
  exact hq_iret (pm_d rk_J0_length_8abf5 6 rfl) rfl h
def f_C_J0_isLatin1_aae02 (i0 : Nat) (s : hp_S) : Option (Int32 × hp_S) :=
  pm_gd1 (decide (i0 < 13)) (
  some ((1 : Int32), s))
set_option maxRecDepth 100000 in
set_option maxHeartbeats 400000 in
theorem w_C_J0_isLatin1_aae02 (d : Nat) (i0 : Nat) (s s1 : hp_S) (x0 : Int32) (h : f_C_J0_isLatin1_aae02 i0 s = some (x0, s1)) : hp_is sh_C me_J0_isLatin1_aae02 (d + 0) [.ref (1000 + i0)] s (some (.int x0)) s1 := by
  refine hp_ofF [(0, .ref (1000 + i0))] (by decide +kernel) (Nat.le_of_ble_eq_true rfl) rfl ?_
  unfold f_C_J0_isLatin1_aae02 at h
  refine hq_compact (pm_d rk_J0_isLatin1_aae02 0 rfl) (pm_i2 167 rfl rfl) ?_
  refine hq_if_eq 17 (pm_d rk_J0_isLatin1_aae02 1 rfl) (by decide) (fun hc => absurd hc (by decide)) (fun _ => ?_)
  refine hq_aload_n (pm_d rk_J0_isLatin1_aae02 2 rfl) rfl 0 rfl ?_
  obtain ⟨hg13, h⟩ := pm_gd_i h
  refine hq_strCoder (pm_13 hg13) (pm_d rk_J0_isLatin1_aae02 3 rfl) (pm_i6 153 rfl rfl) ?_
  refine hq_if_ne 17 (pm_d rk_J0_isLatin1_aae02 4 rfl) (by decide) (fun hc => absurd hc (by decide)) (fun _ => ?_)
  show hp_go _ _ _ _ _ 13 _ _ _
  refine hq_iconst (v := (1 : Int32)) (pm_d rk_J0_isLatin1_aae02 5 rfl) (by decide) ?_
  refine hq_goto 18 (pm_d rk_J0_isLatin1_aae02 6 rfl) (by decide) ?_
  exact hq_zret (pm_d rk_J0_isLatin1_aae02 8 rfl) rfl rfl h
def f_C_J3_checkIndex_8e157_nul (a0 : Int32) (a1 : Int32) (s : hp_S) : Option (Int32 × hp_S) :=
  if a0 < 0 then
    none
  else
    if a0 < a1 then
      some (a0, s)
    else
      none
set_option maxRecDepth 100000 in
set_option maxHeartbeats 400000 in
theorem w_C_J3_checkIndex_8e157_nul (d : Nat) (a0 : Int32) (a1 : Int32) (s s1 : hp_S) (x0 : Int32) (h : f_C_J3_checkIndex_8e157_nul a0 a1 s = some (x0, s1)) : hp_is sh_C me_J3_checkIndex_8e157 (d + 0) [.int a0, .int a1, .null] s (some (.int x0)) s1 := by
  refine hp_ofF [(0, .int a0), (1, .int a1), (2, .null)] (by decide +kernel) (Nat.le_of_ble_eq_true rfl) rfl ?_
  unfold f_C_J3_checkIndex_8e157_nul at h
  refine hq_iload_n (pm_d rk_J3_checkIndex_8e157 0 rfl) rfl 0 rfl ?_
  refine hq_if_lt 9 (pm_d rk_J3_checkIndex_8e157 1 rfl) (by decide) (fun hc => ?_) (fun hc => ?_)
  · rw [if_pos hc] at h
    cases h
  rw [if_neg hc] at h
  refine hq_iload_n (pm_d rk_J3_checkIndex_8e157 2 rfl) rfl 0 rfl ?_
  refine hq_iload_n (pm_d rk_J3_checkIndex_8e157 3 rfl) rfl 1 rfl ?_
  refine hq_icmp_lt 16 (pm_d rk_J3_checkIndex_8e157 4 rfl) (by decide) (fun hc => ?_) (fun hc => ?_)
  · rw [if_pos hc] at h
    show hp_go _ _ _ _ _ 16 _ _ _
    refine hq_iload_n (pm_d rk_J3_checkIndex_8e157 10 rfl) rfl 0 rfl ?_
    exact hq_iret (pm_d rk_J3_checkIndex_8e157 11 rfl) rfl h
  rw [if_neg hc] at h
  cases h
set_option maxRecDepth 100000 in
set_option maxHeartbeats 400000 in
theorem w_C_J3_checkIndex_8e157_fmt (d : Nat) (a0 : Int32) (a1 : Int32) (s s1 : hp_S) (x0 : Int32) (h : f_C_J3_checkIndex_8e157_nul a0 a1 s = some (x0, s1)) : hp_is sh_C me_J3_checkIndex_8e157 (d + 0) [.int a0, .int a1, .ref 3000] s (some (.int x0)) s1 := by
  refine hp_ofF [(0, .int a0), (1, .int a1), (2, .ref 3000)] (by decide +kernel) (Nat.le_of_ble_eq_true rfl) rfl ?_
  unfold f_C_J3_checkIndex_8e157_nul at h
  refine hq_iload_n (pm_d rk_J3_checkIndex_8e157 0 rfl) rfl 0 rfl ?_
  refine hq_if_lt 9 (pm_d rk_J3_checkIndex_8e157 1 rfl) (by decide) (fun hc => ?_) (fun hc => ?_)
  · rw [if_pos hc] at h
    cases h
  rw [if_neg hc] at h
  refine hq_iload_n (pm_d rk_J3_checkIndex_8e157 2 rfl) rfl 0 rfl ?_
  refine hq_iload_n (pm_d rk_J3_checkIndex_8e157 3 rfl) rfl 1 rfl ?_
  refine hq_icmp_lt 16 (pm_d rk_J3_checkIndex_8e157 4 rfl) (by decide) (fun hc => ?_) (fun hc => ?_)
  · rw [if_pos hc] at h
    show hp_go _ _ _ _ _ 16 _ _ _
    refine hq_iload_n (pm_d rk_J3_checkIndex_8e157 10 rfl) rfl 0 rfl ?_
    exact hq_iret (pm_d rk_J3_checkIndex_8e157 11 rfl) rfl h
  rw [if_neg hc] at h
  cases h
def f_C_J0_checkIndex_df160 (a0 : Int32) (a1 : Int32) (s : hp_S) : Option hp_S :=
    pm_bd (f_C_J3_checkIndex_8e157_nul a0 a1 s) (fun x2 t1 =>
    some t1)
set_option maxRecDepth 100000 in
set_option maxHeartbeats 400000 in
theorem w_C_J0_checkIndex_df160 (d : Nat) (a0 : Int32) (a1 : Int32) (s s1 : hp_S) (h : f_C_J0_checkIndex_df160 a0 a1 s = some s1) : hp_is sh_C me_J0_checkIndex_df160 (d + 1) [.int a0, .int a1] s none s1 := by
  refine hp_ofF [(0, .int a0), (1, .int a1)] (by decide +kernel) (Nat.le_of_ble_eq_true rfl) rfl ?_
  unfold f_C_J0_checkIndex_df160 at h
  refine hq_iload_n (pm_d rk_J0_checkIndex_df160 0 rfl) rfl 0 rfl ?_
  refine hq_iload_n (pm_d rk_J0_checkIndex_df160 1 rfl) rfl 1 rfl ?_
  refine hq_formatter (pm_d rk_J0_checkIndex_df160 2 rfl) (pm_i2 183 rfl rfl) ?_ ?_
  · obtain ⟨x2, t1, hq, h⟩ := pm_bd_i h
    have hM := w_C_J3_checkIndex_8e157_nul (d := d + 0) (h := hq)
    refine hq_callSi [.int a0, .int a1, .null] [] (pm_d rk_J0_checkIndex_df160 3 rfl) ml_J0_1059 iv_J3_checkIndex_8e157 rfl rfl (Nat.le_of_ble_eq_true rfl) hM ?_
    refine hq_pop (pm_d rk_J0_checkIndex_df160 4 rfl) rfl ?_
    show hp_go _ _ _ _ _ 9 _ _ _
    exact hq_vret (pm_d rk_J0_checkIndex_df160 5 rfl) rfl h
  · obtain ⟨x4, t3, hq, h⟩ := pm_bd_i h
    have hM := w_C_J3_checkIndex_8e157_fmt (d := d + 0) (h := hq)
    refine hq_callSi [.int a0, .int a1, .ref 3000] [] (pm_d rk_J0_checkIndex_df160 3 rfl) ml_J0_1059 iv_J3_checkIndex_8e157 rfl rfl (Nat.le_of_ble_eq_true rfl) hM ?_
    refine hq_pop (pm_d rk_J0_checkIndex_df160 4 rfl) rfl ?_
    exact hq_vret (pm_d rk_J0_checkIndex_df160 5 rfl) rfl h
def f_C_J1_charAt_3b067_val (i0 : Nat) (a1 : Int32) (s : hp_S) : Option (Int32 × hp_S) :=
  pm_gd1 (decide (i0 < 13)) (
  pm_b1 (f_C_J0_checkIndex_df160 a1 (Int32.ofNat (pm_lenS.getD i0 0)) s) (fun t1 =>
  pm_gd1 (decide (i0 < 13)) (
  pm_gd1 (pm_ib a1 (pm_lenS.getD i0 0)) (
  pm_gd1 (pm_gn .char (((((pm_bytS.getD i0 []).getD a1.toNatClampNeg 0) &&& (255 : Int32)).toUInt32 % 65536).toInt32)) (some ((((((pm_bytS.getD i0 []).getD a1.toNatClampNeg 0) &&& (255 : Int32)).toUInt32 % 65536).toInt32), t1))))))
set_option maxRecDepth 100000 in
set_option maxHeartbeats 400000 in
theorem w_C_J1_charAt_3b067_val (d : Nat) (i0 : Nat) (a1 : Int32) (s s1 : hp_S) (x0 : Int32) (h : f_C_J1_charAt_3b067_val i0 a1 s = some (x0, s1)) : hp_is sh_C me_J1_charAt_3b067 (d + 2) [.ref (2000 + i0), .int a1] s (some (.int x0)) s1 := by
  refine hp_ofF [(0, .ref (2000 + i0)), (1, .int a1)] (by decide +kernel) (Nat.le_of_ble_eq_true rfl) rfl ?_
  unfold f_C_J1_charAt_3b067_val at h
  refine hq_iload_n (pm_d rk_J1_charAt_3b067 0 rfl) rfl 1 rfl ?_
  refine hq_aload_n (pm_d rk_J1_charAt_3b067 1 rfl) rfl 0 rfl ?_
  obtain ⟨hg13, h⟩ := pm_gd_i h
  refine hq_strLen (pm_13 hg13) (pm_d rk_J1_charAt_3b067 2 rfl) rfl ?_
  obtain ⟨t1, hq, h⟩ := pm_b1_i h
  have hM := w_C_J0_checkIndex_df160 (d := d + 0) (h := hq)
  refine hq_callSv [.int a1, .int (Int32.ofNat (pm_lenS.getD i0 0))] [] (pm_d rk_J1_charAt_3b067 3 rfl) ml_J1_9 iv_J0_checkIndex_df160 rfl rfl (Nat.le_of_ble_eq_true rfl) hM ?_
  refine hq_aload_n (pm_d rk_J1_charAt_3b067 4 rfl) rfl 0 rfl ?_
  show hp_go _ _ _ _ _ 7 _ _ _
  refine hq_iload_n (pm_d rk_J1_charAt_3b067 5 rfl) rfl 1 rfl ?_
  obtain ⟨hg13, h⟩ := pm_gd_i h
  skip
  obtain ⟨hg, h⟩ := pm_gd_i h
  refine hq_strAt (pm_13 hg13) hg (pm_d rk_J1_charAt_3b067 6 rfl) ?_
  refine hq_sipush (v := (255 : Int32)) (pm_d rk_J1_charAt_3b067 7 rfl) (by decide) ?_
  refine hq_iand (pm_d rk_J1_charAt_3b067 8 rfl) ?_
  refine hq_i2c (pm_d rk_J1_charAt_3b067 9 rfl) ?_
  obtain ⟨hg, h⟩ := pm_gd_i h
  exact hq_zret (pm_d rk_J1_charAt_3b067 10 rfl) rfl (pm_gn_i hg) h
def f_C_J0_charAt_5068e (i0 : Nat) (a1 : Int32) (s : hp_S) : Option (Int32 × hp_S) :=
  pm_bd (f_C_J0_isLatin1_aae02 i0 s) (fun x2 t1 =>
  pm_gd1 (decide (i0 < 13)) (
  if x2 = 0 then
    none
  else
    pm_gd1 (decide (i0 < 13)) (
    pm_bd (f_C_J1_charAt_3b067_val i0 a1 t1) (fun x4 t3 =>
    pm_gd1 (pm_gn .char x4) (some (x4, t3))))))
set_option maxRecDepth 100000 in
set_option maxHeartbeats 400000 in
theorem w_C_J0_charAt_5068e (d : Nat) (i0 : Nat) (a1 : Int32) (s s1 : hp_S) (x0 : Int32) (h : f_C_J0_charAt_5068e i0 a1 s = some (x0, s1)) : hp_is sh_C me_J0_charAt_5068e (d + 3) [.ref (1000 + i0), .int a1] s (some (.int x0)) s1 := by
  refine hp_ofF [(0, .ref (1000 + i0)), (1, .int a1)] (by decide +kernel) (Nat.le_of_ble_eq_true rfl) rfl ?_
  unfold f_C_J0_charAt_5068e at h
  refine hq_aload_n (pm_d rk_J0_charAt_5068e 0 rfl) rfl 0 rfl ?_
  obtain ⟨x2, t1, hq, h⟩ := pm_bd_i h
  have hM := w_C_J0_isLatin1_aae02 (d := d + 2) (h := hq)
  obtain ⟨hg13, h⟩ := pm_gd_i h
  refine hq_callVSi [] [] (pm_d rk_J0_charAt_5068e 1 rfl) ml_J0_492 iv_J0_isLatin1_aae02 (pm_13 hg13) rfl rfl rfl (Nat.le_of_ble_eq_true rfl) hM ?_
  refine hq_if_eq 16 (pm_d rk_J0_charAt_5068e 2 rfl) (by decide) (fun hc => ?_) (fun hc => ?_)
  · rw [if_pos hc] at h
    cases h
  rw [if_neg hc] at h
  refine hq_aload_n (pm_d rk_J0_charAt_5068e 3 rfl) rfl 0 rfl ?_
  obtain ⟨hg13, h⟩ := pm_gd_i h
  refine hq_strValue (pm_13 hg13) (pm_d rk_J0_charAt_5068e 4 rfl) (pm_i6 152 rfl rfl) ?_
  show hp_go _ _ _ _ _ 11 _ _ _
  refine hq_iload_n (pm_d rk_J0_charAt_5068e 5 rfl) rfl 1 rfl ?_
  obtain ⟨x4, t3, hq, h⟩ := pm_bd_i h
  have hM := w_C_J1_charAt_3b067_val (d := d + 0) (h := hq)
  refine hq_callSi [.ref (2000 + i0), .int a1] [] (pm_d rk_J0_charAt_5068e 6 rfl) ml_J0_495 iv_J1_charAt_3b067 rfl rfl (Nat.le_of_ble_eq_true rfl) hM ?_
  obtain ⟨hg, h⟩ := pm_gd_i h
  exact hq_zret (pm_d rk_J0_charAt_5068e 7 rfl) rfl (pm_gn_i hg) h
def l_C_X6_isWord_3_27 : Nat → Int32 → Int32 → Int32 → Int32 → hp_S → Option (Int32 × hp_S)
  | 0, _, _, _, _, _ => none
  | n + 1, y1, y2, y3, y4, s =>
    if (5 : Int32) ≤ y4 then
      some ((1 : Int32), s)
    else
      pm_let (fun (z57_1 : Int32) (z57_2 : Int32) (z57_3 : Int32) (z57_4 : Int32) (z57_S0 : Int32) (s : hp_S) =>
        pm_bd (f_C_J0_charAt_5068e 0 (z57_3 + z57_4) s) (fun x4 t3 =>
        if z57_S0 = x4 then
          pm_let (z57_4 + (1 : Int32)) (fun x5 =>
          l_C_X6_isWord_3_27 n z57_1 z57_2 z57_3 x5 t3)
        else
          some ((0 : Int32), t3))) (fun j57 =>
      if y2 ≤ (y1 + y4) then
        j57 y1 y2 y3 y4 (32 : Int32) s
      else
        pm_bd (f_C_X5_at_1 (y1 + y4) s) (fun x7 t6 =>
        j57 y1 y2 y3 y4 x7 t6))
set_option maxRecDepth 100000 in
set_option maxHeartbeats 400000 in
theorem wl_C_X6_isWord_3_27 (d : Nat) (s1 : hp_S) (x0 : Int32)  : ∀ (n : Nat) (y1 : Int32) (y2 : Int32) (y3 : Int32) (y4 : Int32) (s : hp_S), l_C_X6_isWord_3_27 n y1 y2 y3 y4 s = some (x0, s1) → hp_go sh_C me_X6_isWord (d + 4) (some (.int x0)) s1 27 [(0, .ref 3), (1, .int y1), (2, .int y2), (3, .int y3), (4, .int y4)] [] s := by
  intro n
  induction n with
  | zero =>
    intro y1 y2 y3 y4 s h
    cases h
  | succ n ih =>
    intro y1 y2 y3 y4 s h
    rw [l_C_X6_isWord_3_27.eq_2] at h
    refine hq_iload (pm_d rk_X6_isWord 17 rfl) 4 rfl ?_
    refine hq_iconst (v := (5 : Int32)) (pm_d rk_X6_isWord 18 rfl) (by decide) ?_
    refine hq_icmp_ge 81 (pm_d rk_X6_isWord 19 rfl) (by decide) (fun hc => ?_) (fun hc => ?_)
    · rw [if_pos hc] at h
      refine hq_iconst (v := (1 : Int32)) (pm_d rk_X6_isWord 45 rfl) (by decide) ?_
      show hp_go _ _ _ _ _ 82 _ _ _
      exact hq_zret (pm_d rk_X6_isWord 46 rfl) rfl rfl h
    rw [if_neg hc] at h
    refine hq_iload_n (pm_d rk_X6_isWord 20 rfl) rfl 1 rfl ?_
    refine hq_iload (pm_d rk_X6_isWord 21 rfl) 4 rfl ?_
    refine hq_iadd (pm_d rk_X6_isWord 22 rfl) ?_
    refine hq_iload_n (pm_d rk_X6_isWord 23 rfl) rfl 2 rfl ?_
    refine pm_jn (P := fun j57 => ∀ (z57_1 : Int32) (z57_2 : Int32) (z57_3 : Int32) (z57_4 : Int32) (z57_S0 : Int32) (s : hp_S), j57 z57_1 z57_2 z57_3 z57_4 z57_S0 s = some (x0, s1) → hp_go sh_C me_X6_isWord (d + 4) (some (.int x0)) s1 57 [(0, .ref 3), (1, .int z57_1), (2, .int z57_2), (3, .int z57_3), (4, .int z57_4)] [.int z57_S0] s) h ?_ (fun j57 hj57 h => ?_)
    · intro z57_1 z57_2 z57_3 z57_4 z57_S0 s h
      dsimp only at h
      refine hq_istore (L1 := [(5, .int z57_S0), (0, .ref 3), (1, .int z57_1), (2, .int z57_2), (3, .int z57_3), (4, .int z57_4)]) (pm_d rk_X6_isWord 33 rfl) (by decide) rfl ?_
      show hp_go _ _ _ _ _ 59 _ _ _
      refine hq_iload (pm_d rk_X6_isWord 34 rfl) 0 rfl ?_
      refine hq_ldcS 0 (pm_d rk_X6_isWord 35 rfl) rfl ?_
      refine hq_iload_n (pm_d rk_X6_isWord 36 rfl) rfl 4 rfl ?_
      refine hq_iload (pm_d rk_X6_isWord 37 rfl) 5 rfl ?_
      refine hq_iadd (pm_d rk_X6_isWord 38 rfl) ?_
      obtain ⟨x4, t3, hq, h⟩ := pm_bd_i h
      have hM := w_C_J0_charAt_5068e (d := d + 0) (h := hq)
      refine hq_callVSi [.int (z57_3 + z57_4)] [.int z57_S0] (pm_d rk_X6_isWord 39 rfl) ml_X6_93 iv_J0_charAt_5068e (by decide) rfl rfl rfl (Nat.le_of_ble_eq_true rfl) hM ?_
      show hp_go _ _ _ _ _ 70 _ _ _
      refine hq_icmp_eq 75 (pm_d rk_X6_isWord 40 rfl) (by decide) (fun hc => ?_) (fun hc => ?_)
      · rw [if_pos hc] at h
        refine hq_iinc (v := z57_4 + (1 : Int32)) (L1 := [(4, .int (z57_4 + (1 : Int32))), (5, .int z57_S0), (0, .ref 3), (1, .int z57_1), (2, .int z57_2), (3, .int z57_3)]) (pm_d rk_X6_isWord 43 rfl) 5 rfl (by rw [show Int32.ofInt (1) = (1 : Int32) by decide]) (by decide) rfl ?_
        refine pm_nm (G := fun x5 => hp_go sh_C me_X6_isWord (d + 4) (some (.int x0)) s1 78 [(4, .int x5), (5, .int z57_S0), (0, .ref 3), (1, .int z57_1), (2, .int z57_2), (3, .int z57_3)] [] t3) h (fun x5 h => ?_)
        refine hq_goto 27 (pm_d rk_X6_isWord 44 rfl) (by decide) ?_
        refine hq_drop [2, 3, 4, 5, 0] rfl ?_
        exact ih _ _ _ _ _ h
      rw [if_neg hc] at h
      refine hq_iconst (v := (0 : Int32)) (pm_d rk_X6_isWord 41 rfl) (by decide) ?_
      exact hq_zret (pm_d rk_X6_isWord 42 rfl) rfl rfl h
    refine hq_icmp_ge 55 (pm_d rk_X6_isWord 24 rfl) (by decide) (fun hc => ?_) (fun hc => ?_)
    · rw [if_pos hc] at h
      show hp_go _ _ _ _ _ 55 _ _ _
      refine hq_bipush (v := (32 : Int32)) (pm_d rk_X6_isWord 32 rfl) (by decide) ?_
      refine hq_drop [0, 1, 2, 3, 4] rfl ?_
      exact hj57 _ _ _ _ _ _ h
    rw [if_neg hc] at h
    refine hq_aload_n (pm_d rk_X6_isWord 25 rfl) rfl 0 rfl ?_
    refine hq_getR (h := 1) 0 (pm_d rk_X6_isWord 26 rfl) fl_X6_25 rfl rfl ?_
    refine hq_iload_n (pm_d rk_X6_isWord 27 rfl) rfl 1 rfl ?_
    refine hq_iload (pm_d rk_X6_isWord 28 rfl) 4 rfl ?_
    refine hq_iadd (pm_d rk_X6_isWord 29 rfl) ?_
    show hp_go _ _ _ _ _ 49 _ _ _
    obtain ⟨x7, t6, hq, h⟩ := pm_bd_i h
    have hM := w_C_X5_at_1 (d := d + 3) (h := hq)
    refine hq_callVi (a := 1) (ci := 5) [.int (y1 + y4)] [] (pm_d rk_X6_isWord 30 rfl) ml_X6_47 iv_X5_at rfl rfl rfl rfl rfl (Nat.le_of_ble_eq_true rfl) hM ?_
    refine hq_goto 57 (pm_d rk_X6_isWord 31 rfl) (by decide) ?_
    refine hq_drop [0, 1, 2, 3, 4] rfl ?_
    exact hj57 _ _ _ _ _ _ h
def f_C_X6_isWord_3 (n : Nat) (a1 : Int32) (a2 : Int32) (a3 : Int32) (s : hp_S) : Option (Int32 × hp_S) :=
  if (5 : Int32) < (a2 - a1) then
    some ((0 : Int32), s)
  else
    if a3 < 0 then
      some ((0 : Int32), s)
    else
      pm_bd (f_C_J0_length_8abf5 0 s) (fun x2 t1 =>
      if (a3 + (5 : Int32)) ≤ x2 then
        l_C_X6_isWord_3_27 n a1 a2 a3 (0 : Int32) t1
      else
        some ((0 : Int32), t1))
set_option maxRecDepth 100000 in
set_option maxHeartbeats 400000 in
theorem w_C_X6_isWord_3 (d : Nat) (n : Nat) (a1 : Int32) (a2 : Int32) (a3 : Int32) (s s1 : hp_S) (x0 : Int32) (h : f_C_X6_isWord_3 n a1 a2 a3 s = some (x0, s1)) : hp_is sh_C me_X6_isWord (d + 4) [.ref 3, .int a1, .int a2, .int a3] s (some (.int x0)) s1 := by
  refine hp_ofF [(0, .ref 3), (1, .int a1), (2, .int a2), (3, .int a3)] (by decide +kernel) (Nat.le_of_ble_eq_true rfl) rfl ?_
  unfold f_C_X6_isWord_3 at h
  refine hq_iload_n (pm_d rk_X6_isWord 0 rfl) rfl 2 rfl ?_
  refine hq_iload_n (pm_d rk_X6_isWord 1 rfl) rfl 1 rfl ?_
  refine hq_isub (pm_d rk_X6_isWord 2 rfl) ?_
  refine hq_iconst (v := (5 : Int32)) (pm_d rk_X6_isWord 3 rfl) (by decide) ?_
  refine hq_icmp_gt 22 (pm_d rk_X6_isWord 4 rfl) (by decide) (fun hc => ?_) (fun hc => ?_)
  · rw [if_pos hc] at h
    show hp_go _ _ _ _ _ 22 _ _ _
    refine hq_iconst (v := (0 : Int32)) (pm_d rk_X6_isWord 13 rfl) (by decide) ?_
    exact hq_zret (pm_d rk_X6_isWord 14 rfl) rfl rfl h
  rw [if_neg hc] at h
  refine hq_iload_n (pm_d rk_X6_isWord 5 rfl) rfl 3 rfl ?_
  refine hq_if_lt 22 (pm_d rk_X6_isWord 6 rfl) (by decide) (fun hc => ?_) (fun hc => ?_)
  · rw [if_pos hc] at h
    refine hq_iconst (v := (0 : Int32)) (pm_d rk_X6_isWord 13 rfl) (by decide) ?_
    exact hq_zret (pm_d rk_X6_isWord 14 rfl) rfl rfl h
  rw [if_neg hc] at h
  show hp_go _ _ _ _ _ 11 _ _ _
  refine hq_iload_n (pm_d rk_X6_isWord 7 rfl) rfl 3 rfl ?_
  refine hq_iconst (v := (5 : Int32)) (pm_d rk_X6_isWord 8 rfl) (by decide) ?_
  refine hq_iadd (pm_d rk_X6_isWord 9 rfl) ?_
  refine hq_ldcS 0 (pm_d rk_X6_isWord 10 rfl) rfl ?_
  obtain ⟨x2, t1, hq, h⟩ := pm_bd_i h
  have hM := w_C_J0_length_8abf5 (d := d + 2) (h := hq)
  refine hq_callVSi [] [.int (a3 + (5 : Int32))] (pm_d rk_X6_isWord 11 rfl) ml_X6_90 iv_J0_length_8abf5 (by decide) rfl rfl rfl (Nat.le_of_ble_eq_true rfl) hM ?_
  refine hq_icmp_le 24 (pm_d rk_X6_isWord 12 rfl) (by decide) (fun hc => ?_) (fun hc => ?_)
  · rw [if_pos hc] at h
    show hp_go _ _ _ _ _ 24 _ _ _
    refine hq_iconst (v := (0 : Int32)) (pm_d rk_X6_isWord 15 rfl) (by decide) ?_
    refine hq_istore (L1 := [(4, .int (0 : Int32)), (0, .ref 3), (1, .int a1), (2, .int a2), (3, .int a3)]) (pm_d rk_X6_isWord 16 rfl) (by decide) rfl ?_
    refine hq_drop [1, 2, 3, 4, 0] rfl ?_
    exact wl_C_X6_isWord_3_27 d _ _   _ _ _ _ _ _ h
  rw [if_neg hc] at h
  refine hq_iconst (v := (0 : Int32)) (pm_d rk_X6_isWord 13 rfl) (by decide) ?_
  exact hq_zret (pm_d rk_X6_isWord 14 rfl) rfl rfl h
def l_C_X6_wordOrName_3_2 : Nat → Int32 → Int32 → Int32 → hp_S → Option (Int32 × hp_S)
  | 0, _, _, _, _ => none
  | n + 1, y1, y2, y3, s =>
    if (14 : Int32) < y3 then
      some ((2 : Int32), s)
    else
      pm_bd (f_C_X6_isWord_3 n y1 y2 ((y3 - (4 : Int32)) * (5 : Int32)) s) (fun x2 t1 =>
      if x2 = 0 then
        pm_let (y3 + (1 : Int32)) (fun x3 =>
        l_C_X6_wordOrName_3_2 n y1 y2 x3 t1)
      else
        some (y3, t1))
set_option maxRecDepth 100000 in
set_option maxHeartbeats 400000 in
theorem wl_C_X6_wordOrName_3_2 (d : Nat) (s1 : hp_S) (x0 : Int32)  : ∀ (n : Nat) (y1 : Int32) (y2 : Int32) (y3 : Int32) (s : hp_S), l_C_X6_wordOrName_3_2 n y1 y2 y3 s = some (x0, s1) → hp_go sh_C me_X6_wordOrName (d + 5) (some (.int x0)) s1 2 [(0, .ref 3), (1, .int y1), (2, .int y2), (3, .int y3)] [] s := by
  intro n
  induction n with
  | zero =>
    intro y1 y2 y3 s h
    cases h
  | succ n ih =>
    intro y1 y2 y3 s h
    rw [l_C_X6_wordOrName_3_2.eq_2] at h
    refine hq_iload_n (pm_d rk_X6_wordOrName 2 rfl) rfl 3 rfl ?_
    refine hq_bipush (v := (14 : Int32)) (pm_d rk_X6_wordOrName 3 rfl) (by decide) ?_
    refine hq_icmp_gt 30 (pm_d rk_X6_wordOrName 4 rfl) (by decide) (fun hc => ?_) (fun hc => ?_)
    · rw [if_pos hc] at h
      show hp_go _ _ _ _ _ 30 _ _ _
      refine hq_iconst (v := (2 : Int32)) (pm_d rk_X6_wordOrName 19 rfl) (by decide) ?_
      exact hq_iret (pm_d rk_X6_wordOrName 20 rfl) rfl h
    rw [if_neg hc] at h
    refine hq_aload_n (pm_d rk_X6_wordOrName 5 rfl) rfl 0 rfl ?_
    refine hq_iload_n (pm_d rk_X6_wordOrName 6 rfl) rfl 1 rfl ?_
    refine hq_iload_n (pm_d rk_X6_wordOrName 7 rfl) rfl 2 rfl ?_
    refine hq_iload_n (pm_d rk_X6_wordOrName 8 rfl) rfl 3 rfl ?_
    show hp_go _ _ _ _ _ 12 _ _ _
    refine hq_iconst (v := (4 : Int32)) (pm_d rk_X6_wordOrName 9 rfl) (by decide) ?_
    refine hq_isub (pm_d rk_X6_wordOrName 10 rfl) ?_
    refine hq_iconst (v := (5 : Int32)) (pm_d rk_X6_wordOrName 11 rfl) (by decide) ?_
    refine hq_imul (pm_d rk_X6_wordOrName 12 rfl) ?_
    obtain ⟨x2, t1, hq, h⟩ := pm_bd_i h
    have hM := w_C_X6_isWord_3 (d := d + 0) (h := hq)
    refine hq_callVi (a := 3) (ci := 6) [.int y1, .int y2, .int ((y3 - (4 : Int32)) * (5 : Int32))] [] (pm_d rk_X6_wordOrName 13 rfl) ml_X6_84 iv_X6_isWord rfl rfl rfl rfl rfl (Nat.le_of_ble_eq_true rfl) hM ?_
    refine hq_if_eq 24 (pm_d rk_X6_wordOrName 14 rfl) (by decide) (fun hc => ?_) (fun hc => ?_)
    · rw [if_pos hc] at h
      show hp_go _ _ _ _ _ 24 _ _ _
      refine hq_iinc (v := y3 + (1 : Int32)) (L1 := [(3, .int (y3 + (1 : Int32))), (0, .ref 3), (1, .int y1), (2, .int y2)]) (pm_d rk_X6_wordOrName 17 rfl) 3 rfl (by rw [show Int32.ofInt (1) = (1 : Int32) by decide]) (by decide) rfl ?_
      refine pm_nm (G := fun x3 => hp_go sh_C me_X6_wordOrName (d + 5) (some (.int x0)) s1 27 [(3, .int x3), (0, .ref 3), (1, .int y1), (2, .int y2)] [] t1) h (fun x3 h => ?_)
      refine hq_goto 2 (pm_d rk_X6_wordOrName 18 rfl) (by decide) ?_
      refine hq_drop [1, 2, 3, 0] rfl ?_
      exact ih _ _ _ _ h
    rw [if_neg hc] at h
    refine hq_iload_n (pm_d rk_X6_wordOrName 15 rfl) rfl 3 rfl ?_
    exact hq_iret (pm_d rk_X6_wordOrName 16 rfl) rfl h
def f_C_X6_wordOrName_3 (n : Nat) (a1 : Int32) (a2 : Int32) (s : hp_S) : Option (Int32 × hp_S) :=
  l_C_X6_wordOrName_3_2 n a1 a2 (4 : Int32) s
set_option maxRecDepth 100000 in
set_option maxHeartbeats 400000 in
theorem w_C_X6_wordOrName_3 (d : Nat) (n : Nat) (a1 : Int32) (a2 : Int32) (s s1 : hp_S) (x0 : Int32) (h : f_C_X6_wordOrName_3 n a1 a2 s = some (x0, s1)) : hp_is sh_C me_X6_wordOrName (d + 5) [.ref 3, .int a1, .int a2] s (some (.int x0)) s1 := by
  refine hp_ofF [(0, .ref 3), (1, .int a1), (2, .int a2)] (by decide +kernel) (Nat.le_of_ble_eq_true rfl) rfl ?_
  unfold f_C_X6_wordOrName_3 at h
  refine hq_iconst (v := (4 : Int32)) (pm_d rk_X6_wordOrName 0 rfl) (by decide) ?_
  refine hq_istore_n (L1 := [(3, .int (4 : Int32)), (0, .ref 3), (1, .int a1), (2, .int a2)]) (pm_d rk_X6_wordOrName 1 rfl) rfl (by decide) rfl ?_
  refine hq_drop [1, 2, 3, 0] rfl ?_
  exact wl_C_X6_wordOrName_3_2 d _ _   _ _ _ _ _ h
def f_C_X6_kindFrom_3 (n : Nat) (a1 : Int32) (a2 : Int32) (s : hp_S) : Option (Int32 × hp_S) :=
  pm_bd (f_C_X5_isLetter_1 a1 s) (fun x2 t1 =>
  if x2 = 0 then
    pm_bd (f_C_X5_isDigit_1 a1 t1) (fun x4 t3 =>
    if x4 = 0 then
      if (a2 - a1) = (2 : Int32) then
        some ((15 : Int32), t3)
      else
        pm_bd (f_C_X5_at_1 a1 t3) (fun x6 t5 =>
        pm_bd (f_C_X6_sign x6 t5) (fun x8 t7 =>
        some (x8, t7)))
    else
      if (9 : Int32) < (a2 - a1) then
        some ((1 : Int32), t3)
      else
        pm_bd (f_C_X6_holdsLetter_3 n a1 a2 t3) (fun x10 t9 =>
        if x10 = 0 then
          some ((3 : Int32), t9)
        else
          some ((1 : Int32), t9)))
  else
    if (a2 - a1) ≤ (10 : Int32) then
      pm_bd (f_C_X6_wordOrName_3 n a1 a2 t1) (fun x12 t11 =>
      some (x12, t11))
    else
      some ((1 : Int32), t1))
set_option maxRecDepth 100000 in
set_option maxHeartbeats 400000 in
theorem w_C_X6_kindFrom_3 (d : Nat) (n : Nat) (a1 : Int32) (a2 : Int32) (s s1 : hp_S) (x0 : Int32) (h : f_C_X6_kindFrom_3 n a1 a2 s = some (x0, s1)) : hp_is sh_C me_X6_kindFrom (d + 6) [.ref 3, .int a1, .int a2] s (some (.int x0)) s1 := by
  refine hp_ofF [(0, .ref 3), (1, .int a1), (2, .int a2)] (by decide +kernel) (Nat.le_of_ble_eq_true rfl) rfl ?_
  unfold f_C_X6_kindFrom_3 at h
  refine hq_aload_n (pm_d rk_X6_kindFrom 0 rfl) rfl 0 rfl ?_
  refine hq_getR (h := 1) 0 (pm_d rk_X6_kindFrom 1 rfl) fl_X6_25 rfl rfl ?_
  refine hq_iload_n (pm_d rk_X6_kindFrom 2 rfl) rfl 1 rfl ?_
  obtain ⟨x2, t1, hq, h⟩ := pm_bd_i h
  have hM := w_C_X5_isLetter_1 (d := d + 4) (h := hq)
  refine hq_callVi (a := 1) (ci := 5) [.int a1] [] (pm_d rk_X6_kindFrom 3 rfl) ml_X6_68 iv_X5_isLetter rfl rfl rfl rfl rfl (Nat.le_of_ble_eq_true rfl) hM ?_
  refine hq_if_eq 30 (pm_d rk_X6_kindFrom 4 rfl) (by decide) (fun hc => ?_) (fun hc => ?_)
  · rw [if_pos hc] at h
    show hp_go _ _ _ _ _ 30 _ _ _
    refine hq_aload_n (pm_d rk_X6_kindFrom 17 rfl) rfl 0 rfl ?_
    refine hq_getR (h := 1) 0 (pm_d rk_X6_kindFrom 18 rfl) fl_X6_25 rfl rfl ?_
    refine hq_iload_n (pm_d rk_X6_kindFrom 19 rfl) rfl 1 rfl ?_
    obtain ⟨x4, t3, hq, h⟩ := pm_bd_i h
    have hM := w_C_X5_isDigit_1 (d := d + 4) (h := hq)
    refine hq_callVi (a := 1) (ci := 5) [.int a1] [] (pm_d rk_X6_kindFrom 20 rfl) ml_X6_74 iv_X5_isDigit rfl rfl rfl rfl rfl (Nat.le_of_ble_eq_true rfl) hM ?_
    refine hq_if_eq 64 (pm_d rk_X6_kindFrom 21 rfl) (by decide) (fun hc => ?_) (fun hc => ?_)
    · rw [if_pos hc] at h
      refine hq_iload_n (pm_d rk_X6_kindFrom 36 rfl) rfl 2 rfl ?_
      show hp_go _ _ _ _ _ 65 _ _ _
      refine hq_iload_n (pm_d rk_X6_kindFrom 37 rfl) rfl 1 rfl ?_
      refine hq_isub (pm_d rk_X6_kindFrom 38 rfl) ?_
      refine hq_iconst (v := (2 : Int32)) (pm_d rk_X6_kindFrom 39 rfl) (by decide) ?_
      refine hq_icmp_ne 76 (pm_d rk_X6_kindFrom 40 rfl) (by decide) (fun hc => ?_) (fun hc => ?_)
      · rw [if_neg hc] at h
        refine hq_aload_n (pm_d rk_X6_kindFrom 43 rfl) rfl 0 rfl ?_
        refine hq_getR (h := 1) 0 (pm_d rk_X6_kindFrom 44 rfl) fl_X6_25 rfl rfl ?_
        show hp_go _ _ _ _ _ 80 _ _ _
        refine hq_iload_n (pm_d rk_X6_kindFrom 45 rfl) rfl 1 rfl ?_
        obtain ⟨x6, t5, hq, h⟩ := pm_bd_i h
        have hM := w_C_X5_at_1 (d := d + 5) (h := hq)
        refine hq_callVi (a := 1) (ci := 5) [.int a1] [] (pm_d rk_X6_kindFrom 46 rfl) ml_X6_47 iv_X5_at rfl rfl rfl rfl rfl (Nat.le_of_ble_eq_true rfl) hM ?_
        obtain ⟨x8, t7, hq, h⟩ := pm_bd_i h
        have hM := w_C_X6_sign (d := d + 5) (h := hq)
        refine hq_callSi [.int x6] [] (pm_d rk_X6_kindFrom 47 rfl) ml_X6_81 iv_X6_sign rfl rfl (Nat.le_of_ble_eq_true rfl) hM ?_
        exact hq_iret (pm_d rk_X6_kindFrom 48 rfl) rfl h
      rw [if_pos hc] at h
      refine hq_bipush (v := (15 : Int32)) (pm_d rk_X6_kindFrom 41 rfl) (by decide) ?_
      refine hq_goto 87 (pm_d rk_X6_kindFrom 42 rfl) (by decide) ?_
      show hp_go _ _ _ _ _ 87 _ _ _
      exact hq_iret (pm_d rk_X6_kindFrom 48 rfl) rfl h
    rw [if_neg hc] at h
    refine hq_iload_n (pm_d rk_X6_kindFrom 22 rfl) rfl 2 rfl ?_
    refine hq_iload_n (pm_d rk_X6_kindFrom 23 rfl) rfl 1 rfl ?_
    refine hq_isub (pm_d rk_X6_kindFrom 24 rfl) ?_
    refine hq_bipush (v := (9 : Int32)) (pm_d rk_X6_kindFrom 25 rfl) (by decide) ?_
    refine hq_icmp_gt 58 (pm_d rk_X6_kindFrom 26 rfl) (by decide) (fun hc => ?_) (fun hc => ?_)
    · rw [if_pos hc] at h
      show hp_go _ _ _ _ _ 58 _ _ _
      refine hq_iconst (v := (1 : Int32)) (pm_d rk_X6_kindFrom 32 rfl) (by decide) ?_
      refine hq_goto 63 (pm_d rk_X6_kindFrom 33 rfl) (by decide) ?_
      exact hq_iret (pm_d rk_X6_kindFrom 35 rfl) rfl h
    rw [if_neg hc] at h
    refine hq_aload_n (pm_d rk_X6_kindFrom 27 rfl) rfl 0 rfl ?_
    refine hq_iload_n (pm_d rk_X6_kindFrom 28 rfl) rfl 1 rfl ?_
    refine hq_iload_n (pm_d rk_X6_kindFrom 29 rfl) rfl 2 rfl ?_
    show hp_go _ _ _ _ _ 52 _ _ _
    obtain ⟨x10, t9, hq, h⟩ := pm_bd_i h
    have hM := w_C_X6_holdsLetter_3 (d := d + 3) (h := hq)
    refine hq_callVi (a := 3) (ci := 6) [.int a1, .int a2] [] (pm_d rk_X6_kindFrom 30 rfl) ml_X6_77 iv_X6_holdsLetter rfl rfl rfl rfl rfl (Nat.le_of_ble_eq_true rfl) hM ?_
    refine hq_if_eq 62 (pm_d rk_X6_kindFrom 31 rfl) (by decide) (fun hc => ?_) (fun hc => ?_)
    · rw [if_pos hc] at h
      refine hq_iconst (v := (3 : Int32)) (pm_d rk_X6_kindFrom 34 rfl) (by decide) ?_
      exact hq_iret (pm_d rk_X6_kindFrom 35 rfl) rfl h
    rw [if_neg hc] at h
    refine hq_iconst (v := (1 : Int32)) (pm_d rk_X6_kindFrom 32 rfl) (by decide) ?_
    refine hq_goto 63 (pm_d rk_X6_kindFrom 33 rfl) (by decide) ?_
    show hp_go _ _ _ _ _ 63 _ _ _
    exact hq_iret (pm_d rk_X6_kindFrom 35 rfl) rfl h
  rw [if_neg hc] at h
  refine hq_iload_n (pm_d rk_X6_kindFrom 5 rfl) rfl 2 rfl ?_
  refine hq_iload_n (pm_d rk_X6_kindFrom 6 rfl) rfl 1 rfl ?_
  refine hq_isub (pm_d rk_X6_kindFrom 7 rfl) ?_
  refine hq_bipush (v := (10 : Int32)) (pm_d rk_X6_kindFrom 8 rfl) (by decide) ?_
  refine hq_icmp_le 23 (pm_d rk_X6_kindFrom 9 rfl) (by decide) (fun hc => ?_) (fun hc => ?_)
  · rw [if_pos hc] at h
    show hp_go _ _ _ _ _ 23 _ _ _
    refine hq_aload_n (pm_d rk_X6_kindFrom 12 rfl) rfl 0 rfl ?_
    refine hq_iload_n (pm_d rk_X6_kindFrom 13 rfl) rfl 1 rfl ?_
    refine hq_iload_n (pm_d rk_X6_kindFrom 14 rfl) rfl 2 rfl ?_
    obtain ⟨x12, t11, hq, h⟩ := pm_bd_i h
    have hM := w_C_X6_wordOrName_3 (d := d + 0) (h := hq)
    refine hq_callVi (a := 3) (ci := 6) [.int a1, .int a2] [] (pm_d rk_X6_kindFrom 15 rfl) ml_X6_71 iv_X6_wordOrName rfl rfl rfl rfl rfl (Nat.le_of_ble_eq_true rfl) hM ?_
    exact hq_iret (pm_d rk_X6_kindFrom 16 rfl) rfl h
  rw [if_neg hc] at h
  refine hq_iconst (v := (1 : Int32)) (pm_d rk_X6_kindFrom 10 rfl) (by decide) ?_
  show hp_go _ _ _ _ _ 20 _ _ _
  refine hq_goto 29 (pm_d rk_X6_kindFrom 11 rfl) (by decide) ?_
  exact hq_iret (pm_d rk_X6_kindFrom 16 rfl) rfl h
def f_C_X6_add_3 (n : Nat) (a1 : Int32) (a2 : Int32) (s : hp_S) : Option hp_S :=
  if (500 : Int32) ≤ (hs_I s 3 4) then
    some s
  else
    pm_bd (f_C_X6_kindFrom_3 n a1 a2 s) (fun x2 t1 =>
    pm_gd1 (pm_ib (hs_I s 3 4) 500) (
    pm_let (hs_pA t1 4 (hs_I s 3 4).toNatClampNeg x2) (fun t3 =>
    pm_gd1 (pm_ib (hs_I t3 3 4) 500) (
    pm_let (hs_pA t3 5 (hs_I t3 3 4).toNatClampNeg a1) (fun t4 =>
    pm_gd1 (pm_ib (hs_I t4 3 4) 500) (
    pm_let (hs_pA t4 6 (hs_I t4 3 4).toNatClampNeg a2) (fun t5 =>
    pm_let (hs_pI t5 3 4 ((hs_I t5 3 4) + (1 : Int32))) (fun t6 =>
    some t6))))))))
set_option maxRecDepth 100000 in
set_option maxHeartbeats 400000 in
theorem w_C_X6_add_3 (d : Nat) (n : Nat) (a1 : Int32) (a2 : Int32) (s s1 : hp_S) (h : f_C_X6_add_3 n a1 a2 s = some s1) : hp_is sh_C me_X6_add (d + 7) [.ref 3, .int a1, .int a2] s none s1 := by
  refine hp_ofF [(0, .ref 3), (1, .int a1), (2, .int a2)] (by decide +kernel) (Nat.le_of_ble_eq_true rfl) rfl ?_
  unfold f_C_X6_add_3 at h
  refine hq_aload_n (pm_d rk_X6_add 0 rfl) rfl 0 rfl ?_
  refine hq_getI 4 (pm_d rk_X6_add 1 rfl) fl_X6_21 rfl rfl ?_
  refine hq_sipush (v := (500 : Int32)) (pm_d rk_X6_add 2 rfl) (by decide) ?_
  refine hq_icmp_ge 55 (pm_d rk_X6_add 3 rfl) (by decide) (fun hc => ?_) (fun hc => ?_)
  · rw [if_pos hc] at h
    exact hq_vret (pm_d rk_X6_add 31 rfl) rfl h
  rw [if_neg hc] at h
  show hp_go _ _ _ _ _ 10 _ _ _
  refine hq_aload_n (pm_d rk_X6_add 4 rfl) rfl 0 rfl ?_
  refine hq_getR (h := 4) 1 (pm_d rk_X6_add 5 rfl) fl_X6_9 rfl rfl ?_
  refine hq_aload_n (pm_d rk_X6_add 6 rfl) rfl 0 rfl ?_
  refine hq_getI 4 (pm_d rk_X6_add 7 rfl) fl_X6_21 rfl rfl ?_
  refine hq_aload_n (pm_d rk_X6_add 8 rfl) rfl 0 rfl ?_
  refine hq_iload_n (pm_d rk_X6_add 9 rfl) rfl 1 rfl ?_
  show hp_go _ _ _ _ _ 20 _ _ _
  refine hq_iload_n (pm_d rk_X6_add 10 rfl) rfl 2 rfl ?_
  obtain ⟨x2, t1, hq, h⟩ := pm_bd_i h
  have hM := w_C_X6_kindFrom_3 (d := d + 0) (h := hq)
  refine hq_callVi (a := 3) (ci := 6) [.int a1, .int a2] [.int (hs_I s 3 4), .ref 4] (pm_d rk_X6_add 11 rfl) ml_X6_61 iv_X6_kindFrom rfl rfl rfl rfl rfl (Nat.le_of_ble_eq_true rfl) hM ?_
  obtain ⟨hg, h⟩ := pm_gd_i h
  refine hq_iastore (pm_d rk_X6_add 12 rfl) rfl hg ?_
  refine pm_nm (G := fun t3 => hp_go sh_C me_X6_add (d + 7) none s1 25 [(0, .ref 3), (1, .int a1), (2, .int a2)] [] t3) h (fun t3 h => ?_)
  refine hq_aload_n (pm_d rk_X6_add 13 rfl) rfl 0 rfl ?_
  refine hq_getR (h := 5) 2 (pm_d rk_X6_add 14 rfl) fl_X6_15 rfl rfl ?_
  refine hq_aload_n (pm_d rk_X6_add 15 rfl) rfl 0 rfl ?_
  show hp_go _ _ _ _ _ 30 _ _ _
  refine hq_getI 4 (pm_d rk_X6_add 16 rfl) fl_X6_21 rfl rfl ?_
  refine hq_iload_n (pm_d rk_X6_add 17 rfl) rfl 1 rfl ?_
  obtain ⟨hg, h⟩ := pm_gd_i h
  refine hq_iastore (pm_d rk_X6_add 18 rfl) rfl hg ?_
  refine pm_nm (G := fun t4 => hp_go sh_C me_X6_add (d + 7) none s1 35 [(0, .ref 3), (1, .int a1), (2, .int a2)] [] t4) h (fun t4 h => ?_)
  refine hq_aload_n (pm_d rk_X6_add 19 rfl) rfl 0 rfl ?_
  refine hq_getR (h := 6) 3 (pm_d rk_X6_add 20 rfl) fl_X6_18 rfl rfl ?_
  refine hq_aload_n (pm_d rk_X6_add 21 rfl) rfl 0 rfl ?_
  show hp_go _ _ _ _ _ 40 _ _ _
  refine hq_getI 4 (pm_d rk_X6_add 22 rfl) fl_X6_21 rfl rfl ?_
  refine hq_iload_n (pm_d rk_X6_add 23 rfl) rfl 2 rfl ?_
  obtain ⟨hg, h⟩ := pm_gd_i h
  refine hq_iastore (pm_d rk_X6_add 24 rfl) rfl hg ?_
  refine pm_nm (G := fun t5 => hp_go sh_C me_X6_add (d + 7) none s1 45 [(0, .ref 3), (1, .int a1), (2, .int a2)] [] t5) h (fun t5 h => ?_)
  refine hq_aload_n (pm_d rk_X6_add 25 rfl) rfl 0 rfl ?_
  refine hq_dup (pm_d rk_X6_add 26 rfl) rfl ?_
  refine hq_getI 4 (pm_d rk_X6_add 27 rfl) fl_X6_21 rfl rfl ?_
  show hp_go _ _ _ _ _ 50 _ _ _
  refine hq_iconst (v := (1 : Int32)) (pm_d rk_X6_add 28 rfl) (by decide) ?_
  refine hq_iadd (pm_d rk_X6_add 29 rfl) ?_
  refine hq_putI 4 (pm_d rk_X6_add 30 rfl) fl_X6_21 rfl rfl ?_
  refine pm_nm (G := fun t6 => hp_go sh_C me_X6_add (d + 7) none s1 55 [(0, .ref 3), (1, .int a1), (2, .int a2)] [] t6) h (fun t6 h => ?_)
  exact hq_vret (pm_d rk_X6_add 31 rfl) rfl h
def l_C_X6_read_3_9 : Nat → Int32 → Int32 → hp_S → Option hp_S
  | 0, _, _, _ => none
  | n + 1, y1, y2, s =>
    if (500 : Int32) ≤ y2 then
      some s
    else
      pm_bd (f_C_X5_length_1 s) (fun x3 t2 =>
      if x3 ≤ y1 then
        some t2
      else
        pm_bd (f_C_X5_isBlank_1 y1 t2) (fun x5 t4 =>
        pm_let (fun (z58_1 : Int32) (z58_2 : Int32) (s : hp_S) =>
          pm_let (z58_2 + (1 : Int32)) (fun x6 =>
          l_C_X6_read_3_9 n z58_1 x6 s)) (fun j58 =>
        if x5 = 0 then
          pm_bd (f_C_X6_endFrom_3 n y1 t4) (fun x8 t7 =>
          pm_b1 (f_C_X6_add_3 n y1 x8 t7) (fun t9 =>
          j58 x8 y2 t9))
        else
          pm_let (y1 + (1 : Int32)) (fun x10 =>
          j58 x10 y2 t4))))
set_option maxRecDepth 100000 in
set_option maxHeartbeats 400000 in
theorem wl_C_X6_read_3_9 (d : Nat) (s1 : hp_S)  : ∀ (n : Nat) (y1 : Int32) (y2 : Int32) (s : hp_S), l_C_X6_read_3_9 n y1 y2 s = some s1 → hp_go sh_C me_X6_read (d + 8) none s1 9 [(0, .ref 3), (1, .int y1), (2, .int y2)] [] s := by
  intro n
  induction n with
  | zero =>
    intro y1 y2 s h
    cases h
  | succ n ih =>
    intro y1 y2 s h
    rw [l_C_X6_read_3_9.eq_2] at h
    refine hq_iload_n (pm_d rk_X6_read 7 rfl) rfl 2 rfl ?_
    refine hq_sipush (v := (500 : Int32)) (pm_d rk_X6_read 8 rfl) (by decide) ?_
    refine hq_icmp_ge 64 (pm_d rk_X6_read 9 rfl) (by decide) (fun hc => ?_) (fun hc => ?_)
    · rw [if_pos hc] at h
      exact hq_vret (pm_d rk_X6_read 34 rfl) rfl h
    rw [if_neg hc] at h
    show hp_go _ _ _ _ _ 16 _ _ _
    refine hq_iload_n (pm_d rk_X6_read 10 rfl) rfl 1 rfl ?_
    refine hq_aload_n (pm_d rk_X6_read 11 rfl) rfl 0 rfl ?_
    refine hq_getR (h := 1) 0 (pm_d rk_X6_read 12 rfl) fl_X6_25 rfl rfl ?_
    obtain ⟨x3, t2, hq, h⟩ := pm_bd_i h
    have hM := w_C_X5_length_1 (d := d + 7) (h := hq)
    refine hq_callVi (a := 1) (ci := 5) [] [.int y1] (pm_d rk_X6_read 13 rfl) ml_X6_29 iv_X5_length rfl rfl rfl rfl rfl (Nat.le_of_ble_eq_true rfl) hM ?_
    refine hq_icmp_ge 64 (pm_d rk_X6_read 14 rfl) (by decide) (fun hc => ?_) (fun hc => ?_)
    · rw [if_pos hc] at h
      exact hq_vret (pm_d rk_X6_read 34 rfl) rfl h
    rw [if_neg hc] at h
    show hp_go _ _ _ _ _ 27 _ _ _
    refine hq_aload_n (pm_d rk_X6_read 15 rfl) rfl 0 rfl ?_
    refine hq_getR (h := 1) 0 (pm_d rk_X6_read 16 rfl) fl_X6_25 rfl rfl ?_
    refine hq_iload_n (pm_d rk_X6_read 17 rfl) rfl 1 rfl ?_
    obtain ⟨x5, t4, hq, h⟩ := pm_bd_i h
    have hM := w_C_X5_isBlank_1 (d := d + 6) (h := hq)
    refine hq_callVi (a := 1) (ci := 5) [.int y1] [] (pm_d rk_X6_read 18 rfl) ml_X6_35 iv_X5_isBlank rfl rfl rfl rfl rfl (Nat.le_of_ble_eq_true rfl) hM ?_
    refine pm_jn (P := fun j58 => ∀ (z58_1 : Int32) (z58_2 : Int32) (s : hp_S), j58 z58_1 z58_2 s = some s1 → hp_go sh_C me_X6_read (d + 8) none s1 58 [(0, .ref 3), (1, .int z58_1), (2, .int z58_2)] [] s) h ?_ (fun j58 hj58 h => ?_)
    · intro z58_1 z58_2 s h
      dsimp only at h
      refine hq_iinc (v := z58_2 + (1 : Int32)) (L1 := [(2, .int (z58_2 + (1 : Int32))), (0, .ref 3), (1, .int z58_1)]) (pm_d rk_X6_read 32 rfl) 2 rfl (by rw [show Int32.ofInt (1) = (1 : Int32) by decide]) (by decide) rfl ?_
      refine pm_nm (G := fun x6 => hp_go sh_C me_X6_read (d + 8) none s1 61 [(2, .int x6), (0, .ref 3), (1, .int z58_1)] [] s) h (fun x6 h => ?_)
      refine hq_goto 9 (pm_d rk_X6_read 33 rfl) (by decide) ?_
      refine hq_drop [1, 2, 0] rfl ?_
      exact ih _ _ _ h
    show hp_go _ _ _ _ _ 35 _ _ _
    refine hq_if_eq 44 (pm_d rk_X6_read 19 rfl) (by decide) (fun hc => ?_) (fun hc => ?_)
    · rw [if_pos hc] at h
      refine hq_aload_n (pm_d rk_X6_read 22 rfl) rfl 0 rfl ?_
      refine hq_iload_n (pm_d rk_X6_read 23 rfl) rfl 1 rfl ?_
      obtain ⟨x8, t7, hq, h⟩ := pm_bd_i h
      have hM := w_C_X6_endFrom_3 (d := d + 4) (h := hq)
      refine hq_callVi (a := 3) (ci := 6) [.int y1] [] (pm_d rk_X6_read 24 rfl) ml_X6_39 iv_X6_endFrom rfl rfl rfl rfl rfl (Nat.le_of_ble_eq_true rfl) hM ?_
      refine hq_istore_n (L1 := [(3, .int x8), (0, .ref 3), (1, .int y1), (2, .int y2)]) (pm_d rk_X6_read 25 rfl) rfl (by decide) rfl ?_
      refine hq_aload_n (pm_d rk_X6_read 26 rfl) rfl 1 rfl ?_
      show hp_go _ _ _ _ _ 51 _ _ _
      refine hq_iload_n (pm_d rk_X6_read 27 rfl) rfl 2 rfl ?_
      refine hq_iload_n (pm_d rk_X6_read 28 rfl) rfl 0 rfl ?_
      obtain ⟨t9, hq, h⟩ := pm_b1_i h
      have hM := w_C_X6_add_3 (d := d + 0) (h := hq)
      refine hq_callVv (a := 3) (ci := 6) [.int y1, .int x8] [] (pm_d rk_X6_read 29 rfl) ml_X6_43 iv_X6_add rfl rfl rfl rfl rfl (Nat.le_of_ble_eq_true rfl) hM ?_
      refine hq_iload_n (pm_d rk_X6_read 30 rfl) rfl 0 rfl ?_
      refine hq_istore_n (L1 := [(1, .int x8), (3, .int x8), (0, .ref 3), (2, .int y2)]) (pm_d rk_X6_read 31 rfl) rfl (by decide) rfl ?_
      refine hq_drop [2, 0, 3] rfl ?_
      exact hj58 _ _ _ h
    rw [if_neg hc] at h
    refine hq_iinc (v := y1 + (1 : Int32)) (L1 := [(1, .int (y1 + (1 : Int32))), (0, .ref 3), (2, .int y2)]) (pm_d rk_X6_read 20 rfl) 1 rfl (by rw [show Int32.ofInt (1) = (1 : Int32) by decide]) (by decide) rfl ?_
    refine pm_nm (G := fun x10 => hp_go sh_C me_X6_read (d + 8) none s1 41 [(1, .int x10), (0, .ref 3), (2, .int y2)] [] t4) h (fun x10 h => ?_)
    show hp_go _ _ _ _ _ 41 _ _ _
    refine hq_goto 58 (pm_d rk_X6_read 21 rfl) (by decide) ?_
    refine hq_drop [1, 0, 2] rfl ?_
    exact hj58 _ _ _ h
def f_C_X6_read_3 (n : Nat) (s : hp_S) : Option hp_S :=
  pm_let (hs_pI s 3 4 (0 : Int32)) (fun t1 =>
  l_C_X6_read_3_9 n (0 : Int32) (0 : Int32) t1)
set_option maxRecDepth 100000 in
set_option maxHeartbeats 400000 in
theorem w_C_X6_read_3 (d : Nat) (n : Nat) (s s1 : hp_S) (h : f_C_X6_read_3 n s = some s1) : hp_is sh_C me_X6_read (d + 8) [.ref 3] s none s1 := by
  refine hp_ofF [(0, .ref 3)] (by decide +kernel) (Nat.le_of_ble_eq_true rfl) rfl ?_
  unfold f_C_X6_read_3 at h
  refine hq_aload_n (pm_d rk_X6_read 0 rfl) rfl 0 rfl ?_
  refine hq_iconst (v := (0 : Int32)) (pm_d rk_X6_read 1 rfl) (by decide) ?_
  refine hq_putI 4 (pm_d rk_X6_read 2 rfl) fl_X6_21 rfl rfl ?_
  refine pm_nm (G := fun t1 => hp_go sh_C me_X6_read (d + 8) none s1 5 [(0, .ref 3)] [] t1) h (fun t1 h => ?_)
  refine hq_iconst (v := (0 : Int32)) (pm_d rk_X6_read 3 rfl) (by decide) ?_
  refine hq_istore_n (L1 := [(1, .int (0 : Int32)), (0, .ref 3)]) (pm_d rk_X6_read 4 rfl) rfl (by decide) rfl ?_
  show hp_go _ _ _ _ _ 7 _ _ _
  refine hq_iconst (v := (0 : Int32)) (pm_d rk_X6_read 5 rfl) (by decide) ?_
  refine hq_istore_n (L1 := [(2, .int (0 : Int32)), (1, .int (0 : Int32)), (0, .ref 3)]) (pm_d rk_X6_read 6 rfl) rfl (by decide) rfl ?_
  refine hq_drop [2, 1, 0] rfl ?_
  exact wl_C_X6_read_3_9 d _   _ _ _ _ h
