def f_C_X3_clear_39  (s : hp_S) : Option hp_S :=
  pm_let (hs_pI s 39 1 (0 : Int32)) (fun t1 =>
  pm_let (hs_pI t1 39 2 (0 : Int32)) (fun t2 =>
  some t2))
set_option maxRecDepth 100000 in
set_option maxHeartbeats 400000 in
theorem w_C_X3_clear_39 (d : Nat)  (s s1 : hp_S) (h : f_C_X3_clear_39 s = some s1) : hp_is sh_C me_X3_clear (d + 0) [.ref 39] s none s1 := by
  refine hp_ofF [(0, .ref 39)] (by decide +kernel) (Nat.le_of_ble_eq_true rfl) rfl ?_
  unfold f_C_X3_clear_39 at h
  refine hq_aload_n (pm_d rk_X3_clear 0 rfl) rfl 0 rfl ?_
  refine hq_iconst (v := (0 : Int32)) (pm_d rk_X3_clear 1 rfl) (by decide) ?_
  refine hq_putI 1 (pm_d rk_X3_clear 2 rfl) fl_X3_15 rfl rfl ?_
  refine pm_nm (G := fun t1 => hp_go sh_C me_X3_clear (d + 0) none s1 5 [(0, .ref 39)] [] t1) h (fun t1 h => ?_)
  refine hq_aload_n (pm_d rk_X3_clear 3 rfl) rfl 0 rfl ?_
  refine hq_iconst (v := (0 : Int32)) (pm_d rk_X3_clear 4 rfl) (by decide) ?_
  show hp_go _ _ _ _ _ 7 _ _ _
  refine hq_putI 2 (pm_d rk_X3_clear 5 rfl) fl_X3_19 rfl rfl ?_
  refine pm_nm (G := fun t2 => hp_go sh_C me_X3_clear (d + 0) none s1 10 [(0, .ref 39)] [] t2) h (fun t2 h => ?_)
  exact hq_vret (pm_d rk_X3_clear 6 rfl) rfl h
def l_C_X10_forgetLastText_0_22 : Nat → Int32 → hp_S → Option hp_S
  | 0, _, _ => none
  | n + 1, y1, s =>
    if (100 : Int32) ≤ y1 then
      pm_b1 (f_C_X3_clear_39 s) (fun t5 =>
      some t5)
    else
      pm_gd1 (pm_ib y1 100) (
      pm_let (hs_pA s 42 y1.toNatClampNeg (vp_nar .boolean (0 : Int32))) (fun t6 =>
      pm_let (y1 + (1 : Int32)) (fun x7 =>
      l_C_X10_forgetLastText_0_22 n x7 t6)))
set_option maxRecDepth 100000 in
set_option maxHeartbeats 400000 in
theorem wl_C_X10_forgetLastText_0_22 (d : Nat) (s1 : hp_S)  : ∀ (n : Nat) (y1 : Int32) (s : hp_S), l_C_X10_forgetLastText_0_22 n y1 s = some s1 → hp_go sh_C me_X10_forgetLastText (d + 1) none s1 22 [(0, .ref 0), (1, .int y1)] [] s := by
  intro n
  induction n with
  | zero =>
    intro y1 s h
    cases h
  | succ n ih =>
    intro y1 s h
    rw [l_C_X10_forgetLastText_0_22.eq_2] at h
    refine hq_iload_n (pm_d rk_X10_forgetLastText 14 rfl) rfl 1 rfl ?_
    refine hq_bipush (v := (100 : Int32)) (pm_d rk_X10_forgetLastText 15 rfl) (by decide) ?_
    refine hq_icmp_ge 41 (pm_d rk_X10_forgetLastText 16 rfl) (by decide) (fun hc => ?_) (fun hc => ?_)
    · rw [if_pos hc] at h
      show hp_go _ _ _ _ _ 41 _ _ _
      refine hq_aload_n (pm_d rk_X10_forgetLastText 24 rfl) rfl 0 rfl ?_
      refine hq_getR (h := 39) 7 (pm_d rk_X10_forgetLastText 25 rfl) fl_X10_69 rfl rfl ?_
      obtain ⟨t5, hq, h⟩ := pm_b1_i h
      have hM := w_C_X3_clear_39 (d := d + 0) (h := hq)
      refine hq_callVv (a := 39) (ci := 3) [] [] (pm_d rk_X10_forgetLastText 26 rfl) ml_X10_126 iv_X3_clear rfl rfl rfl rfl rfl (Nat.le_of_ble_eq_true rfl) hM ?_
      exact hq_vret (pm_d rk_X10_forgetLastText 27 rfl) rfl h
    rw [if_neg hc] at h
    refine hq_aload_n (pm_d rk_X10_forgetLastText 17 rfl) rfl 0 rfl ?_
    refine hq_getR (h := 42) 9 (pm_d rk_X10_forgetLastText 18 rfl) fl_X10_82 rfl rfl ?_
    show hp_go _ _ _ _ _ 32 _ _ _
    refine hq_iload_n (pm_d rk_X10_forgetLastText 19 rfl) rfl 1 rfl ?_
    refine hq_iconst (v := (0 : Int32)) (pm_d rk_X10_forgetLastText 20 rfl) (by decide) ?_
    obtain ⟨hg, h⟩ := pm_gd_i h
    refine hq_zastore (pm_d rk_X10_forgetLastText 21 rfl) rfl hg ?_
    refine pm_nm (G := fun t6 => hp_go sh_C me_X10_forgetLastText (d + 1) none s1 35 [(0, .ref 0), (1, .int y1)] [] t6) h (fun t6 h => ?_)
    refine hq_iinc (v := y1 + (1 : Int32)) (L1 := [(1, .int (y1 + (1 : Int32))), (0, .ref 0)]) (pm_d rk_X10_forgetLastText 22 rfl) 1 rfl (by rw [show Int32.ofInt (1) = (1 : Int32) by decide]) (by decide) rfl ?_
    refine pm_nm (G := fun x7 => hp_go sh_C me_X10_forgetLastText (d + 1) none s1 38 [(1, .int x7), (0, .ref 0)] [] t6) h (fun x7 h => ?_)
    refine hq_goto 22 (pm_d rk_X10_forgetLastText 23 rfl) (by decide) ?_
    refine hq_drop [1, 0] rfl ?_
    exact ih _ _ h
def f_C_X10_forgetLastText_0 (n : Nat) (s : hp_S) : Option hp_S :=
  pm_let (hs_pI s 0 10 (-1 : Int32)) (fun t1 =>
  pm_let (hs_pI t1 0 11 (0 : Int32)) (fun t2 =>
  pm_let (hs_pI t2 0 12 (0 : Int32)) (fun t3 =>
  pm_let (hs_pI t3 0 13 (0 : Int32)) (fun t4 =>
  l_C_X10_forgetLastText_0_22 n (0 : Int32) t4))))
set_option maxRecDepth 100000 in
set_option maxHeartbeats 400000 in
theorem w_C_X10_forgetLastText_0 (d : Nat) (n : Nat) (s s1 : hp_S) (h : f_C_X10_forgetLastText_0 n s = some s1) : hp_is sh_C me_X10_forgetLastText (d + 1) [.ref 0] s none s1 := by
  refine hp_ofF [(0, .ref 0)] (by decide +kernel) (Nat.le_of_ble_eq_true rfl) rfl ?_
  unfold f_C_X10_forgetLastText_0 at h
  refine hq_aload_n (pm_d rk_X10_forgetLastText 0 rfl) rfl 0 rfl ?_
  refine hq_iconst (v := (-1 : Int32)) (pm_d rk_X10_forgetLastText 1 rfl) (by decide) ?_
  refine hq_putI 10 (pm_d rk_X10_forgetLastText 2 rfl) fl_X10_86 rfl rfl ?_
  refine pm_nm (G := fun t1 => hp_go sh_C me_X10_forgetLastText (d + 1) none s1 5 [(0, .ref 0)] [] t1) h (fun t1 h => ?_)
  refine hq_aload_n (pm_d rk_X10_forgetLastText 3 rfl) rfl 0 rfl ?_
  refine hq_iconst (v := (0 : Int32)) (pm_d rk_X10_forgetLastText 4 rfl) (by decide) ?_
  show hp_go _ _ _ _ _ 7 _ _ _
  refine hq_putI 11 (pm_d rk_X10_forgetLastText 5 rfl) fl_X10_90 rfl rfl ?_
  refine pm_nm (G := fun t2 => hp_go sh_C me_X10_forgetLastText (d + 1) none s1 10 [(0, .ref 0)] [] t2) h (fun t2 h => ?_)
  refine hq_aload_n (pm_d rk_X10_forgetLastText 6 rfl) rfl 0 rfl ?_
  refine hq_iconst (v := (0 : Int32)) (pm_d rk_X10_forgetLastText 7 rfl) (by decide) ?_
  refine hq_putI 12 (pm_d rk_X10_forgetLastText 8 rfl) fl_X10_93 rfl rfl ?_
  refine pm_nm (G := fun t3 => hp_go sh_C me_X10_forgetLastText (d + 1) none s1 15 [(0, .ref 0)] [] t3) h (fun t3 h => ?_)
  refine hq_aload_n (pm_d rk_X10_forgetLastText 9 rfl) rfl 0 rfl ?_
  refine hq_iconst (v := (0 : Int32)) (pm_d rk_X10_forgetLastText 10 rfl) (by decide) ?_
  show hp_go _ _ _ _ _ 17 _ _ _
  refine hq_putI 13 (pm_d rk_X10_forgetLastText 11 rfl) fl_X10_96 rfl rfl ?_
  refine pm_nm (G := fun t4 => hp_go sh_C me_X10_forgetLastText (d + 1) none s1 20 [(0, .ref 0)] [] t4) h (fun t4 h => ?_)
  refine hq_iconst (v := (0 : Int32)) (pm_d rk_X10_forgetLastText 12 rfl) (by decide) ?_
  refine hq_istore_n (L1 := [(1, .int (0 : Int32)), (0, .ref 0)]) (pm_d rk_X10_forgetLastText 13 rfl) rfl (by decide) rfl ?_
  refine hq_drop [1, 0] rfl ?_
  exact wl_C_X10_forgetLastText_0_22 d _   _ _ _ h
def f_C_X4_drafts_7  (s : hp_S) : Option hp_S :=
  some s
set_option maxRecDepth 100000 in
set_option maxHeartbeats 400000 in
theorem w_C_X4_drafts_7 (d : Nat)  (s s1 : hp_S) (h : f_C_X4_drafts_7 s = some s1) : hp_is sh_C me_X4_drafts (d + 0) [.ref 7] s (some (.ref 8)) s1 := by
  refine hp_ofF [(0, .ref 7)] (by decide +kernel) (Nat.le_of_ble_eq_true rfl) rfl ?_
  unfold f_C_X4_drafts_7 at h
  refine hq_aload_n (pm_d rk_X4_drafts 0 rfl) rfl 0 rfl ?_
  refine hq_getR (h := 8) 1 (pm_d rk_X4_drafts 1 rfl) fl_X4_16 rfl rfl ?_
  exact hq_aret (pm_d rk_X4_drafts 2 rfl) rfl (Or.inl ⟨_, rfl⟩) h
def f_C_X4_root_7  (s : hp_S) : Option (Int32 × hp_S) :=
  some ((hs_I s 7 9), s)
set_option maxRecDepth 100000 in
set_option maxHeartbeats 400000 in
theorem w_C_X4_root_7 (d : Nat)  (s s1 : hp_S) (x0 : Int32) (h : f_C_X4_root_7 s = some (x0, s1)) : hp_is sh_C me_X4_root (d + 0) [.ref 7] s (some (.int x0)) s1 := by
  refine hp_ofF [(0, .ref 7)] (by decide +kernel) (Nat.le_of_ble_eq_true rfl) rfl ?_
  unfold f_C_X4_root_7 at h
  refine hq_aload_n (pm_d rk_X4_root 0 rfl) rfl 0 rfl ?_
  refine hq_getI 9 (pm_d rk_X4_root 1 rfl) fl_X4_43 rfl rfl ?_
  exact hq_iret (pm_d rk_X4_root 2 rfl) rfl h
def f_C_X7_ownerOf_16 (a1 : Int32) (s : hp_S) : Option (Int32 × hp_S) :=
  if a1 < 0 then
    some ((-1 : Int32), s)
  else
    if (500 : Int32) ≤ a1 then
      some ((-1 : Int32), s)
    else
      pm_gd1 (pm_ib a1 500) (
      some ((hs_A s 25 a1.toNatClampNeg), s))
set_option maxRecDepth 100000 in
set_option maxHeartbeats 400000 in
theorem w_C_X7_ownerOf_16 (d : Nat) (a1 : Int32) (s s1 : hp_S) (x0 : Int32) (h : f_C_X7_ownerOf_16 a1 s = some (x0, s1)) : hp_is sh_C me_X7_ownerOf (d + 0) [.ref 16, .int a1] s (some (.int x0)) s1 := by
  refine hp_ofF [(0, .ref 16), (1, .int a1)] (by decide +kernel) (Nat.le_of_ble_eq_true rfl) rfl ?_
  unfold f_C_X7_ownerOf_16 at h
  refine hq_iload_n (pm_d rk_X7_ownerOf 0 rfl) rfl 1 rfl ?_
  refine hq_if_lt 20 (pm_d rk_X7_ownerOf 1 rfl) (by decide) (fun hc => ?_) (fun hc => ?_)
  · rw [if_pos hc] at h
    refine hq_iconst (v := (-1 : Int32)) (pm_d rk_X7_ownerOf 10 rfl) (by decide) ?_
    exact hq_iret (pm_d rk_X7_ownerOf 11 rfl) rfl h
  rw [if_neg hc] at h
  refine hq_iload_n (pm_d rk_X7_ownerOf 2 rfl) rfl 1 rfl ?_
  show hp_go _ _ _ _ _ 5 _ _ _
  refine hq_sipush (v := (500 : Int32)) (pm_d rk_X7_ownerOf 3 rfl) (by decide) ?_
  refine hq_icmp_ge 20 (pm_d rk_X7_ownerOf 4 rfl) (by decide) (fun hc => ?_) (fun hc => ?_)
  · rw [if_pos hc] at h
    refine hq_iconst (v := (-1 : Int32)) (pm_d rk_X7_ownerOf 10 rfl) (by decide) ?_
    exact hq_iret (pm_d rk_X7_ownerOf 11 rfl) rfl h
  rw [if_neg hc] at h
  refine hq_aload_n (pm_d rk_X7_ownerOf 5 rfl) rfl 0 rfl ?_
  refine hq_getR (h := 25) 3 (pm_d rk_X7_ownerOf 6 rfl) fl_X7_27 rfl rfl ?_
  show hp_go _ _ _ _ _ 15 _ _ _
  refine hq_iload_n (pm_d rk_X7_ownerOf 7 rfl) rfl 1 rfl ?_
  obtain ⟨hg, h⟩ := pm_gd_i h
  refine hq_iaload (pm_d rk_X7_ownerOf 8 rfl) rfl hg ?_
  refine hq_goto 21 (pm_d rk_X7_ownerOf 9 rfl) (by decide) ?_
  exact hq_iret (pm_d rk_X7_ownerOf 11 rfl) rfl h
def f_C_X4_owner_7 (a1 : Int32) (s : hp_S) : Option (Int32 × hp_S) :=
  pm_bd (f_C_X4_isPlace a1 s) (fun x2 t1 =>
  if x2 = 0 then
    some ((-1 : Int32), t1)
  else
    pm_gd1 (pm_ib a1 501) (
    some ((hs_A t1 14 a1.toNatClampNeg), t1)))
set_option maxRecDepth 100000 in
set_option maxHeartbeats 400000 in
theorem w_C_X4_owner_7 (d : Nat) (a1 : Int32) (s s1 : hp_S) (x0 : Int32) (h : f_C_X4_owner_7 a1 s = some (x0, s1)) : hp_is sh_C me_X4_owner (d + 1) [.ref 7, .int a1] s (some (.int x0)) s1 := by
  refine hp_ofF [(0, .ref 7), (1, .int a1)] (by decide +kernel) (Nat.le_of_ble_eq_true rfl) rfl ?_
  unfold f_C_X4_owner_7 at h
  refine hq_iload_n (pm_d rk_X4_owner 0 rfl) rfl 1 rfl ?_
  obtain ⟨x2, t1, hq, h⟩ := pm_bd_i h
  have hM := w_C_X4_isPlace (d := d + 0) (h := hq)
  refine hq_callSi [.int a1] [] (pm_d rk_X4_owner 1 rfl) ml_X4_61 iv_X4_isPlace rfl rfl (Nat.le_of_ble_eq_true rfl) hM ?_
  refine hq_if_eq 16 (pm_d rk_X4_owner 2 rfl) (by decide) (fun hc => ?_) (fun hc => ?_)
  · rw [if_pos hc] at h
    refine hq_iconst (v := (-1 : Int32)) (pm_d rk_X4_owner 8 rfl) (by decide) ?_
    exact hq_iret (pm_d rk_X4_owner 9 rfl) rfl h
  rw [if_neg hc] at h
  show hp_go _ _ _ _ _ 7 _ _ _
  refine hq_aload_n (pm_d rk_X4_owner 3 rfl) rfl 0 rfl ?_
  refine hq_getR (h := 14) 2 (pm_d rk_X4_owner 4 rfl) fl_X4_20 rfl rfl ?_
  refine hq_iload_n (pm_d rk_X4_owner 5 rfl) rfl 1 rfl ?_
  obtain ⟨hg, h⟩ := pm_gd_i h
  refine hq_iaload (pm_d rk_X4_owner 6 rfl) rfl hg ?_
  refine hq_goto 17 (pm_d rk_X4_owner 7 rfl) (by decide) ?_
  exact hq_iret (pm_d rk_X4_owner 9 rfl) rfl h
def f_C_X2_first_8 (a1 : Int32) (s : hp_S) : Option (Int32 × hp_S) :=
  pm_bd (f_C_X2_holds_8 a1 s) (fun x2 t1 =>
  if x2 = 0 then
    some ((-1 : Int32), t1)
  else
    pm_gd1 (pm_ib a1 501) (
    some ((hs_A t1 10 a1.toNatClampNeg), t1)))
set_option maxRecDepth 100000 in
set_option maxHeartbeats 400000 in
theorem w_C_X2_first_8 (d : Nat) (a1 : Int32) (s s1 : hp_S) (x0 : Int32) (h : f_C_X2_first_8 a1 s = some (x0, s1)) : hp_is sh_C me_X2_first (d + 1) [.ref 8, .int a1] s (some (.int x0)) s1 := by
  refine hp_ofF [(0, .ref 8), (1, .int a1)] (by decide +kernel) (Nat.le_of_ble_eq_true rfl) rfl ?_
  unfold f_C_X2_first_8 at h
  refine hq_aload_n (pm_d rk_X2_first 0 rfl) rfl 0 rfl ?_
  refine hq_iload_n (pm_d rk_X2_first 1 rfl) rfl 1 rfl ?_
  obtain ⟨x2, t1, hq, h⟩ := pm_bd_i h
  have hM := w_C_X2_holds_8 (d := d + 0) (h := hq)
  refine hq_callVi (a := 8) (ci := 2) [.int a1] [] (pm_d rk_X2_first 2 rfl) ml_X2_33 iv_X2_holds rfl rfl rfl rfl rfl (Nat.le_of_ble_eq_true rfl) hM ?_
  refine hq_if_eq 17 (pm_d rk_X2_first 3 rfl) (by decide) (fun hc => ?_) (fun hc => ?_)
  · rw [if_pos hc] at h
    refine hq_iconst (v := (-1 : Int32)) (pm_d rk_X2_first 9 rfl) (by decide) ?_
    show hp_go _ _ _ _ _ 18 _ _ _
    exact hq_iret (pm_d rk_X2_first 10 rfl) rfl h
  rw [if_neg hc] at h
  refine hq_aload_n (pm_d rk_X2_first 4 rfl) rfl 0 rfl ?_
  refine hq_getR (h := 10) 1 (pm_d rk_X2_first 5 rfl) fl_X2_21 rfl rfl ?_
  refine hq_iload_n (pm_d rk_X2_first 6 rfl) rfl 1 rfl ?_
  obtain ⟨hg, h⟩ := pm_gd_i h
  refine hq_iaload (pm_d rk_X2_first 7 rfl) rfl hg ?_
  refine hq_goto 18 (pm_d rk_X2_first 8 rfl) (by decide) ?_
  show hp_go _ _ _ _ _ 18 _ _ _
  exact hq_iret (pm_d rk_X2_first 10 rfl) rfl h
def f_C_X2_holds_17 (a1 : Int32) (s : hp_S) : Option (Int32 × hp_S) :=
  if a1 < 0 then
    some ((0 : Int32), s)
  else
    if (100 : Int32) ≤ a1 then
      some ((0 : Int32), s)
    else
      some ((1 : Int32), s)
set_option maxRecDepth 100000 in
set_option maxHeartbeats 400000 in
theorem w_C_X2_holds_17 (d : Nat) (a1 : Int32) (s s1 : hp_S) (x0 : Int32) (h : f_C_X2_holds_17 a1 s = some (x0, s1)) : hp_is sh_C me_X2_holds (d + 0) [.ref 17, .int a1] s (some (.int x0)) s1 := by
  refine hp_ofF [(0, .ref 17), (1, .int a1)] (by decide +kernel) (Nat.le_of_ble_eq_true rfl) rfl ?_
  unfold f_C_X2_holds_17 at h
  refine hq_iload_n (pm_d rk_X2_holds 0 rfl) rfl 1 rfl ?_
  refine hq_if_lt 17 (pm_d rk_X2_holds 1 rfl) (by decide) (fun hc => ?_) (fun hc => ?_)
  · rw [if_pos hc] at h
    refine hq_iconst (v := (0 : Int32)) (pm_d rk_X2_holds 9 rfl) (by decide) ?_
    exact hq_zret (pm_d rk_X2_holds 10 rfl) rfl rfl h
  rw [if_neg hc] at h
  refine hq_iload_n (pm_d rk_X2_holds 2 rfl) rfl 1 rfl ?_
  show hp_go _ _ _ _ _ 5 _ _ _
  refine hq_aload_n (pm_d rk_X2_holds 3 rfl) rfl 0 rfl ?_
  refine hq_getR (h := 18) 0 (pm_d rk_X2_holds 4 rfl) fl_X2_15 rfl rfl ?_
  refine hq_alen 0 (pm_d rk_X2_holds 5 rfl) rfl (fun _ => rfl) (show Int32.ofNat 100 = (100 : Int32) by decide) ?_
  refine hq_icmp_ge 17 (pm_d rk_X2_holds 6 rfl) (by decide) (fun hc => ?_) (fun hc => ?_)
  · rw [if_pos hc] at h
    refine hq_iconst (v := (0 : Int32)) (pm_d rk_X2_holds 9 rfl) (by decide) ?_
    exact hq_zret (pm_d rk_X2_holds 10 rfl) rfl rfl h
  rw [if_neg hc] at h
  show hp_go _ _ _ _ _ 13 _ _ _
  refine hq_iconst (v := (1 : Int32)) (pm_d rk_X2_holds 7 rfl) (by decide) ?_
  refine hq_goto 18 (pm_d rk_X2_holds 8 rfl) (by decide) ?_
  exact hq_zret (pm_d rk_X2_holds 10 rfl) rfl rfl h
def f_C_X2_setFirst_17 (a1 : Int32) (a2 : Int32) (s : hp_S) : Option hp_S :=
  pm_bd (f_C_X2_holds_17 a1 s) (fun x2 t1 =>
  if x2 = 0 then
    some t1
  else
    pm_gd1 (pm_ib a1 100) (
    pm_let (hs_pA t1 19 a1.toNatClampNeg a2) (fun t3 =>
    some t3)))
set_option maxRecDepth 100000 in
set_option maxHeartbeats 400000 in
theorem w_C_X2_setFirst_17 (d : Nat) (a1 : Int32) (a2 : Int32) (s s1 : hp_S) (h : f_C_X2_setFirst_17 a1 a2 s = some s1) : hp_is sh_C me_X2_setFirst (d + 1) [.ref 17, .int a1, .int a2] s none s1 := by
  refine hp_ofF [(0, .ref 17), (1, .int a1), (2, .int a2)] (by decide +kernel) (Nat.le_of_ble_eq_true rfl) rfl ?_
  unfold f_C_X2_setFirst_17 at h
  refine hq_aload_n (pm_d rk_X2_setFirst 0 rfl) rfl 0 rfl ?_
  refine hq_iload_n (pm_d rk_X2_setFirst 1 rfl) rfl 1 rfl ?_
  obtain ⟨x2, t1, hq, h⟩ := pm_bd_i h
  have hM := w_C_X2_holds_17 (d := d + 0) (h := hq)
  refine hq_callVi (a := 17) (ci := 2) [.int a1] [] (pm_d rk_X2_setFirst 2 rfl) ml_X2_33 iv_X2_holds rfl rfl rfl rfl rfl (Nat.le_of_ble_eq_true rfl) hM ?_
  refine hq_if_eq 15 (pm_d rk_X2_setFirst 3 rfl) (by decide) (fun hc => ?_) (fun hc => ?_)
  · rw [if_pos hc] at h
    exact hq_vret (pm_d rk_X2_setFirst 9 rfl) rfl h
  rw [if_neg hc] at h
  show hp_go _ _ _ _ _ 8 _ _ _
  refine hq_aload_n (pm_d rk_X2_setFirst 4 rfl) rfl 0 rfl ?_
  refine hq_getR (h := 19) 1 (pm_d rk_X2_setFirst 5 rfl) fl_X2_21 rfl rfl ?_
  refine hq_iload_n (pm_d rk_X2_setFirst 6 rfl) rfl 1 rfl ?_
  refine hq_iload_n (pm_d rk_X2_setFirst 7 rfl) rfl 2 rfl ?_
  obtain ⟨hg, h⟩ := pm_gd_i h
  refine hq_iastore (pm_d rk_X2_setFirst 8 rfl) rfl hg ?_
  refine pm_nm (G := fun t3 => hp_go sh_C me_X2_setFirst (d + 1) none s1 15 [(0, .ref 17), (1, .int a1), (2, .int a2)] [] t3) h (fun t3 h => ?_)
  exact hq_vret (pm_d rk_X2_setFirst 9 rfl) rfl h
def f_C_X2_second_8 (a1 : Int32) (s : hp_S) : Option (Int32 × hp_S) :=
  pm_bd (f_C_X2_holds_8 a1 s) (fun x2 t1 =>
  if x2 = 0 then
    some ((-1 : Int32), t1)
  else
    pm_gd1 (pm_ib a1 501) (
    some ((hs_A t1 11 a1.toNatClampNeg), t1)))
set_option maxRecDepth 100000 in
set_option maxHeartbeats 400000 in
theorem w_C_X2_second_8 (d : Nat) (a1 : Int32) (s s1 : hp_S) (x0 : Int32) (h : f_C_X2_second_8 a1 s = some (x0, s1)) : hp_is sh_C me_X2_second (d + 1) [.ref 8, .int a1] s (some (.int x0)) s1 := by
  refine hp_ofF [(0, .ref 8), (1, .int a1)] (by decide +kernel) (Nat.le_of_ble_eq_true rfl) rfl ?_
  unfold f_C_X2_second_8 at h
  refine hq_aload_n (pm_d rk_X2_second 0 rfl) rfl 0 rfl ?_
  refine hq_iload_n (pm_d rk_X2_second 1 rfl) rfl 1 rfl ?_
  obtain ⟨x2, t1, hq, h⟩ := pm_bd_i h
  have hM := w_C_X2_holds_8 (d := d + 0) (h := hq)
  refine hq_callVi (a := 8) (ci := 2) [.int a1] [] (pm_d rk_X2_second 2 rfl) ml_X2_33 iv_X2_holds rfl rfl rfl rfl rfl (Nat.le_of_ble_eq_true rfl) hM ?_
  refine hq_if_eq 17 (pm_d rk_X2_second 3 rfl) (by decide) (fun hc => ?_) (fun hc => ?_)
  · rw [if_pos hc] at h
    refine hq_iconst (v := (-1 : Int32)) (pm_d rk_X2_second 9 rfl) (by decide) ?_
    show hp_go _ _ _ _ _ 18 _ _ _
    exact hq_iret (pm_d rk_X2_second 10 rfl) rfl h
  rw [if_neg hc] at h
  refine hq_aload_n (pm_d rk_X2_second 4 rfl) rfl 0 rfl ?_
  refine hq_getR (h := 11) 2 (pm_d rk_X2_second 5 rfl) fl_X2_24 rfl rfl ?_
  refine hq_iload_n (pm_d rk_X2_second 6 rfl) rfl 1 rfl ?_
  obtain ⟨hg, h⟩ := pm_gd_i h
  refine hq_iaload (pm_d rk_X2_second 7 rfl) rfl hg ?_
  refine hq_goto 18 (pm_d rk_X2_second 8 rfl) (by decide) ?_
  show hp_go _ _ _ _ _ 18 _ _ _
  exact hq_iret (pm_d rk_X2_second 10 rfl) rfl h
def f_C_X2_setSecond_17 (a1 : Int32) (a2 : Int32) (s : hp_S) : Option hp_S :=
  pm_bd (f_C_X2_holds_17 a1 s) (fun x2 t1 =>
  if x2 = 0 then
    some t1
  else
    pm_gd1 (pm_ib a1 100) (
    pm_let (hs_pA t1 20 a1.toNatClampNeg a2) (fun t3 =>
    some t3)))
set_option maxRecDepth 100000 in
set_option maxHeartbeats 400000 in
theorem w_C_X2_setSecond_17 (d : Nat) (a1 : Int32) (a2 : Int32) (s s1 : hp_S) (h : f_C_X2_setSecond_17 a1 a2 s = some s1) : hp_is sh_C me_X2_setSecond (d + 1) [.ref 17, .int a1, .int a2] s none s1 := by
  refine hp_ofF [(0, .ref 17), (1, .int a1), (2, .int a2)] (by decide +kernel) (Nat.le_of_ble_eq_true rfl) rfl ?_
  unfold f_C_X2_setSecond_17 at h
  refine hq_aload_n (pm_d rk_X2_setSecond 0 rfl) rfl 0 rfl ?_
  refine hq_iload_n (pm_d rk_X2_setSecond 1 rfl) rfl 1 rfl ?_
  obtain ⟨x2, t1, hq, h⟩ := pm_bd_i h
  have hM := w_C_X2_holds_17 (d := d + 0) (h := hq)
  refine hq_callVi (a := 17) (ci := 2) [.int a1] [] (pm_d rk_X2_setSecond 2 rfl) ml_X2_33 iv_X2_holds rfl rfl rfl rfl rfl (Nat.le_of_ble_eq_true rfl) hM ?_
  refine hq_if_eq 15 (pm_d rk_X2_setSecond 3 rfl) (by decide) (fun hc => ?_) (fun hc => ?_)
  · rw [if_pos hc] at h
    exact hq_vret (pm_d rk_X2_setSecond 9 rfl) rfl h
  rw [if_neg hc] at h
  show hp_go _ _ _ _ _ 8 _ _ _
  refine hq_aload_n (pm_d rk_X2_setSecond 4 rfl) rfl 0 rfl ?_
  refine hq_getR (h := 20) 2 (pm_d rk_X2_setSecond 5 rfl) fl_X2_24 rfl rfl ?_
  refine hq_iload_n (pm_d rk_X2_setSecond 6 rfl) rfl 1 rfl ?_
  refine hq_iload_n (pm_d rk_X2_setSecond 7 rfl) rfl 2 rfl ?_
  obtain ⟨hg, h⟩ := pm_gd_i h
  refine hq_iastore (pm_d rk_X2_setSecond 8 rfl) rfl hg ?_
  refine pm_nm (G := fun t3 => hp_go sh_C me_X2_setSecond (d + 1) none s1 15 [(0, .ref 17), (1, .int a1), (2, .int a2)] [] t3) h (fun t3 h => ?_)
  exact hq_vret (pm_d rk_X2_setSecond 9 rfl) rfl h
def f_C_X2_third_8 (a1 : Int32) (s : hp_S) : Option (Int32 × hp_S) :=
  pm_bd (f_C_X2_holds_8 a1 s) (fun x2 t1 =>
  if x2 = 0 then
    some ((-1 : Int32), t1)
  else
    pm_gd1 (pm_ib a1 501) (
    some ((hs_A t1 12 a1.toNatClampNeg), t1)))
set_option maxRecDepth 100000 in
set_option maxHeartbeats 400000 in
theorem w_C_X2_third_8 (d : Nat) (a1 : Int32) (s s1 : hp_S) (x0 : Int32) (h : f_C_X2_third_8 a1 s = some (x0, s1)) : hp_is sh_C me_X2_third (d + 1) [.ref 8, .int a1] s (some (.int x0)) s1 := by
  refine hp_ofF [(0, .ref 8), (1, .int a1)] (by decide +kernel) (Nat.le_of_ble_eq_true rfl) rfl ?_
  unfold f_C_X2_third_8 at h
  refine hq_aload_n (pm_d rk_X2_third 0 rfl) rfl 0 rfl ?_
  refine hq_iload_n (pm_d rk_X2_third 1 rfl) rfl 1 rfl ?_
  obtain ⟨x2, t1, hq, h⟩ := pm_bd_i h
  have hM := w_C_X2_holds_8 (d := d + 0) (h := hq)
  refine hq_callVi (a := 8) (ci := 2) [.int a1] [] (pm_d rk_X2_third 2 rfl) ml_X2_33 iv_X2_holds rfl rfl rfl rfl rfl (Nat.le_of_ble_eq_true rfl) hM ?_
  refine hq_if_eq 17 (pm_d rk_X2_third 3 rfl) (by decide) (fun hc => ?_) (fun hc => ?_)
  · rw [if_pos hc] at h
    refine hq_iconst (v := (-1 : Int32)) (pm_d rk_X2_third 9 rfl) (by decide) ?_
    show hp_go _ _ _ _ _ 18 _ _ _
    exact hq_iret (pm_d rk_X2_third 10 rfl) rfl h
  rw [if_neg hc] at h
  refine hq_aload_n (pm_d rk_X2_third 4 rfl) rfl 0 rfl ?_
  refine hq_getR (h := 12) 3 (pm_d rk_X2_third 5 rfl) fl_X2_27 rfl rfl ?_
  refine hq_iload_n (pm_d rk_X2_third 6 rfl) rfl 1 rfl ?_
  obtain ⟨hg, h⟩ := pm_gd_i h
  refine hq_iaload (pm_d rk_X2_third 7 rfl) rfl hg ?_
  refine hq_goto 18 (pm_d rk_X2_third 8 rfl) (by decide) ?_
  show hp_go _ _ _ _ _ 18 _ _ _
  exact hq_iret (pm_d rk_X2_third 10 rfl) rfl h
def f_C_X2_setThird_17 (a1 : Int32) (a2 : Int32) (s : hp_S) : Option hp_S :=
  pm_bd (f_C_X2_holds_17 a1 s) (fun x2 t1 =>
  if x2 = 0 then
    some t1
  else
    pm_gd1 (pm_ib a1 100) (
    pm_let (hs_pA t1 21 a1.toNatClampNeg a2) (fun t3 =>
    some t3)))
set_option maxRecDepth 100000 in
set_option maxHeartbeats 400000 in
theorem w_C_X2_setThird_17 (d : Nat) (a1 : Int32) (a2 : Int32) (s s1 : hp_S) (h : f_C_X2_setThird_17 a1 a2 s = some s1) : hp_is sh_C me_X2_setThird (d + 1) [.ref 17, .int a1, .int a2] s none s1 := by
  refine hp_ofF [(0, .ref 17), (1, .int a1), (2, .int a2)] (by decide +kernel) (Nat.le_of_ble_eq_true rfl) rfl ?_
  unfold f_C_X2_setThird_17 at h
  refine hq_aload_n (pm_d rk_X2_setThird 0 rfl) rfl 0 rfl ?_
  refine hq_iload_n (pm_d rk_X2_setThird 1 rfl) rfl 1 rfl ?_
  obtain ⟨x2, t1, hq, h⟩ := pm_bd_i h
  have hM := w_C_X2_holds_17 (d := d + 0) (h := hq)
  refine hq_callVi (a := 17) (ci := 2) [.int a1] [] (pm_d rk_X2_setThird 2 rfl) ml_X2_33 iv_X2_holds rfl rfl rfl rfl rfl (Nat.le_of_ble_eq_true rfl) hM ?_
  refine hq_if_eq 15 (pm_d rk_X2_setThird 3 rfl) (by decide) (fun hc => ?_) (fun hc => ?_)
  · rw [if_pos hc] at h
    exact hq_vret (pm_d rk_X2_setThird 9 rfl) rfl h
  rw [if_neg hc] at h
  show hp_go _ _ _ _ _ 8 _ _ _
  refine hq_aload_n (pm_d rk_X2_setThird 4 rfl) rfl 0 rfl ?_
  refine hq_getR (h := 21) 3 (pm_d rk_X2_setThird 5 rfl) fl_X2_27 rfl rfl ?_
  refine hq_iload_n (pm_d rk_X2_setThird 6 rfl) rfl 1 rfl ?_
  refine hq_iload_n (pm_d rk_X2_setThird 7 rfl) rfl 2 rfl ?_
  obtain ⟨hg, h⟩ := pm_gd_i h
  refine hq_iastore (pm_d rk_X2_setThird 8 rfl) rfl hg ?_
  refine pm_nm (G := fun t3 => hp_go sh_C me_X2_setThird (d + 1) none s1 15 [(0, .ref 17), (1, .int a1), (2, .int a2)] [] t3) h (fun t3 h => ?_)
  exact hq_vret (pm_d rk_X2_setThird 9 rfl) rfl h
def f_C_X2_meaning_8 (a1 : Int32) (s : hp_S) : Option (Int32 × hp_S) :=
  pm_bd (f_C_X2_holds_8 a1 s) (fun x2 t1 =>
  if x2 = 0 then
    some ((-1 : Int32), t1)
  else
    pm_gd1 (pm_ib a1 501) (
    some ((hs_A t1 13 a1.toNatClampNeg), t1)))
set_option maxRecDepth 100000 in
set_option maxHeartbeats 400000 in
theorem w_C_X2_meaning_8 (d : Nat) (a1 : Int32) (s s1 : hp_S) (x0 : Int32) (h : f_C_X2_meaning_8 a1 s = some (x0, s1)) : hp_is sh_C me_X2_meaning (d + 1) [.ref 8, .int a1] s (some (.int x0)) s1 := by
  refine hp_ofF [(0, .ref 8), (1, .int a1)] (by decide +kernel) (Nat.le_of_ble_eq_true rfl) rfl ?_
  unfold f_C_X2_meaning_8 at h
  refine hq_aload_n (pm_d rk_X2_meaning 0 rfl) rfl 0 rfl ?_
  refine hq_iload_n (pm_d rk_X2_meaning 1 rfl) rfl 1 rfl ?_
  obtain ⟨x2, t1, hq, h⟩ := pm_bd_i h
  have hM := w_C_X2_holds_8 (d := d + 0) (h := hq)
  refine hq_callVi (a := 8) (ci := 2) [.int a1] [] (pm_d rk_X2_meaning 2 rfl) ml_X2_33 iv_X2_holds rfl rfl rfl rfl rfl (Nat.le_of_ble_eq_true rfl) hM ?_
  refine hq_if_eq 17 (pm_d rk_X2_meaning 3 rfl) (by decide) (fun hc => ?_) (fun hc => ?_)
  · rw [if_pos hc] at h
    refine hq_iconst (v := (-1 : Int32)) (pm_d rk_X2_meaning 9 rfl) (by decide) ?_
    show hp_go _ _ _ _ _ 18 _ _ _
    exact hq_iret (pm_d rk_X2_meaning 10 rfl) rfl h
  rw [if_neg hc] at h
  refine hq_aload_n (pm_d rk_X2_meaning 4 rfl) rfl 0 rfl ?_
  refine hq_getR (h := 13) 4 (pm_d rk_X2_meaning 5 rfl) fl_X2_30 rfl rfl ?_
  refine hq_iload_n (pm_d rk_X2_meaning 6 rfl) rfl 1 rfl ?_
  obtain ⟨hg, h⟩ := pm_gd_i h
  refine hq_iaload (pm_d rk_X2_meaning 7 rfl) rfl hg ?_
  refine hq_goto 18 (pm_d rk_X2_meaning 8 rfl) (by decide) ?_
  show hp_go _ _ _ _ _ 18 _ _ _
  exact hq_iret (pm_d rk_X2_meaning 10 rfl) rfl h
def f_C_X2_setMeaning_17 (a1 : Int32) (a2 : Int32) (s : hp_S) : Option hp_S :=
  pm_bd (f_C_X2_holds_17 a1 s) (fun x2 t1 =>
  if x2 = 0 then
    some t1
  else
    pm_gd1 (pm_ib a1 100) (
    pm_let (hs_pA t1 22 a1.toNatClampNeg a2) (fun t3 =>
    some t3)))
set_option maxRecDepth 100000 in
set_option maxHeartbeats 400000 in
theorem w_C_X2_setMeaning_17 (d : Nat) (a1 : Int32) (a2 : Int32) (s s1 : hp_S) (h : f_C_X2_setMeaning_17 a1 a2 s = some s1) : hp_is sh_C me_X2_setMeaning (d + 1) [.ref 17, .int a1, .int a2] s none s1 := by
  refine hp_ofF [(0, .ref 17), (1, .int a1), (2, .int a2)] (by decide +kernel) (Nat.le_of_ble_eq_true rfl) rfl ?_
  unfold f_C_X2_setMeaning_17 at h
  refine hq_aload_n (pm_d rk_X2_setMeaning 0 rfl) rfl 0 rfl ?_
  refine hq_iload_n (pm_d rk_X2_setMeaning 1 rfl) rfl 1 rfl ?_
  obtain ⟨x2, t1, hq, h⟩ := pm_bd_i h
  have hM := w_C_X2_holds_17 (d := d + 0) (h := hq)
  refine hq_callVi (a := 17) (ci := 2) [.int a1] [] (pm_d rk_X2_setMeaning 2 rfl) ml_X2_33 iv_X2_holds rfl rfl rfl rfl rfl (Nat.le_of_ble_eq_true rfl) hM ?_
  refine hq_if_eq 15 (pm_d rk_X2_setMeaning 3 rfl) (by decide) (fun hc => ?_) (fun hc => ?_)
  · rw [if_pos hc] at h
    exact hq_vret (pm_d rk_X2_setMeaning 9 rfl) rfl h
  rw [if_neg hc] at h
  show hp_go _ _ _ _ _ 8 _ _ _
  refine hq_aload_n (pm_d rk_X2_setMeaning 4 rfl) rfl 0 rfl ?_
  refine hq_getR (h := 22) 4 (pm_d rk_X2_setMeaning 5 rfl) fl_X2_30 rfl rfl ?_
  refine hq_iload_n (pm_d rk_X2_setMeaning 6 rfl) rfl 1 rfl ?_
  refine hq_iload_n (pm_d rk_X2_setMeaning 7 rfl) rfl 2 rfl ?_
  obtain ⟨hg, h⟩ := pm_gd_i h
  refine hq_iastore (pm_d rk_X2_setMeaning 8 rfl) rfl hg ?_
  refine pm_nm (G := fun t3 => hp_go sh_C me_X2_setMeaning (d + 1) none s1 15 [(0, .ref 17), (1, .int a1), (2, .int a2)] [] t3) h (fun t3 h => ?_)
  exact hq_vret (pm_d rk_X2_setMeaning 9 rfl) rfl h
def l_C_X7_linkNodes_16_3_7_8 : Nat → Int32 → hp_S → Option hp_S
  | 0, _, _ => none
  | n + 1, y4, s =>
    pm_bd (f_C_X6_size_3 s) (fun x3 t2 =>
    if x3 ≤ y4 then
      some t2
    else
      pm_bd (f_C_X4_owner_7 y4 t2) (fun x5 t4 =>
      pm_let (fun (z112_4 : Int32) (s : hp_S) =>
        pm_let (z112_4 + (1 : Int32)) (fun x6 =>
        l_C_X7_linkNodes_16_3_7_8 n x6 s)) (fun j112 =>
      if x5 = y4 then
        pm_bd (f_C_X7_ownerOf_16 y4 t4) (fun x8 t7 =>
        pm_bd (f_C_X2_first_8 y4 t7) (fun x10 t9 =>
        pm_bd (f_C_X7_ownerOf_16 x10 t9) (fun x12 t11 =>
        pm_b1 (f_C_X2_setFirst_17 x8 x12 t11) (fun t13 =>
        pm_bd (f_C_X2_second_8 y4 t13) (fun x15 t14 =>
        pm_bd (f_C_X7_ownerOf_16 x15 t14) (fun x17 t16 =>
        pm_b1 (f_C_X2_setSecond_17 x8 x17 t16) (fun t18 =>
        pm_bd (f_C_X2_third_8 y4 t18) (fun x20 t19 =>
        pm_bd (f_C_X7_ownerOf_16 x20 t19) (fun x22 t21 =>
        pm_b1 (f_C_X2_setThird_17 x8 x22 t21) (fun t23 =>
        pm_bd (f_C_X2_meaning_8 y4 t23) (fun x25 t24 =>
        pm_bd (f_C_X7_ownerOf_16 x25 t24) (fun x27 t26 =>
        pm_b1 (f_C_X2_setMeaning_17 x8 x27 t26) (fun t28 =>
        j112 y4 t28)))))))))))))
      else
        j112 y4 t4)))
set_option maxRecDepth 100000 in
set_option maxHeartbeats 400000 in
theorem wl_C_X7_linkNodes_16_3_7_8 (d : Nat) (s1 : hp_S)  : ∀ (n : Nat) (y4 : Int32) (s : hp_S), l_C_X7_linkNodes_16_3_7_8 n y4 s = some s1 → hp_go sh_C me_X7_linkNodes (d + 2) none s1 8 [(0, .ref 16), (1, .ref 3), (2, .ref 7), (3, .ref 8), (4, .int y4)] [] s := by
  intro n
  induction n with
  | zero =>
    intro y4 s h
    cases h
  | succ n ih =>
    intro y4 s h
    rw [l_C_X7_linkNodes_16_3_7_8.eq_2] at h
    show hp_go _ _ _ _ _ 8 _ _ _
    refine hq_iload (pm_d rk_X7_linkNodes 5 rfl) 4 rfl ?_
    refine hq_aload_n (pm_d rk_X7_linkNodes 6 rfl) rfl 1 rfl ?_
    obtain ⟨x3, t2, hq, h⟩ := pm_bd_i h
    have hM := w_C_X6_size_3 (d := d + 1) (h := hq)
    refine hq_callVi (a := 3) (ci := 6) [] [.int y4] (pm_d rk_X7_linkNodes 7 rfl) ml_X7_37 iv_X6_size rfl rfl rfl rfl rfl (Nat.le_of_ble_eq_true rfl) hM ?_
    refine hq_icmp_ge 118 (pm_d rk_X7_linkNodes 8 rfl) (by decide) (fun hc => ?_) (fun hc => ?_)
    · rw [if_pos hc] at h
      exact hq_vret (pm_d rk_X7_linkNodes 56 rfl) rfl h
    rw [if_neg hc] at h
    refine hq_aload_n (pm_d rk_X7_linkNodes 9 rfl) rfl 2 rfl ?_
    show hp_go _ _ _ _ _ 18 _ _ _
    refine hq_iload (pm_d rk_X7_linkNodes 10 rfl) 4 rfl ?_
    obtain ⟨x5, t4, hq, h⟩ := pm_bd_i h
    have hM := w_C_X4_owner_7 (d := d + 0) (h := hq)
    refine hq_callVi (a := 7) (ci := 4) [.int y4] [] (pm_d rk_X7_linkNodes 11 rfl) ml_X7_42 iv_X4_owner rfl rfl rfl rfl rfl (Nat.le_of_ble_eq_true rfl) hM ?_
    refine hq_iload (pm_d rk_X7_linkNodes 12 rfl) 4 rfl ?_
    refine pm_jn (P := fun j112 => ∀ (z112_4 : Int32) (s : hp_S), j112 z112_4 s = some s1 → hp_go sh_C me_X7_linkNodes (d + 2) none s1 112 [(0, .ref 16), (1, .ref 3), (2, .ref 7), (3, .ref 8), (4, .int z112_4)] [] s) h ?_ (fun j112 hj112 h => ?_)
    · intro z112_4 s h
      dsimp only at h
      refine hq_iinc (v := z112_4 + (1 : Int32)) (L1 := [(4, .int (z112_4 + (1 : Int32))), (0, .ref 16), (1, .ref 3), (2, .ref 7), (3, .ref 8)]) (pm_d rk_X7_linkNodes 54 rfl) 4 rfl (by rw [show Int32.ofInt (1) = (1 : Int32) by decide]) (by decide) rfl ?_
      refine pm_nm (G := fun x6 => hp_go sh_C me_X7_linkNodes (d + 2) none s1 115 [(4, .int x6), (0, .ref 16), (1, .ref 3), (2, .ref 7), (3, .ref 8)] [] s) h (fun x6 h => ?_)
      refine hq_goto 8 (pm_d rk_X7_linkNodes 55 rfl) (by decide) ?_
      refine hq_drop [1, 2, 3, 4, 0] rfl ?_
      exact ih _ _ h
    refine hq_icmp_ne 112 (pm_d rk_X7_linkNodes 13 rfl) (by decide) (fun hc => ?_) (fun hc => ?_)
    · rw [if_neg hc] at h
      refine hq_drop [0, 1, 2, 3, 4] rfl ?_
      exact hj112 _ _ h
    rw [if_pos hc] at h
    show hp_go _ _ _ _ _ 28 _ _ _
    refine hq_aload_n (pm_d rk_X7_linkNodes 14 rfl) rfl 0 rfl ?_
    refine hq_iload (pm_d rk_X7_linkNodes 15 rfl) 4 rfl ?_
    obtain ⟨x8, t7, hq, h⟩ := pm_bd_i h
    have hM := w_C_X7_ownerOf_16 (d := d + 1) (h := hq)
    refine hq_callVi (a := 16) (ci := 7) [.int y4] [] (pm_d rk_X7_linkNodes 16 rfl) ml_X7_59 iv_X7_ownerOf rfl rfl rfl rfl rfl (Nat.le_of_ble_eq_true rfl) hM ?_
    refine hq_istore (L1 := [(5, .int x8), (0, .ref 16), (1, .ref 3), (2, .ref 7), (3, .ref 8), (4, .int y4)]) (pm_d rk_X7_linkNodes 17 rfl) (by decide) rfl ?_
    refine hq_aload_n (pm_d rk_X7_linkNodes 18 rfl) rfl 1 rfl ?_
    refine hq_getR (h := 17) 0 (pm_d rk_X7_linkNodes 19 rfl) fl_X7_14 rfl rfl ?_
    show hp_go _ _ _ _ _ 40 _ _ _
    refine hq_iload (pm_d rk_X7_linkNodes 20 rfl) 0 rfl ?_
    refine hq_aload_n (pm_d rk_X7_linkNodes 21 rfl) rfl 1 rfl ?_
    refine hq_aload_n (pm_d rk_X7_linkNodes 22 rfl) rfl 4 rfl ?_
    refine hq_iload (pm_d rk_X7_linkNodes 23 rfl) 5 rfl ?_
    obtain ⟨x10, t9, hq, h⟩ := pm_bd_i h
    have hM := w_C_X2_first_8 (d := d + 0) (h := hq)
    refine hq_callVi (a := 8) (ci := 2) [.int y4] [.ref 16, .int x8, .ref 17] (pm_d rk_X7_linkNodes 24 rfl) ml_X7_76 iv_X2_first rfl rfl rfl rfl rfl (Nat.le_of_ble_eq_true rfl) hM ?_
    obtain ⟨x12, t11, hq, h⟩ := pm_bd_i h
    have hM := w_C_X7_ownerOf_16 (d := d + 1) (h := hq)
    refine hq_callVi (a := 16) (ci := 7) [.int x10] [.int x8, .ref 17] (pm_d rk_X7_linkNodes 25 rfl) ml_X7_59 iv_X7_ownerOf rfl rfl rfl rfl rfl (Nat.le_of_ble_eq_true rfl) hM ?_
    show hp_go _ _ _ _ _ 52 _ _ _
    obtain ⟨t13, hq, h⟩ := pm_b1_i h
    have hM := w_C_X2_setFirst_17 (d := d + 0) (h := hq)
    refine hq_callVv (a := 17) (ci := 2) [.int x8, .int x12] [] (pm_d rk_X7_linkNodes 26 rfl) ml_X7_79 iv_X2_setFirst rfl rfl rfl rfl rfl (Nat.le_of_ble_eq_true rfl) hM ?_
    refine hq_aload_n (pm_d rk_X7_linkNodes 27 rfl) rfl 1 rfl ?_
    refine hq_getR (h := 17) 0 (pm_d rk_X7_linkNodes 28 rfl) fl_X7_14 rfl rfl ?_
    refine hq_iload (pm_d rk_X7_linkNodes 29 rfl) 0 rfl ?_
    refine hq_aload_n (pm_d rk_X7_linkNodes 30 rfl) rfl 1 rfl ?_
    refine hq_aload_n (pm_d rk_X7_linkNodes 31 rfl) rfl 4 rfl ?_
    show hp_go _ _ _ _ _ 63 _ _ _
    refine hq_iload (pm_d rk_X7_linkNodes 32 rfl) 5 rfl ?_
    obtain ⟨x15, t14, hq, h⟩ := pm_bd_i h
    have hM := w_C_X2_second_8 (d := d + 0) (h := hq)
    refine hq_callVi (a := 8) (ci := 2) [.int y4] [.ref 16, .int x8, .ref 17] (pm_d rk_X7_linkNodes 33 rfl) ml_X7_82 iv_X2_second rfl rfl rfl rfl rfl (Nat.le_of_ble_eq_true rfl) hM ?_
    obtain ⟨x17, t16, hq, h⟩ := pm_bd_i h
    have hM := w_C_X7_ownerOf_16 (d := d + 1) (h := hq)
    refine hq_callVi (a := 16) (ci := 7) [.int x15] [.int x8, .ref 17] (pm_d rk_X7_linkNodes 34 rfl) ml_X7_59 iv_X7_ownerOf rfl rfl rfl rfl rfl (Nat.le_of_ble_eq_true rfl) hM ?_
    obtain ⟨t18, hq, h⟩ := pm_b1_i h
    have hM := w_C_X2_setSecond_17 (d := d + 0) (h := hq)
    refine hq_callVv (a := 17) (ci := 2) [.int x8, .int x17] [] (pm_d rk_X7_linkNodes 35 rfl) ml_X7_85 iv_X2_setSecond rfl rfl rfl rfl rfl (Nat.le_of_ble_eq_true rfl) hM ?_
    refine hq_aload_n (pm_d rk_X7_linkNodes 36 rfl) rfl 1 rfl ?_
    refine hq_getR (h := 17) 0 (pm_d rk_X7_linkNodes 37 rfl) fl_X7_14 rfl rfl ?_
    show hp_go _ _ _ _ _ 78 _ _ _
    refine hq_iload (pm_d rk_X7_linkNodes 38 rfl) 0 rfl ?_
    refine hq_aload_n (pm_d rk_X7_linkNodes 39 rfl) rfl 1 rfl ?_
    refine hq_aload_n (pm_d rk_X7_linkNodes 40 rfl) rfl 4 rfl ?_
    refine hq_iload (pm_d rk_X7_linkNodes 41 rfl) 5 rfl ?_
    obtain ⟨x20, t19, hq, h⟩ := pm_bd_i h
    have hM := w_C_X2_third_8 (d := d + 0) (h := hq)
    refine hq_callVi (a := 8) (ci := 2) [.int y4] [.ref 16, .int x8, .ref 17] (pm_d rk_X7_linkNodes 42 rfl) ml_X7_88 iv_X2_third rfl rfl rfl rfl rfl (Nat.le_of_ble_eq_true rfl) hM ?_
    obtain ⟨x22, t21, hq, h⟩ := pm_bd_i h
    have hM := w_C_X7_ownerOf_16 (d := d + 1) (h := hq)
    refine hq_callVi (a := 16) (ci := 7) [.int x20] [.int x8, .ref 17] (pm_d rk_X7_linkNodes 43 rfl) ml_X7_59 iv_X7_ownerOf rfl rfl rfl rfl rfl (Nat.le_of_ble_eq_true rfl) hM ?_
    show hp_go _ _ _ _ _ 90 _ _ _
    obtain ⟨t23, hq, h⟩ := pm_b1_i h
    have hM := w_C_X2_setThird_17 (d := d + 0) (h := hq)
    refine hq_callVv (a := 17) (ci := 2) [.int x8, .int x22] [] (pm_d rk_X7_linkNodes 44 rfl) ml_X7_91 iv_X2_setThird rfl rfl rfl rfl rfl (Nat.le_of_ble_eq_true rfl) hM ?_
    refine hq_aload_n (pm_d rk_X7_linkNodes 45 rfl) rfl 1 rfl ?_
    refine hq_getR (h := 17) 0 (pm_d rk_X7_linkNodes 46 rfl) fl_X7_14 rfl rfl ?_
    refine hq_iload (pm_d rk_X7_linkNodes 47 rfl) 0 rfl ?_
    refine hq_aload_n (pm_d rk_X7_linkNodes 48 rfl) rfl 1 rfl ?_
    refine hq_aload_n (pm_d rk_X7_linkNodes 49 rfl) rfl 4 rfl ?_
    show hp_go _ _ _ _ _ 101 _ _ _
    refine hq_iload (pm_d rk_X7_linkNodes 50 rfl) 5 rfl ?_
    obtain ⟨x25, t24, hq, h⟩ := pm_bd_i h
    have hM := w_C_X2_meaning_8 (d := d + 0) (h := hq)
    refine hq_callVi (a := 8) (ci := 2) [.int y4] [.ref 16, .int x8, .ref 17] (pm_d rk_X7_linkNodes 51 rfl) ml_X7_94 iv_X2_meaning rfl rfl rfl rfl rfl (Nat.le_of_ble_eq_true rfl) hM ?_
    obtain ⟨x27, t26, hq, h⟩ := pm_bd_i h
    have hM := w_C_X7_ownerOf_16 (d := d + 1) (h := hq)
    refine hq_callVi (a := 16) (ci := 7) [.int x25] [.int x8, .ref 17] (pm_d rk_X7_linkNodes 52 rfl) ml_X7_59 iv_X7_ownerOf rfl rfl rfl rfl rfl (Nat.le_of_ble_eq_true rfl) hM ?_
    obtain ⟨t28, hq, h⟩ := pm_b1_i h
    have hM := w_C_X2_setMeaning_17 (d := d + 0) (h := hq)
    refine hq_callVv (a := 17) (ci := 2) [.int x8, .int x27] [] (pm_d rk_X7_linkNodes 53 rfl) ml_X7_97 iv_X2_setMeaning rfl rfl rfl rfl rfl (Nat.le_of_ble_eq_true rfl) hM ?_
    refine hq_drop [1, 2, 3, 4, 5] rfl ?_
    exact hj112 _ _ h
def f_C_X7_linkNodes_16_3_7 (n : Nat) (s : hp_S) : Option hp_S :=
  pm_b1 (f_C_X4_drafts_7 s) (fun t1 =>
  l_C_X7_linkNodes_16_3_7_8 n (0 : Int32) t1)
set_option maxRecDepth 100000 in
set_option maxHeartbeats 400000 in
theorem w_C_X7_linkNodes_16_3_7 (d : Nat) (n : Nat) (s s1 : hp_S) (h : f_C_X7_linkNodes_16_3_7 n s = some s1) : hp_is sh_C me_X7_linkNodes (d + 2) [.ref 16, .ref 3, .ref 7] s none s1 := by
  refine hp_ofF [(0, .ref 16), (1, .ref 3), (2, .ref 7)] (by decide +kernel) (Nat.le_of_ble_eq_true rfl) rfl ?_
  unfold f_C_X7_linkNodes_16_3_7 at h
  refine hq_aload_n (pm_d rk_X7_linkNodes 0 rfl) rfl 2 rfl ?_
  obtain ⟨t1, hq, h⟩ := pm_b1_i h
  have hM := w_C_X4_drafts_7 (d := d + 1) (h := hq)
  refine hq_callVr (a := 7) (ci := 4) [] [] (pm_d rk_X7_linkNodes 1 rfl) ml_X7_48 iv_X4_drafts rfl rfl rfl rfl rfl (Nat.le_of_ble_eq_true rfl) hM ?_
  refine hq_astore_n (L1 := [(3, .ref 8), (0, .ref 16), (1, .ref 3), (2, .ref 7)]) (pm_d rk_X7_linkNodes 2 rfl) rfl (by decide) rfl ?_
  refine hq_iconst (v := (0 : Int32)) (pm_d rk_X7_linkNodes 3 rfl) (by decide) ?_
  refine hq_istore (L1 := [(4, .int (0 : Int32)), (3, .ref 8), (0, .ref 16), (1, .ref 3), (2, .ref 7)]) (pm_d rk_X7_linkNodes 4 rfl) (by decide) rfl ?_
  refine hq_drop [2, 3, 4, 1, 0] rfl ?_
  exact wl_C_X7_linkNodes_16_3_7_8 d _   _ _ _ h
def f_C_X2_kind_17 (a1 : Int32) (s : hp_S) : Option (Int32 × hp_S) :=
  pm_bd (f_C_X2_holds_17 a1 s) (fun x2 t1 =>
  if x2 = 0 then
    some ((0 : Int32), t1)
  else
    pm_gd1 (pm_ib a1 100) (
    some ((hs_A t1 18 a1.toNatClampNeg), t1)))
set_option maxRecDepth 100000 in
set_option maxHeartbeats 400000 in
theorem w_C_X2_kind_17 (d : Nat) (a1 : Int32) (s s1 : hp_S) (x0 : Int32) (h : f_C_X2_kind_17 a1 s = some (x0, s1)) : hp_is sh_C me_X2_kind (d + 1) [.ref 17, .int a1] s (some (.int x0)) s1 := by
  refine hp_ofF [(0, .ref 17), (1, .int a1)] (by decide +kernel) (Nat.le_of_ble_eq_true rfl) rfl ?_
  unfold f_C_X2_kind_17 at h
  refine hq_aload_n (pm_d rk_X2_kind 0 rfl) rfl 0 rfl ?_
  refine hq_iload_n (pm_d rk_X2_kind 1 rfl) rfl 1 rfl ?_
  obtain ⟨x2, t1, hq, h⟩ := pm_bd_i h
  have hM := w_C_X2_holds_17 (d := d + 0) (h := hq)
  refine hq_callVi (a := 17) (ci := 2) [.int a1] [] (pm_d rk_X2_kind 2 rfl) ml_X2_33 iv_X2_holds rfl rfl rfl rfl rfl (Nat.le_of_ble_eq_true rfl) hM ?_
  refine hq_if_eq 17 (pm_d rk_X2_kind 3 rfl) (by decide) (fun hc => ?_) (fun hc => ?_)
  · rw [if_pos hc] at h
    refine hq_iconst (v := (0 : Int32)) (pm_d rk_X2_kind 9 rfl) (by decide) ?_
    show hp_go _ _ _ _ _ 18 _ _ _
    exact hq_iret (pm_d rk_X2_kind 10 rfl) rfl h
  rw [if_neg hc] at h
  refine hq_aload_n (pm_d rk_X2_kind 4 rfl) rfl 0 rfl ?_
  refine hq_getR (h := 18) 0 (pm_d rk_X2_kind 5 rfl) fl_X2_15 rfl rfl ?_
  refine hq_iload_n (pm_d rk_X2_kind 6 rfl) rfl 1 rfl ?_
  obtain ⟨hg, h⟩ := pm_gd_i h
  refine hq_iaload (pm_d rk_X2_kind 7 rfl) rfl hg ?_
  refine hq_goto 18 (pm_d rk_X2_kind 8 rfl) (by decide) ?_
  show hp_go _ _ _ _ _ 18 _ _ _
  exact hq_iret (pm_d rk_X2_kind 10 rfl) rfl h
def l_C_X7_countSlots_16_9 : Nat → Int32 → hp_S → Option hp_S
  | 0, _, _ => none
  | n + 1, y1, s =>
    if (hs_I s 16 4) ≤ y1 then
      some s
    else
      if (100 : Int32) ≤ y1 then
        some s
      else
        pm_gd1 (pm_ib y1 101) (
        pm_bd (f_C_X2_kind_17 y1 s) (fun x3 t2 =>
        pm_let (fun (z53_1 : Int32) (z53_S0 : Int32) (z53_S1 : Int32) (z53_S2 : Int32) (s : hp_S) =>
          pm_gd1 (pm_ib z53_S2 101) (
          pm_let (hs_pA s 24 z53_S2.toNatClampNeg (z53_S1 + z53_S0)) (fun t4 =>
          pm_let (z53_1 + (1 : Int32)) (fun x5 =>
          l_C_X7_countSlots_16_9 n x5 t4)))) (fun j53 =>
        if x3 = (4 : Int32) then
          j53 y1 (2 : Int32) (hs_A s 24 y1.toNatClampNeg) (y1 + (1 : Int32)) t2
        else
          j53 y1 (1 : Int32) (hs_A s 24 y1.toNatClampNeg) (y1 + (1 : Int32)) t2)))
set_option maxRecDepth 100000 in
set_option maxHeartbeats 400000 in
theorem wl_C_X7_countSlots_16_9 (d : Nat) (s1 : hp_S)  : ∀ (n : Nat) (y1 : Int32) (s : hp_S), l_C_X7_countSlots_16_9 n y1 s = some s1 → hp_go sh_C me_X7_countSlots (d + 2) none s1 9 [(0, .ref 16), (1, .int y1)] [] s := by
  intro n
  induction n with
  | zero =>
    intro y1 s h
    cases h
  | succ n ih =>
    intro y1 s h
    rw [l_C_X7_countSlots_16_9.eq_2] at h
    refine hq_iload_n (pm_d rk_X7_countSlots 7 rfl) rfl 1 rfl ?_
    refine hq_aload_n (pm_d rk_X7_countSlots 8 rfl) rfl 0 rfl ?_
    refine hq_getI 4 (pm_d rk_X7_countSlots 9 rfl) fl_X7_30 rfl rfl ?_
    refine hq_icmp_ge 61 (pm_d rk_X7_countSlots 10 rfl) (by decide) (fun hc => ?_) (fun hc => ?_)
    · rw [if_pos hc] at h
      show hp_go _ _ _ _ _ 61 _ _ _
      exact hq_vret (pm_d rk_X7_countSlots 36 rfl) rfl h
    rw [if_neg hc] at h
    refine hq_iload_n (pm_d rk_X7_countSlots 11 rfl) rfl 1 rfl ?_
    refine hq_bipush (v := (100 : Int32)) (pm_d rk_X7_countSlots 12 rfl) (by decide) ?_
    refine hq_icmp_ge 61 (pm_d rk_X7_countSlots 13 rfl) (by decide) (fun hc => ?_) (fun hc => ?_)
    · rw [if_pos hc] at h
      exact hq_vret (pm_d rk_X7_countSlots 36 rfl) rfl h
    rw [if_neg hc] at h
    refine hq_aload_n (pm_d rk_X7_countSlots 14 rfl) rfl 0 rfl ?_
    show hp_go _ _ _ _ _ 24 _ _ _
    refine hq_getR (h := 24) 2 (pm_d rk_X7_countSlots 15 rfl) fl_X7_24 rfl rfl ?_
    refine hq_iload_n (pm_d rk_X7_countSlots 16 rfl) rfl 1 rfl ?_
    refine hq_iconst (v := (1 : Int32)) (pm_d rk_X7_countSlots 17 rfl) (by decide) ?_
    refine hq_iadd (pm_d rk_X7_countSlots 18 rfl) ?_
    refine hq_aload_n (pm_d rk_X7_countSlots 19 rfl) rfl 0 rfl ?_
    refine hq_getR (h := 24) 2 (pm_d rk_X7_countSlots 20 rfl) fl_X7_24 rfl rfl ?_
    show hp_go _ _ _ _ _ 34 _ _ _
    refine hq_iload_n (pm_d rk_X7_countSlots 21 rfl) rfl 1 rfl ?_
    obtain ⟨hg, h⟩ := pm_gd_i h
    refine hq_iaload (pm_d rk_X7_countSlots 22 rfl) rfl hg ?_
    refine hq_aload_n (pm_d rk_X7_countSlots 23 rfl) rfl 0 rfl ?_
    refine hq_getR (h := 17) 0 (pm_d rk_X7_countSlots 24 rfl) fl_X7_14 rfl rfl ?_
    refine hq_iload_n (pm_d rk_X7_countSlots 25 rfl) rfl 1 rfl ?_
    obtain ⟨x3, t2, hq, h⟩ := pm_bd_i h
    have hM := w_C_X2_kind_17 (d := d + 0) (h := hq)
    refine hq_callVi (a := 17) (ci := 2) [.int y1] [.int (hs_A s 24 y1.toNatClampNeg), .int (y1 + (1 : Int32)), .ref 24] (pm_d rk_X7_countSlots 26 rfl) ml_X7_52 iv_X2_kind rfl rfl rfl rfl rfl (Nat.le_of_ble_eq_true rfl) hM ?_
    show hp_go _ _ _ _ _ 44 _ _ _
    refine hq_iconst (v := (4 : Int32)) (pm_d rk_X7_countSlots 27 rfl) (by decide) ?_
    refine pm_jn (P := fun j53 => ∀ (z53_1 : Int32) (z53_S0 : Int32) (z53_S1 : Int32) (z53_S2 : Int32) (s : hp_S), j53 z53_1 z53_S0 z53_S1 z53_S2 s = some s1 → hp_go sh_C me_X7_countSlots (d + 2) none s1 53 [(0, .ref 16), (1, .int z53_1)] [.int z53_S0, .int z53_S1, .int z53_S2, .ref 24] s) h ?_ (fun j53 hj53 h => ?_)
    · intro z53_1 z53_S0 z53_S1 z53_S2 s h
      dsimp only at h
      refine hq_iadd (pm_d rk_X7_countSlots 32 rfl) ?_
      obtain ⟨hg, h⟩ := pm_gd_i h
      refine hq_iastore (pm_d rk_X7_countSlots 33 rfl) rfl hg ?_
      refine pm_nm (G := fun t4 => hp_go sh_C me_X7_countSlots (d + 2) none s1 55 [(0, .ref 16), (1, .int z53_1)] [] t4) h (fun t4 h => ?_)
      refine hq_iinc (v := z53_1 + (1 : Int32)) (L1 := [(1, .int (z53_1 + (1 : Int32))), (0, .ref 16)]) (pm_d rk_X7_countSlots 34 rfl) 1 rfl (by rw [show Int32.ofInt (1) = (1 : Int32) by decide]) (by decide) rfl ?_
      refine pm_nm (G := fun x5 => hp_go sh_C me_X7_countSlots (d + 2) none s1 58 [(1, .int x5), (0, .ref 16)] [] t4) h (fun x5 h => ?_)
      refine hq_goto 9 (pm_d rk_X7_countSlots 35 rfl) (by decide) ?_
      refine hq_drop [1, 0] rfl ?_
      exact ih _ _ h
    refine hq_icmp_ne 52 (pm_d rk_X7_countSlots 28 rfl) (by decide) (fun hc => ?_) (fun hc => ?_)
    · rw [if_neg hc] at h
      show hp_go _ _ _ _ _ 52 _ _ _
      refine hq_iconst (v := (1 : Int32)) (pm_d rk_X7_countSlots 31 rfl) (by decide) ?_
      refine hq_drop [0, 1] rfl ?_
      exact hj53 _ _ _ _ _ h
    rw [if_pos hc] at h
    refine hq_iconst (v := (2 : Int32)) (pm_d rk_X7_countSlots 29 rfl) (by decide) ?_
    refine hq_goto 53 (pm_d rk_X7_countSlots 30 rfl) (by decide) ?_
    refine hq_drop [0, 1] rfl ?_
    exact hj53 _ _ _ _ _ h
def f_C_X7_countSlots_16 (n : Nat) (s : hp_S) : Option hp_S :=
  pm_gd1 (pm_ib (0 : Int32) 101) (
  pm_let (hs_pA s 24 (0 : Int32).toNatClampNeg (0 : Int32)) (fun t1 =>
  l_C_X7_countSlots_16_9 n (0 : Int32) t1))
set_option maxRecDepth 100000 in
set_option maxHeartbeats 400000 in
theorem w_C_X7_countSlots_16 (d : Nat) (n : Nat) (s s1 : hp_S) (h : f_C_X7_countSlots_16 n s = some s1) : hp_is sh_C me_X7_countSlots (d + 2) [.ref 16] s none s1 := by
  refine hp_ofF [(0, .ref 16)] (by decide +kernel) (Nat.le_of_ble_eq_true rfl) rfl ?_
  unfold f_C_X7_countSlots_16 at h
  refine hq_aload_n (pm_d rk_X7_countSlots 0 rfl) rfl 0 rfl ?_
  refine hq_getR (h := 24) 2 (pm_d rk_X7_countSlots 1 rfl) fl_X7_24 rfl rfl ?_
  refine hq_iconst (v := (0 : Int32)) (pm_d rk_X7_countSlots 2 rfl) (by decide) ?_
  refine hq_iconst (v := (0 : Int32)) (pm_d rk_X7_countSlots 3 rfl) (by decide) ?_
  obtain ⟨hg, h⟩ := pm_gd_i h
  refine hq_iastore (pm_d rk_X7_countSlots 4 rfl) rfl hg ?_
  refine pm_nm (G := fun t1 => hp_go sh_C me_X7_countSlots (d + 2) none s1 7 [(0, .ref 16)] [] t1) h (fun t1 h => ?_)
  show hp_go _ _ _ _ _ 7 _ _ _
  refine hq_iconst (v := (0 : Int32)) (pm_d rk_X7_countSlots 5 rfl) (by decide) ?_
  refine hq_istore_n (L1 := [(1, .int (0 : Int32)), (0, .ref 16)]) (pm_d rk_X7_countSlots 6 rfl) rfl (by decide) rfl ?_
  refine hq_drop [1, 0] rfl ?_
  exact wl_C_X7_countSlots_16_9 d _   _ _ _ h
def f_C_X7_isNode_16 (a1 : Int32) (s : hp_S) : Option (Int32 × hp_S) :=
  if a1 < 0 then
    some ((0 : Int32), s)
  else
    if (hs_I s 16 4) ≤ a1 then
      some ((0 : Int32), s)
    else
      if (100 : Int32) ≤ a1 then
        some ((0 : Int32), s)
      else
        some ((1 : Int32), s)
set_option maxRecDepth 100000 in
set_option maxHeartbeats 400000 in
theorem w_C_X7_isNode_16 (d : Nat) (a1 : Int32) (s s1 : hp_S) (x0 : Int32) (h : f_C_X7_isNode_16 a1 s = some (x0, s1)) : hp_is sh_C me_X7_isNode (d + 0) [.ref 16, .int a1] s (some (.int x0)) s1 := by
  refine hp_ofF [(0, .ref 16), (1, .int a1)] (by decide +kernel) (Nat.le_of_ble_eq_true rfl) rfl ?_
  unfold f_C_X7_isNode_16 at h
  refine hq_iload_n (pm_d rk_X7_isNode 0 rfl) rfl 1 rfl ?_
  refine hq_if_lt 22 (pm_d rk_X7_isNode 1 rfl) (by decide) (fun hc => ?_) (fun hc => ?_)
  · rw [if_pos hc] at h
    refine hq_iconst (v := (0 : Int32)) (pm_d rk_X7_isNode 11 rfl) (by decide) ?_
    exact hq_zret (pm_d rk_X7_isNode 12 rfl) rfl rfl h
  rw [if_neg hc] at h
  refine hq_iload_n (pm_d rk_X7_isNode 2 rfl) rfl 1 rfl ?_
  show hp_go _ _ _ _ _ 5 _ _ _
  refine hq_aload_n (pm_d rk_X7_isNode 3 rfl) rfl 0 rfl ?_
  refine hq_getI 4 (pm_d rk_X7_isNode 4 rfl) fl_X7_30 rfl rfl ?_
  refine hq_icmp_ge 22 (pm_d rk_X7_isNode 5 rfl) (by decide) (fun hc => ?_) (fun hc => ?_)
  · rw [if_pos hc] at h
    refine hq_iconst (v := (0 : Int32)) (pm_d rk_X7_isNode 11 rfl) (by decide) ?_
    exact hq_zret (pm_d rk_X7_isNode 12 rfl) rfl rfl h
  rw [if_neg hc] at h
  refine hq_iload_n (pm_d rk_X7_isNode 6 rfl) rfl 1 rfl ?_
  show hp_go _ _ _ _ _ 13 _ _ _
  refine hq_bipush (v := (100 : Int32)) (pm_d rk_X7_isNode 7 rfl) (by decide) ?_
  refine hq_icmp_ge 22 (pm_d rk_X7_isNode 8 rfl) (by decide) (fun hc => ?_) (fun hc => ?_)
  · rw [if_pos hc] at h
    refine hq_iconst (v := (0 : Int32)) (pm_d rk_X7_isNode 11 rfl) (by decide) ?_
    exact hq_zret (pm_d rk_X7_isNode 12 rfl) rfl rfl h
  rw [if_neg hc] at h
  refine hq_iconst (v := (1 : Int32)) (pm_d rk_X7_isNode 9 rfl) (by decide) ?_
  refine hq_goto 23 (pm_d rk_X7_isNode 10 rfl) (by decide) ?_
  show hp_go _ _ _ _ _ 23 _ _ _
  exact hq_zret (pm_d rk_X7_isNode 12 rfl) rfl rfl h
def f_C_X2_kind_8 (a1 : Int32) (s : hp_S) : Option (Int32 × hp_S) :=
  pm_bd (f_C_X2_holds_8 a1 s) (fun x2 t1 =>
  if x2 = 0 then
    some ((0 : Int32), t1)
  else
    pm_gd1 (pm_ib a1 501) (
    some ((hs_A t1 9 a1.toNatClampNeg), t1)))
set_option maxRecDepth 100000 in
set_option maxHeartbeats 400000 in
theorem w_C_X2_kind_8 (d : Nat) (a1 : Int32) (s s1 : hp_S) (x0 : Int32) (h : f_C_X2_kind_8 a1 s = some (x0, s1)) : hp_is sh_C me_X2_kind (d + 1) [.ref 8, .int a1] s (some (.int x0)) s1 := by
  refine hp_ofF [(0, .ref 8), (1, .int a1)] (by decide +kernel) (Nat.le_of_ble_eq_true rfl) rfl ?_
  unfold f_C_X2_kind_8 at h
  refine hq_aload_n (pm_d rk_X2_kind 0 rfl) rfl 0 rfl ?_
  refine hq_iload_n (pm_d rk_X2_kind 1 rfl) rfl 1 rfl ?_
  obtain ⟨x2, t1, hq, h⟩ := pm_bd_i h
  have hM := w_C_X2_holds_8 (d := d + 0) (h := hq)
  refine hq_callVi (a := 8) (ci := 2) [.int a1] [] (pm_d rk_X2_kind 2 rfl) ml_X2_33 iv_X2_holds rfl rfl rfl rfl rfl (Nat.le_of_ble_eq_true rfl) hM ?_
  refine hq_if_eq 17 (pm_d rk_X2_kind 3 rfl) (by decide) (fun hc => ?_) (fun hc => ?_)
  · rw [if_pos hc] at h
    refine hq_iconst (v := (0 : Int32)) (pm_d rk_X2_kind 9 rfl) (by decide) ?_
    show hp_go _ _ _ _ _ 18 _ _ _
    exact hq_iret (pm_d rk_X2_kind 10 rfl) rfl h
  rw [if_neg hc] at h
  refine hq_aload_n (pm_d rk_X2_kind 4 rfl) rfl 0 rfl ?_
  refine hq_getR (h := 9) 0 (pm_d rk_X2_kind 5 rfl) fl_X2_15 rfl rfl ?_
  refine hq_iload_n (pm_d rk_X2_kind 6 rfl) rfl 1 rfl ?_
  obtain ⟨hg, h⟩ := pm_gd_i h
  refine hq_iaload (pm_d rk_X2_kind 7 rfl) rfl hg ?_
  refine hq_goto 18 (pm_d rk_X2_kind 8 rfl) (by decide) ?_
  show hp_go _ _ _ _ _ 18 _ _ _
  exact hq_iret (pm_d rk_X2_kind 10 rfl) rfl h
def f_C_X2_begin_17 (a1 : Int32) (a2 : Int32) (s : hp_S) : Option hp_S :=
  pm_bd (f_C_X2_holds_17 a1 s) (fun x2 t1 =>
  if x2 = 0 then
    some t1
  else
    pm_gd1 (pm_ib a1 100) (
    pm_let (hs_pA t1 18 a1.toNatClampNeg a2) (fun t3 =>
    pm_gd1 (pm_ib a1 100) (
    pm_let (hs_pA t3 19 a1.toNatClampNeg (-1 : Int32)) (fun t4 =>
    pm_gd1 (pm_ib a1 100) (
    pm_let (hs_pA t4 20 a1.toNatClampNeg (-1 : Int32)) (fun t5 =>
    pm_gd1 (pm_ib a1 100) (
    pm_let (hs_pA t5 21 a1.toNatClampNeg (-1 : Int32)) (fun t6 =>
    pm_gd1 (pm_ib a1 100) (
    pm_let (hs_pA t6 22 a1.toNatClampNeg (-1 : Int32)) (fun t7 =>
    some t7)))))))))))
set_option maxRecDepth 100000 in
set_option maxHeartbeats 400000 in
theorem w_C_X2_begin_17 (d : Nat) (a1 : Int32) (a2 : Int32) (s s1 : hp_S) (h : f_C_X2_begin_17 a1 a2 s = some s1) : hp_is sh_C me_X2_begin (d + 1) [.ref 17, .int a1, .int a2] s none s1 := by
  refine hp_ofF [(0, .ref 17), (1, .int a1), (2, .int a2)] (by decide +kernel) (Nat.le_of_ble_eq_true rfl) rfl ?_
  unfold f_C_X2_begin_17 at h
  refine hq_aload_n (pm_d rk_X2_begin 0 rfl) rfl 0 rfl ?_
  refine hq_iload_n (pm_d rk_X2_begin 1 rfl) rfl 1 rfl ?_
  obtain ⟨x2, t1, hq, h⟩ := pm_bd_i h
  have hM := w_C_X2_holds_17 (d := d + 0) (h := hq)
  refine hq_callVi (a := 17) (ci := 2) [.int a1] [] (pm_d rk_X2_begin 2 rfl) ml_X2_33 iv_X2_holds rfl rfl rfl rfl rfl (Nat.le_of_ble_eq_true rfl) hM ?_
  refine hq_if_eq 43 (pm_d rk_X2_begin 3 rfl) (by decide) (fun hc => ?_) (fun hc => ?_)
  · rw [if_pos hc] at h
    exact hq_vret (pm_d rk_X2_begin 29 rfl) rfl h
  rw [if_neg hc] at h
  show hp_go _ _ _ _ _ 8 _ _ _
  refine hq_aload_n (pm_d rk_X2_begin 4 rfl) rfl 0 rfl ?_
  refine hq_getR (h := 18) 0 (pm_d rk_X2_begin 5 rfl) fl_X2_15 rfl rfl ?_
  refine hq_iload_n (pm_d rk_X2_begin 6 rfl) rfl 1 rfl ?_
  refine hq_iload_n (pm_d rk_X2_begin 7 rfl) rfl 2 rfl ?_
  obtain ⟨hg, h⟩ := pm_gd_i h
  refine hq_iastore (pm_d rk_X2_begin 8 rfl) rfl hg ?_
  refine pm_nm (G := fun t3 => hp_go sh_C me_X2_begin (d + 1) none s1 15 [(0, .ref 17), (1, .int a1), (2, .int a2)] [] t3) h (fun t3 h => ?_)
  refine hq_aload_n (pm_d rk_X2_begin 9 rfl) rfl 0 rfl ?_
  show hp_go _ _ _ _ _ 16 _ _ _
  refine hq_getR (h := 19) 1 (pm_d rk_X2_begin 10 rfl) fl_X2_21 rfl rfl ?_
  refine hq_iload_n (pm_d rk_X2_begin 11 rfl) rfl 1 rfl ?_
  refine hq_iconst (v := (-1 : Int32)) (pm_d rk_X2_begin 12 rfl) (by decide) ?_
  obtain ⟨hg, h⟩ := pm_gd_i h
  refine hq_iastore (pm_d rk_X2_begin 13 rfl) rfl hg ?_
  refine pm_nm (G := fun t4 => hp_go sh_C me_X2_begin (d + 1) none s1 22 [(0, .ref 17), (1, .int a1), (2, .int a2)] [] t4) h (fun t4 h => ?_)
  refine hq_aload_n (pm_d rk_X2_begin 14 rfl) rfl 0 rfl ?_
  refine hq_getR (h := 20) 2 (pm_d rk_X2_begin 15 rfl) fl_X2_24 rfl rfl ?_
  show hp_go _ _ _ _ _ 26 _ _ _
  refine hq_iload_n (pm_d rk_X2_begin 16 rfl) rfl 1 rfl ?_
  refine hq_iconst (v := (-1 : Int32)) (pm_d rk_X2_begin 17 rfl) (by decide) ?_
  obtain ⟨hg, h⟩ := pm_gd_i h
  refine hq_iastore (pm_d rk_X2_begin 18 rfl) rfl hg ?_
  refine pm_nm (G := fun t5 => hp_go sh_C me_X2_begin (d + 1) none s1 29 [(0, .ref 17), (1, .int a1), (2, .int a2)] [] t5) h (fun t5 h => ?_)
  refine hq_aload_n (pm_d rk_X2_begin 19 rfl) rfl 0 rfl ?_
  refine hq_getR (h := 21) 3 (pm_d rk_X2_begin 20 rfl) fl_X2_27 rfl rfl ?_
  refine hq_iload_n (pm_d rk_X2_begin 21 rfl) rfl 1 rfl ?_
  show hp_go _ _ _ _ _ 34 _ _ _
  refine hq_iconst (v := (-1 : Int32)) (pm_d rk_X2_begin 22 rfl) (by decide) ?_
  obtain ⟨hg, h⟩ := pm_gd_i h
  refine hq_iastore (pm_d rk_X2_begin 23 rfl) rfl hg ?_
  refine pm_nm (G := fun t6 => hp_go sh_C me_X2_begin (d + 1) none s1 36 [(0, .ref 17), (1, .int a1), (2, .int a2)] [] t6) h (fun t6 h => ?_)
  refine hq_aload_n (pm_d rk_X2_begin 24 rfl) rfl 0 rfl ?_
  refine hq_getR (h := 22) 4 (pm_d rk_X2_begin 25 rfl) fl_X2_30 rfl rfl ?_
  refine hq_iload_n (pm_d rk_X2_begin 26 rfl) rfl 1 rfl ?_
  refine hq_iconst (v := (-1 : Int32)) (pm_d rk_X2_begin 27 rfl) (by decide) ?_
  show hp_go _ _ _ _ _ 42 _ _ _
  obtain ⟨hg, h⟩ := pm_gd_i h
  refine hq_iastore (pm_d rk_X2_begin 28 rfl) rfl hg ?_
  refine pm_nm (G := fun t7 => hp_go sh_C me_X2_begin (d + 1) none s1 43 [(0, .ref 17), (1, .int a1), (2, .int a2)] [] t7) h (fun t7 h => ?_)
  exact hq_vret (pm_d rk_X2_begin 29 rfl) rfl h
def l_C_X7_gather_16_3_7_7 : Nat → Int32 → hp_S → Option hp_S
  | 0, _, _ => none
  | n + 1, y3, s =>
    pm_bd (f_C_X6_size_3 s) (fun x3 t2 =>
    pm_let (fun (s : hp_S) =>
      pm_bd (f_C_X4_root_7 s) (fun x5 t4 =>
      pm_bd (f_C_X7_ownerOf_16 x5 t4) (fun x7 t6 =>
      pm_let (hs_pI t6 16 5 x7) (fun t8 =>
      pm_b1 (f_C_X7_linkNodes_16_3_7 n t8) (fun t9 =>
      pm_b1 (f_C_X7_countSlots_16 n t9) (fun t10 =>
      some t10)))))) (fun j142 =>
    if x3 ≤ y3 then
      j142  t2
    else
      if (500 : Int32) ≤ y3 then
        j142  t2
      else
        pm_bd (f_C_X4_owner_7 y3 t2) (fun x12 t11 =>
        pm_let (fun (z98_3 : Int32) (s : hp_S) =>
          pm_bd (f_C_X6_kind_3 z98_3 s) (fun x14 t13 =>
          pm_let (fun (z136_3 : Int32) (s : hp_S) =>
            pm_let (z136_3 + (1 : Int32)) (fun x15 =>
            l_C_X7_gather_16_3_7_7 n x15 s)) (fun j136 =>
          if x14 = (6 : Int32) then
            pm_gd1 (pm_ib z98_3 500) (
            pm_bd (f_C_X7_isNode_16 (hs_A t13 25 z98_3.toNatClampNeg) t13) (fun x17 t16 =>
            if x17 = 0 then
              j136 z98_3 t16
            else
              pm_gd1 (pm_ib z98_3 500) (
              pm_gd1 (pm_ib (hs_A t16 25 z98_3.toNatClampNeg) 100) (
              pm_let (hs_pA t16 23 (hs_A t16 25 z98_3.toNatClampNeg).toNatClampNeg (hs_I t16 16 4)) (fun t18 =>
              j136 z98_3 t18)))))
          else
            j136 z98_3 t13))) (fun j98 =>
        pm_let (fun (z86_3 : Int32) (z86_4 : Int32) (s : hp_S) =>
          pm_bd (f_C_X7_ownerOf_16 z86_4 s) (fun x20 t19 =>
          pm_gd1 (pm_ib z86_3 500) (
          pm_let (hs_pA t19 25 z86_3.toNatClampNeg x20) (fun t21 =>
          j98 z86_3 t21)))) (fun j86 =>
        if x12 = y3 then
          if (100 : Int32) ≤ (hs_I t11 16 4) then
            j86 y3 x12 t11
          else
            pm_b1 (f_C_X4_drafts_7 t11) (fun t22 =>
            pm_bd (f_C_X2_kind_8 y3 t22) (fun x24 t23 =>
            pm_b1 (f_C_X2_begin_17 (hs_I t11 16 4) x24 t23) (fun t25 =>
            pm_gd1 (pm_ib y3 500) (
            pm_let (hs_pA t25 25 y3.toNatClampNeg (hs_I t25 16 4)) (fun t26 =>
            pm_let (hs_pI t26 16 4 ((hs_I t26 16 4) + (1 : Int32))) (fun t27 =>
            j98 y3 t27))))))
        else
          j86 y3 x12 t11)))))
set_option maxRecDepth 100000 in
set_option maxHeartbeats 400000 in
theorem wl_C_X7_gather_16_3_7_7 (d : Nat) (s1 : hp_S)  : ∀ (n : Nat) (y3 : Int32) (s : hp_S), l_C_X7_gather_16_3_7_7 n y3 s = some s1 → hp_go sh_C me_X7_gather (d + 3) none s1 7 [(0, .ref 16), (1, .ref 3), (2, .ref 7), (3, .int y3)] [] s := by
  intro n
  induction n with
  | zero =>
    intro y3 s h
    cases h
  | succ n ih =>
    intro y3 s h
    rw [l_C_X7_gather_16_3_7_7.eq_2] at h
    show hp_go _ _ _ _ _ 7 _ _ _
    refine hq_iload_n (pm_d rk_X7_gather 5 rfl) rfl 3 rfl ?_
    refine hq_aload_n (pm_d rk_X7_gather 6 rfl) rfl 1 rfl ?_
    obtain ⟨x3, t2, hq, h⟩ := pm_bd_i h
    have hM := w_C_X6_size_3 (d := d + 2) (h := hq)
    refine hq_callVi (a := 3) (ci := 6) [] [.int y3] (pm_d rk_X7_gather 7 rfl) ml_X7_37 iv_X6_size rfl rfl rfl rfl rfl (Nat.le_of_ble_eq_true rfl) hM ?_
    refine pm_jn (P := fun j142 => ∀ (s : hp_S), j142  s = some s1 → hp_go sh_C me_X7_gather (d + 3) none s1 142 [(0, .ref 16), (1, .ref 3), (2, .ref 7)] [] s) h ?_ (fun j142 hj142 h => ?_)
    · intro  s h
      dsimp only at h
      refine hq_aload_n (pm_d rk_X7_gather 75 rfl) rfl 0 rfl ?_
      refine hq_aload_n (pm_d rk_X7_gather 76 rfl) rfl 0 rfl ?_
      refine hq_aload_n (pm_d rk_X7_gather 77 rfl) rfl 2 rfl ?_
      show hp_go _ _ _ _ _ 145 _ _ _
      obtain ⟨x5, t4, hq, h⟩ := pm_bd_i h
      have hM := w_C_X4_root_7 (d := d + 2) (h := hq)
      refine hq_callVi (a := 7) (ci := 4) [] [.ref 16, .ref 16] (pm_d rk_X7_gather 78 rfl) ml_X7_67 iv_X4_root rfl rfl rfl rfl rfl (Nat.le_of_ble_eq_true rfl) hM ?_
      obtain ⟨x7, t6, hq, h⟩ := pm_bd_i h
      have hM := w_C_X7_ownerOf_16 (d := d + 2) (h := hq)
      refine hq_callVi (a := 16) (ci := 7) [.int x5] [.ref 16] (pm_d rk_X7_gather 79 rfl) ml_X7_59 iv_X7_ownerOf rfl rfl rfl rfl rfl (Nat.le_of_ble_eq_true rfl) hM ?_
      refine hq_putI 5 (pm_d rk_X7_gather 80 rfl) fl_X7_34 rfl rfl ?_
      refine pm_nm (G := fun t8 => hp_go sh_C me_X7_gather (d + 3) none s1 154 [(0, .ref 16), (1, .ref 3), (2, .ref 7)] [] t8) h (fun t8 h => ?_)
      refine hq_aload_n (pm_d rk_X7_gather 81 rfl) rfl 0 rfl ?_
      refine hq_aload_n (pm_d rk_X7_gather 82 rfl) rfl 1 rfl ?_
      refine hq_aload_n (pm_d rk_X7_gather 83 rfl) rfl 2 rfl ?_
      show hp_go _ _ _ _ _ 157 _ _ _
      obtain ⟨t9, hq, h⟩ := pm_b1_i h
      have hM := w_C_X7_linkNodes_16_3_7 (d := d + 0) (h := hq)
      refine hq_callVv (a := 16) (ci := 7) [.ref 3, .ref 7] [] (pm_d rk_X7_gather 84 rfl) ml_X7_69 iv_X7_linkNodes rfl rfl rfl rfl rfl (Nat.le_of_ble_eq_true rfl) hM ?_
      refine hq_aload_n (pm_d rk_X7_gather 85 rfl) rfl 0 rfl ?_
      obtain ⟨t10, hq, h⟩ := pm_b1_i h
      have hM := w_C_X7_countSlots_16 (d := d + 0) (h := hq)
      refine hq_callVv (a := 16) (ci := 7) [] [] (pm_d rk_X7_gather 86 rfl) ml_X7_73 iv_X7_countSlots rfl rfl rfl rfl rfl (Nat.le_of_ble_eq_true rfl) hM ?_
      exact hq_vret (pm_d rk_X7_gather 87 rfl) rfl h
    refine hq_icmp_ge 142 (pm_d rk_X7_gather 8 rfl) (by decide) (fun hc => ?_) (fun hc => ?_)
    · rw [if_pos hc] at h
      refine hq_drop [0, 1, 2] rfl ?_
      exact hj142  _ h
    rw [if_neg hc] at h
    refine hq_iload_n (pm_d rk_X7_gather 9 rfl) rfl 3 rfl ?_
    show hp_go _ _ _ _ _ 16 _ _ _
    refine hq_sipush (v := (500 : Int32)) (pm_d rk_X7_gather 10 rfl) (by decide) ?_
    refine hq_icmp_ge 142 (pm_d rk_X7_gather 11 rfl) (by decide) (fun hc => ?_) (fun hc => ?_)
    · rw [if_pos hc] at h
      refine hq_drop [0, 1, 2] rfl ?_
      exact hj142  _ h
    rw [if_neg hc] at h
    refine hq_aload_n (pm_d rk_X7_gather 12 rfl) rfl 2 rfl ?_
    refine hq_iload_n (pm_d rk_X7_gather 13 rfl) rfl 3 rfl ?_
    obtain ⟨x12, t11, hq, h⟩ := pm_bd_i h
    have hM := w_C_X4_owner_7 (d := d + 1) (h := hq)
    refine hq_callVi (a := 7) (ci := 4) [.int y3] [] (pm_d rk_X7_gather 14 rfl) ml_X7_42 iv_X4_owner rfl rfl rfl rfl rfl (Nat.le_of_ble_eq_true rfl) hM ?_
    refine hq_istore (L1 := [(4, .int x12), (0, .ref 16), (1, .ref 3), (2, .ref 7), (3, .int y3)]) (pm_d rk_X7_gather 15 rfl) (by decide) rfl ?_
    show hp_go _ _ _ _ _ 29 _ _ _
    refine hq_iload (pm_d rk_X7_gather 16 rfl) 0 rfl ?_
    refine hq_iload_n (pm_d rk_X7_gather 17 rfl) rfl 4 rfl ?_
    refine pm_jn (P := fun j98 => ∀ (z98_3 : Int32) (s : hp_S), j98 z98_3 s = some s1 → hp_go sh_C me_X7_gather (d + 3) none s1 98 [(0, .ref 16), (1, .ref 3), (2, .ref 7), (3, .int z98_3)] [] s) h ?_ (fun j98 hj98 h => ?_)
    · intro z98_3 s h
      dsimp only at h
      refine hq_aload_n (pm_d rk_X7_gather 52 rfl) rfl 1 rfl ?_
      refine hq_iload_n (pm_d rk_X7_gather 53 rfl) rfl 3 rfl ?_
      obtain ⟨x14, t13, hq, h⟩ := pm_bd_i h
      have hM := w_C_X6_kind_3 (d := d + 2) (h := hq)
      refine hq_callVi (a := 3) (ci := 6) [.int z98_3] [] (pm_d rk_X7_gather 54 rfl) ml_X7_62 iv_X6_kind rfl rfl rfl rfl rfl (Nat.le_of_ble_eq_true rfl) hM ?_
      refine hq_bipush (v := (6 : Int32)) (pm_d rk_X7_gather 55 rfl) (by decide) ?_
      refine pm_jn (P := fun j136 => ∀ (z136_3 : Int32) (s : hp_S), j136 z136_3 s = some s1 → hp_go sh_C me_X7_gather (d + 3) none s1 136 [(0, .ref 16), (1, .ref 3), (2, .ref 7), (3, .int z136_3)] [] s) h ?_ (fun j136 hj136 h => ?_)
      · intro z136_3 s h
        dsimp only at h
        show hp_go _ _ _ _ _ 136 _ _ _
        refine hq_iinc (v := z136_3 + (1 : Int32)) (L1 := [(3, .int (z136_3 + (1 : Int32))), (0, .ref 16), (1, .ref 3), (2, .ref 7)]) (pm_d rk_X7_gather 73 rfl) 3 rfl (by rw [show Int32.ofInt (1) = (1 : Int32) by decide]) (by decide) rfl ?_
        refine pm_nm (G := fun x15 => hp_go sh_C me_X7_gather (d + 3) none s1 139 [(3, .int x15), (0, .ref 16), (1, .ref 3), (2, .ref 7)] [] s) h (fun x15 h => ?_)
        refine hq_goto 7 (pm_d rk_X7_gather 74 rfl) (by decide) ?_
        refine hq_drop [1, 2, 3, 0] rfl ?_
        exact ih _ _ h
      refine hq_icmp_ne 136 (pm_d rk_X7_gather 56 rfl) (by decide) (fun hc => ?_) (fun hc => ?_)
      · rw [if_neg hc] at h
        refine hq_drop [0, 1, 2, 3] rfl ?_
        exact hj136 _ _ h
      rw [if_pos hc] at h
      refine hq_aload_n (pm_d rk_X7_gather 57 rfl) rfl 0 rfl ?_
      refine hq_aload_n (pm_d rk_X7_gather 58 rfl) rfl 0 rfl ?_
      refine hq_getR (h := 25) 3 (pm_d rk_X7_gather 59 rfl) fl_X7_27 rfl rfl ?_
      show hp_go _ _ _ _ _ 113 _ _ _
      refine hq_iload_n (pm_d rk_X7_gather 60 rfl) rfl 3 rfl ?_
      obtain ⟨hg, h⟩ := pm_gd_i h
      refine hq_iaload (pm_d rk_X7_gather 61 rfl) rfl hg ?_
      obtain ⟨x17, t16, hq, h⟩ := pm_bd_i h
      have hM := w_C_X7_isNode_16 (d := d + 2) (h := hq)
      refine hq_callVi (a := 16) (ci := 7) [.int (hs_A t13 25 z98_3.toNatClampNeg)] [] (pm_d rk_X7_gather 62 rfl) ml_X7_63 iv_X7_isNode rfl rfl rfl rfl rfl (Nat.le_of_ble_eq_true rfl) hM ?_
      refine hq_if_eq 136 (pm_d rk_X7_gather 63 rfl) (by decide) (fun hc => ?_) (fun hc => ?_)
      · rw [if_pos hc] at h
        refine hq_drop [0, 1, 2, 3] rfl ?_
        exact hj136 _ _ h
      rw [if_neg hc] at h
      refine hq_aload_n (pm_d rk_X7_gather 64 rfl) rfl 0 rfl ?_
      refine hq_getR (h := 23) 1 (pm_d rk_X7_gather 65 rfl) fl_X7_20 rfl rfl ?_
      show hp_go _ _ _ _ _ 125 _ _ _
      refine hq_aload_n (pm_d rk_X7_gather 66 rfl) rfl 0 rfl ?_
      refine hq_getR (h := 25) 3 (pm_d rk_X7_gather 67 rfl) fl_X7_27 rfl rfl ?_
      refine hq_iload_n (pm_d rk_X7_gather 68 rfl) rfl 3 rfl ?_
      obtain ⟨hg, h⟩ := pm_gd_i h
      refine hq_iaload (pm_d rk_X7_gather 69 rfl) rfl hg ?_
      refine hq_aload_n (pm_d rk_X7_gather 70 rfl) rfl 0 rfl ?_
      refine hq_getI 4 (pm_d rk_X7_gather 71 rfl) fl_X7_30 rfl rfl ?_
      show hp_go _ _ _ _ _ 135 _ _ _
      obtain ⟨hg, h⟩ := pm_gd_i h
      refine hq_iastore (pm_d rk_X7_gather 72 rfl) rfl hg ?_
      refine pm_nm (G := fun t18 => hp_go sh_C me_X7_gather (d + 3) none s1 136 [(0, .ref 16), (1, .ref 3), (2, .ref 7), (3, .int z98_3)] [] t18) h (fun t18 h => ?_)
      refine hq_drop [0, 1, 2, 3] rfl ?_
      exact hj136 _ _ h
    refine pm_jn (P := fun j86 => ∀ (z86_3 : Int32) (z86_4 : Int32) (s : hp_S), j86 z86_3 z86_4 s = some s1 → hp_go sh_C me_X7_gather (d + 3) none s1 86 [(0, .ref 16), (1, .ref 3), (2, .ref 7), (3, .int z86_3), (4, .int z86_4)] [] s) h ?_ (fun j86 hj86 h => ?_)
    · intro z86_3 z86_4 s h
      dsimp only at h
      refine hq_aload_n (pm_d rk_X7_gather 45 rfl) rfl 0 rfl ?_
      refine hq_getR (h := 25) 3 (pm_d rk_X7_gather 46 rfl) fl_X7_27 rfl rfl ?_
      refine hq_iload_n (pm_d rk_X7_gather 47 rfl) rfl 3 rfl ?_
      refine hq_aload_n (pm_d rk_X7_gather 48 rfl) rfl 0 rfl ?_
      refine hq_iload (pm_d rk_X7_gather 49 rfl) 4 rfl ?_
      show hp_go _ _ _ _ _ 94 _ _ _
      obtain ⟨x20, t19, hq, h⟩ := pm_bd_i h
      have hM := w_C_X7_ownerOf_16 (d := d + 2) (h := hq)
      refine hq_callVi (a := 16) (ci := 7) [.int z86_4] [.int z86_3, .ref 25] (pm_d rk_X7_gather 50 rfl) ml_X7_59 iv_X7_ownerOf rfl rfl rfl rfl rfl (Nat.le_of_ble_eq_true rfl) hM ?_
      obtain ⟨hg, h⟩ := pm_gd_i h
      refine hq_iastore (pm_d rk_X7_gather 51 rfl) rfl hg ?_
      refine pm_nm (G := fun t21 => hp_go sh_C me_X7_gather (d + 3) none s1 98 [(0, .ref 16), (1, .ref 3), (2, .ref 7), (3, .int z86_3), (4, .int z86_4)] [] t21) h (fun t21 h => ?_)
      refine hq_drop [0, 1, 2, 3] rfl ?_
      exact hj98 _ _ h
    refine hq_icmp_ne 86 (pm_d rk_X7_gather 18 rfl) (by decide) (fun hc => ?_) (fun hc => ?_)
    · rw [if_neg hc] at h
      refine hq_drop [1, 2, 3, 4, 0] rfl ?_
      exact hj86 _ _ _ h
    rw [if_pos hc] at h
    refine hq_aload_n (pm_d rk_X7_gather 19 rfl) rfl 1 rfl ?_
    refine hq_getI 4 (pm_d rk_X7_gather 20 rfl) fl_X7_30 rfl rfl ?_
    refine hq_bipush (v := (100 : Int32)) (pm_d rk_X7_gather 21 rfl) (by decide) ?_
    show hp_go _ _ _ _ _ 41 _ _ _
    refine hq_icmp_ge 86 (pm_d rk_X7_gather 22 rfl) (by decide) (fun hc => ?_) (fun hc => ?_)
    · rw [if_pos hc] at h
      refine hq_drop [1, 2, 3, 4, 0] rfl ?_
      exact hj86 _ _ _ h
    rw [if_neg hc] at h
    refine hq_aload_n (pm_d rk_X7_gather 23 rfl) rfl 1 rfl ?_
    refine hq_getR (h := 17) 0 (pm_d rk_X7_gather 24 rfl) fl_X7_14 rfl rfl ?_
    refine hq_aload_n (pm_d rk_X7_gather 25 rfl) rfl 1 rfl ?_
    refine hq_getI 4 (pm_d rk_X7_gather 26 rfl) fl_X7_30 rfl rfl ?_
    refine hq_aload_n (pm_d rk_X7_gather 27 rfl) rfl 3 rfl ?_
    show hp_go _ _ _ _ _ 53 _ _ _
    obtain ⟨t22, hq, h⟩ := pm_b1_i h
    have hM := w_C_X4_drafts_7 (d := d + 2) (h := hq)
    refine hq_callVr (a := 7) (ci := 4) [] [.int (hs_I t11 16 4), .ref 17] (pm_d rk_X7_gather 28 rfl) ml_X7_48 iv_X4_drafts rfl rfl rfl rfl rfl (Nat.le_of_ble_eq_true rfl) hM ?_
    refine hq_iload_n (pm_d rk_X7_gather 29 rfl) rfl 4 rfl ?_
    obtain ⟨x24, t23, hq, h⟩ := pm_bd_i h
    have hM := w_C_X2_kind_8 (d := d + 1) (h := hq)
    refine hq_callVi (a := 8) (ci := 2) [.int y3] [.int (hs_I t11 16 4), .ref 17] (pm_d rk_X7_gather 30 rfl) ml_X7_52 iv_X2_kind rfl rfl rfl rfl rfl (Nat.le_of_ble_eq_true rfl) hM ?_
    obtain ⟨t25, hq, h⟩ := pm_b1_i h
    have hM := w_C_X2_begin_17 (d := d + 1) (h := hq)
    refine hq_callVv (a := 17) (ci := 2) [.int (hs_I t11 16 4), .int x24] [] (pm_d rk_X7_gather 31 rfl) ml_X7_55 iv_X2_begin rfl rfl rfl rfl rfl (Nat.le_of_ble_eq_true rfl) hM ?_
    refine hq_aload_n (pm_d rk_X7_gather 32 rfl) rfl 1 rfl ?_
    refine hq_getR (h := 25) 3 (pm_d rk_X7_gather 33 rfl) fl_X7_27 rfl rfl ?_
    show hp_go _ _ _ _ _ 67 _ _ _
    refine hq_iload_n (pm_d rk_X7_gather 34 rfl) rfl 4 rfl ?_
    refine hq_aload_n (pm_d rk_X7_gather 35 rfl) rfl 1 rfl ?_
    refine hq_getI 4 (pm_d rk_X7_gather 36 rfl) fl_X7_30 rfl rfl ?_
    obtain ⟨hg, h⟩ := pm_gd_i h
    refine hq_iastore (pm_d rk_X7_gather 37 rfl) rfl hg ?_
    refine pm_nm (G := fun t26 => hp_go sh_C me_X7_gather (d + 3) none s1 73 [(4, .int x12), (0, .ref 16), (1, .ref 3), (2, .ref 7), (3, .int y3)] [] t26) h (fun t26 h => ?_)
    refine hq_aload_n (pm_d rk_X7_gather 38 rfl) rfl 1 rfl ?_
    refine hq_dup (pm_d rk_X7_gather 39 rfl) rfl ?_
    show hp_go _ _ _ _ _ 75 _ _ _
    refine hq_getI 4 (pm_d rk_X7_gather 40 rfl) fl_X7_30 rfl rfl ?_
    refine hq_iconst (v := (1 : Int32)) (pm_d rk_X7_gather 41 rfl) (by decide) ?_
    refine hq_iadd (pm_d rk_X7_gather 42 rfl) ?_
    refine hq_putI 4 (pm_d rk_X7_gather 43 rfl) fl_X7_30 rfl rfl ?_
    refine pm_nm (G := fun t27 => hp_go sh_C me_X7_gather (d + 3) none s1 83 [(4, .int x12), (0, .ref 16), (1, .ref 3), (2, .ref 7), (3, .int y3)] [] t27) h (fun t27 h => ?_)
    refine hq_goto 98 (pm_d rk_X7_gather 44 rfl) (by decide) ?_
    refine hq_drop [1, 2, 3, 4] rfl ?_
    exact hj98 _ _ h
def f_C_X7_gather_16_3_7 (n : Nat) (s : hp_S) : Option hp_S :=
  pm_let (hs_pI s 16 4 (0 : Int32)) (fun t1 =>
  l_C_X7_gather_16_3_7_7 n (0 : Int32) t1)
set_option maxRecDepth 100000 in
set_option maxHeartbeats 400000 in
theorem w_C_X7_gather_16_3_7 (d : Nat) (n : Nat) (s s1 : hp_S) (h : f_C_X7_gather_16_3_7 n s = some s1) : hp_is sh_C me_X7_gather (d + 3) [.ref 16, .ref 3, .ref 7] s none s1 := by
  refine hp_ofF [(0, .ref 16), (1, .ref 3), (2, .ref 7)] (by decide +kernel) (Nat.le_of_ble_eq_true rfl) rfl ?_
  unfold f_C_X7_gather_16_3_7 at h
  refine hq_aload_n (pm_d rk_X7_gather 0 rfl) rfl 0 rfl ?_
  refine hq_iconst (v := (0 : Int32)) (pm_d rk_X7_gather 1 rfl) (by decide) ?_
  refine hq_putI 4 (pm_d rk_X7_gather 2 rfl) fl_X7_30 rfl rfl ?_
  refine pm_nm (G := fun t1 => hp_go sh_C me_X7_gather (d + 3) none s1 5 [(0, .ref 16), (1, .ref 3), (2, .ref 7)] [] t1) h (fun t1 h => ?_)
  refine hq_iconst (v := (0 : Int32)) (pm_d rk_X7_gather 3 rfl) (by decide) ?_
  refine hq_istore_n (L1 := [(3, .int (0 : Int32)), (0, .ref 16), (1, .ref 3), (2, .ref 7)]) (pm_d rk_X7_gather 4 rfl) rfl (by decide) rfl ?_
  refine hq_drop [1, 2, 3, 0] rfl ?_
  exact wl_C_X7_gather_16_3_7_7 d _   _ _ _ h
def f_C_X7_size_16  (s : hp_S) : Option (Int32 × hp_S) :=
  some ((hs_I s 16 4), s)
set_option maxRecDepth 100000 in
set_option maxHeartbeats 400000 in
theorem w_C_X7_size_16 (d : Nat)  (s s1 : hp_S) (x0 : Int32) (h : f_C_X7_size_16 s = some (x0, s1)) : hp_is sh_C me_X7_size (d + 0) [.ref 16] s (some (.int x0)) s1 := by
  refine hp_ofF [(0, .ref 16)] (by decide +kernel) (Nat.le_of_ble_eq_true rfl) rfl ?_
  unfold f_C_X7_size_16 at h
  refine hq_aload_n (pm_d rk_X7_size 0 rfl) rfl 0 rfl ?_
  refine hq_getI 4 (pm_d rk_X7_size 1 rfl) fl_X7_30 rfl rfl ?_
  exact hq_iret (pm_d rk_X7_size 2 rfl) rfl h
def f_C_X4_unknownName_7  (s : hp_S) : Option (Int32 × hp_S) :=
  some ((hs_I s 7 8), s)
set_option maxRecDepth 100000 in
set_option maxHeartbeats 400000 in
theorem w_C_X4_unknownName_7 (d : Nat)  (s s1 : hp_S) (x0 : Int32) (h : f_C_X4_unknownName_7 s = some (x0, s1)) : hp_is sh_C me_X4_unknownName (d + 0) [.ref 7] s (some (.int x0)) s1 := by
  refine hp_ofF [(0, .ref 7)] (by decide +kernel) (Nat.le_of_ble_eq_true rfl) rfl ?_
  unfold f_C_X4_unknownName_7 at h
  refine hq_aload_n (pm_d rk_X4_unknownName 0 rfl) rfl 0 rfl ?_
  refine hq_getI 8 (pm_d rk_X4_unknownName 1 rfl) fl_X4_40 rfl rfl ?_
  exact hq_iret (pm_d rk_X4_unknownName 2 rfl) rfl h
def f_C_X1_isCopy_26 (a1 : Int32) (s : hp_S) : Option (Int32 × hp_S) :=
  if a1 < 0 then
    some ((0 : Int32), s)
  else
    if (hs_I s 26 6) ≤ a1 then
      some ((0 : Int32), s)
    else
      if (2000 : Int32) ≤ a1 then
        some ((0 : Int32), s)
      else
        some ((1 : Int32), s)
set_option maxRecDepth 100000 in
set_option maxHeartbeats 400000 in
theorem w_C_X1_isCopy_26 (d : Nat) (a1 : Int32) (s s1 : hp_S) (x0 : Int32) (h : f_C_X1_isCopy_26 a1 s = some (x0, s1)) : hp_is sh_C me_X1_isCopy (d + 0) [.ref 26, .int a1] s (some (.int x0)) s1 := by
  refine hp_ofF [(0, .ref 26), (1, .int a1)] (by decide +kernel) (Nat.le_of_ble_eq_true rfl) rfl ?_
  unfold f_C_X1_isCopy_26 at h
  refine hq_iload_n (pm_d rk_X1_isCopy 0 rfl) rfl 1 rfl ?_
  refine hq_if_lt 23 (pm_d rk_X1_isCopy 1 rfl) (by decide) (fun hc => ?_) (fun hc => ?_)
  · rw [if_pos hc] at h
    refine hq_iconst (v := (0 : Int32)) (pm_d rk_X1_isCopy 11 rfl) (by decide) ?_
    exact hq_zret (pm_d rk_X1_isCopy 12 rfl) rfl rfl h
  rw [if_neg hc] at h
  refine hq_iload_n (pm_d rk_X1_isCopy 2 rfl) rfl 1 rfl ?_
  show hp_go _ _ _ _ _ 5 _ _ _
  refine hq_aload_n (pm_d rk_X1_isCopy 3 rfl) rfl 0 rfl ?_
  refine hq_getI 6 (pm_d rk_X1_isCopy 4 rfl) fl_X1_24 rfl rfl ?_
  refine hq_icmp_ge 23 (pm_d rk_X1_isCopy 5 rfl) (by decide) (fun hc => ?_) (fun hc => ?_)
  · rw [if_pos hc] at h
    refine hq_iconst (v := (0 : Int32)) (pm_d rk_X1_isCopy 11 rfl) (by decide) ?_
    exact hq_zret (pm_d rk_X1_isCopy 12 rfl) rfl rfl h
  rw [if_neg hc] at h
  refine hq_iload_n (pm_d rk_X1_isCopy 6 rfl) rfl 1 rfl ?_
  show hp_go _ _ _ _ _ 13 _ _ _
  refine hq_sipush (v := (2000 : Int32)) (pm_d rk_X1_isCopy 7 rfl) (by decide) ?_
  refine hq_icmp_ge 23 (pm_d rk_X1_isCopy 8 rfl) (by decide) (fun hc => ?_) (fun hc => ?_)
  · rw [if_pos hc] at h
    refine hq_iconst (v := (0 : Int32)) (pm_d rk_X1_isCopy 11 rfl) (by decide) ?_
    exact hq_zret (pm_d rk_X1_isCopy 12 rfl) rfl rfl h
  rw [if_neg hc] at h
  refine hq_iconst (v := (1 : Int32)) (pm_d rk_X1_isCopy 9 rfl) (by decide) ?_
  refine hq_goto 24 (pm_d rk_X1_isCopy 10 rfl) (by decide) ?_
  show hp_go _ _ _ _ _ 24 _ _ _
  exact hq_zret (pm_d rk_X1_isCopy 12 rfl) rfl rfl h
def f_C_X7_boundEnd_16 (a1 : Int32) (s : hp_S) : Option (Int32 × hp_S) :=
  if a1 < 0 then
    some ((0 : Int32), s)
  else
    if (100 : Int32) ≤ a1 then
      some ((0 : Int32), s)
    else
      pm_gd1 (pm_ib a1 100) (
      some ((hs_A s 23 a1.toNatClampNeg), s))
set_option maxRecDepth 100000 in
set_option maxHeartbeats 400000 in
theorem w_C_X7_boundEnd_16 (d : Nat) (a1 : Int32) (s s1 : hp_S) (x0 : Int32) (h : f_C_X7_boundEnd_16 a1 s = some (x0, s1)) : hp_is sh_C me_X7_boundEnd (d + 0) [.ref 16, .int a1] s (some (.int x0)) s1 := by
  refine hp_ofF [(0, .ref 16), (1, .int a1)] (by decide +kernel) (Nat.le_of_ble_eq_true rfl) rfl ?_
  unfold f_C_X7_boundEnd_16 at h
  refine hq_iload_n (pm_d rk_X7_boundEnd 0 rfl) rfl 1 rfl ?_
  refine hq_if_lt 19 (pm_d rk_X7_boundEnd 1 rfl) (by decide) (fun hc => ?_) (fun hc => ?_)
  · rw [if_pos hc] at h
    refine hq_iconst (v := (0 : Int32)) (pm_d rk_X7_boundEnd 10 rfl) (by decide) ?_
    exact hq_iret (pm_d rk_X7_boundEnd 11 rfl) rfl h
  rw [if_neg hc] at h
  refine hq_iload_n (pm_d rk_X7_boundEnd 2 rfl) rfl 1 rfl ?_
  show hp_go _ _ _ _ _ 5 _ _ _
  refine hq_bipush (v := (100 : Int32)) (pm_d rk_X7_boundEnd 3 rfl) (by decide) ?_
  refine hq_icmp_ge 19 (pm_d rk_X7_boundEnd 4 rfl) (by decide) (fun hc => ?_) (fun hc => ?_)
  · rw [if_pos hc] at h
    refine hq_iconst (v := (0 : Int32)) (pm_d rk_X7_boundEnd 10 rfl) (by decide) ?_
    exact hq_iret (pm_d rk_X7_boundEnd 11 rfl) rfl h
  rw [if_neg hc] at h
  refine hq_aload_n (pm_d rk_X7_boundEnd 5 rfl) rfl 0 rfl ?_
  refine hq_getR (h := 23) 1 (pm_d rk_X7_boundEnd 6 rfl) fl_X7_20 rfl rfl ?_
  show hp_go _ _ _ _ _ 14 _ _ _
  refine hq_iload_n (pm_d rk_X7_boundEnd 7 rfl) rfl 1 rfl ?_
  obtain ⟨hg, h⟩ := pm_gd_i h
  refine hq_iaload (pm_d rk_X7_boundEnd 8 rfl) rfl hg ?_
  refine hq_goto 20 (pm_d rk_X7_boundEnd 9 rfl) (by decide) ?_
  exact hq_iret (pm_d rk_X7_boundEnd 11 rfl) rfl h
def f_C_X1_endNode_26 (a1 : Int32) (s : hp_S) : Option (Int32 × hp_S) :=
  pm_bd (f_C_X1_isCopy_26 a1 s) (fun x2 t1 =>
  pm_let (fun (s : hp_S) =>
    pm_bd (f_C_X7_size_16 s) (fun x4 t3 =>
    some (x4, t3))) (fun j34 =>
  if x2 = 0 then
    j34  t1
  else
    pm_gd1 (pm_ib a1 2000) (
    if (hs_A t1 27 a1.toNatClampNeg) = (-1 : Int32) then
      j34  t1
    else
      pm_gd1 (pm_ib a1 2000) (
      pm_bd (f_C_X7_boundEnd_16 (hs_A t1 27 a1.toNatClampNeg) t1) (fun x6 t5 =>
      some (x6, t5))))))
set_option maxRecDepth 100000 in
set_option maxHeartbeats 400000 in
theorem w_C_X1_endNode_26 (d : Nat) (a1 : Int32) (s s1 : hp_S) (x0 : Int32) (h : f_C_X1_endNode_26 a1 s = some (x0, s1)) : hp_is sh_C me_X1_endNode (d + 1) [.ref 26, .int a1] s (some (.int x0)) s1 := by
  refine hp_ofF [(0, .ref 26), (1, .int a1)] (by decide +kernel) (Nat.le_of_ble_eq_true rfl) rfl ?_
  unfold f_C_X1_endNode_26 at h
  refine hq_aload_n (pm_d rk_X1_endNode 0 rfl) rfl 0 rfl ?_
  refine hq_iload_n (pm_d rk_X1_endNode 1 rfl) rfl 1 rfl ?_
  obtain ⟨x2, t1, hq, h⟩ := pm_bd_i h
  have hM := w_C_X1_isCopy_26 (d := d + 0) (h := hq)
  refine hq_callVi (a := 26) (ci := 1) [.int a1] [] (pm_d rk_X1_endNode 2 rfl) ml_X1_44 iv_X1_isCopy rfl rfl rfl rfl rfl (Nat.le_of_ble_eq_true rfl) hM ?_
  refine pm_jn (P := fun j34 => ∀ (s : hp_S), j34  s = some (x0, s1) → hp_go sh_C me_X1_endNode (d + 1) (some (.int x0)) s1 34 [(0, .ref 26)] [] s) h ?_ (fun j34 hj34 h => ?_)
  · intro  s h
    dsimp only at h
    refine hq_aload_n (pm_d rk_X1_endNode 18 rfl) rfl 0 rfl ?_
    refine hq_getR (h := 16) 0 (pm_d rk_X1_endNode 19 rfl) fl_X1_31 rfl rfl ?_
    show hp_go _ _ _ _ _ 38 _ _ _
    obtain ⟨x4, t3, hq, h⟩ := pm_bd_i h
    have hM := w_C_X7_size_16 (d := d + 0) (h := hq)
    refine hq_callVi (a := 16) (ci := 7) [] [] (pm_d rk_X1_endNode 20 rfl) ml_X1_52 iv_X7_size rfl rfl rfl rfl rfl (Nat.le_of_ble_eq_true rfl) hM ?_
    exact hq_iret (pm_d rk_X1_endNode 21 rfl) rfl h
  refine hq_if_eq 34 (pm_d rk_X1_endNode 3 rfl) (by decide) (fun hc => ?_) (fun hc => ?_)
  · rw [if_pos hc] at h
    refine hq_drop [0] rfl ?_
    exact hj34  _ h
  rw [if_neg hc] at h
  refine hq_aload_n (pm_d rk_X1_endNode 4 rfl) rfl 0 rfl ?_
  refine hq_getR (h := 27) 2 (pm_d rk_X1_endNode 5 rfl) fl_X1_9 rfl rfl ?_
  refine hq_iload_n (pm_d rk_X1_endNode 6 rfl) rfl 1 rfl ?_
  show hp_go _ _ _ _ _ 13 _ _ _
  obtain ⟨hg, h⟩ := pm_gd_i h
  refine hq_iaload (pm_d rk_X1_endNode 7 rfl) rfl hg ?_
  refine hq_iconst (v := (-1 : Int32)) (pm_d rk_X1_endNode 8 rfl) (by decide) ?_
  refine hq_icmp_eq 34 (pm_d rk_X1_endNode 9 rfl) (by decide) (fun hc => ?_) (fun hc => ?_)
  · rw [if_pos hc] at h
    refine hq_drop [0] rfl ?_
    exact hj34  _ h
  rw [if_neg hc] at h
  refine hq_aload_n (pm_d rk_X1_endNode 10 rfl) rfl 0 rfl ?_
  refine hq_getR (h := 16) 0 (pm_d rk_X1_endNode 11 rfl) fl_X1_31 rfl rfl ?_
  refine hq_aload_n (pm_d rk_X1_endNode 12 rfl) rfl 0 rfl ?_
  show hp_go _ _ _ _ _ 23 _ _ _
  refine hq_getR (h := 27) 2 (pm_d rk_X1_endNode 13 rfl) fl_X1_9 rfl rfl ?_
  refine hq_iload_n (pm_d rk_X1_endNode 14 rfl) rfl 1 rfl ?_
  obtain ⟨hg, h⟩ := pm_gd_i h
  refine hq_iaload (pm_d rk_X1_endNode 15 rfl) rfl hg ?_
  obtain ⟨x6, t5, hq, h⟩ := pm_bd_i h
  have hM := w_C_X7_boundEnd_16 (d := d + 0) (h := hq)
  refine hq_callVi (a := 16) (ci := 7) [.int (hs_A t1 27 a1.toNatClampNeg)] [] (pm_d rk_X1_endNode 16 rfl) ml_X1_48 iv_X7_boundEnd rfl rfl rfl rfl rfl (Nat.le_of_ble_eq_true rfl) hM ?_
  refine hq_goto 41 (pm_d rk_X1_endNode 17 rfl) (by decide) ?_
  exact hq_iret (pm_d rk_X1_endNode 21 rfl) rfl h
def f_C_X7_slot_16 (a1 : Int32) (s : hp_S) : Option (Int32 × hp_S) :=
  if a1 < 0 then
    some ((0 : Int32), s)
  else
    if (100 : Int32) < a1 then
      some ((0 : Int32), s)
    else
      pm_gd1 (pm_ib a1 101) (
      some ((hs_A s 24 a1.toNatClampNeg), s))
set_option maxRecDepth 100000 in
set_option maxHeartbeats 400000 in
theorem w_C_X7_slot_16 (d : Nat) (a1 : Int32) (s s1 : hp_S) (x0 : Int32) (h : f_C_X7_slot_16 a1 s = some (x0, s1)) : hp_is sh_C me_X7_slot (d + 0) [.ref 16, .int a1] s (some (.int x0)) s1 := by
  refine hp_ofF [(0, .ref 16), (1, .int a1)] (by decide +kernel) (Nat.le_of_ble_eq_true rfl) rfl ?_
  unfold f_C_X7_slot_16 at h
  refine hq_iload_n (pm_d rk_X7_slot 0 rfl) rfl 1 rfl ?_
  refine hq_if_lt 19 (pm_d rk_X7_slot 1 rfl) (by decide) (fun hc => ?_) (fun hc => ?_)
  · rw [if_pos hc] at h
    refine hq_iconst (v := (0 : Int32)) (pm_d rk_X7_slot 10 rfl) (by decide) ?_
    exact hq_iret (pm_d rk_X7_slot 11 rfl) rfl h
  rw [if_neg hc] at h
  refine hq_iload_n (pm_d rk_X7_slot 2 rfl) rfl 1 rfl ?_
  show hp_go _ _ _ _ _ 5 _ _ _
  refine hq_bipush (v := (100 : Int32)) (pm_d rk_X7_slot 3 rfl) (by decide) ?_
  refine hq_icmp_gt 19 (pm_d rk_X7_slot 4 rfl) (by decide) (fun hc => ?_) (fun hc => ?_)
  · rw [if_pos hc] at h
    refine hq_iconst (v := (0 : Int32)) (pm_d rk_X7_slot 10 rfl) (by decide) ?_
    exact hq_iret (pm_d rk_X7_slot 11 rfl) rfl h
  rw [if_neg hc] at h
  refine hq_aload_n (pm_d rk_X7_slot 5 rfl) rfl 0 rfl ?_
  refine hq_getR (h := 24) 2 (pm_d rk_X7_slot 6 rfl) fl_X7_24 rfl rfl ?_
  show hp_go _ _ _ _ _ 14 _ _ _
  refine hq_iload_n (pm_d rk_X7_slot 7 rfl) rfl 1 rfl ?_
  obtain ⟨hg, h⟩ := pm_gd_i h
  refine hq_iaload (pm_d rk_X7_slot 8 rfl) rfl hg ?_
  refine hq_goto 20 (pm_d rk_X7_slot 9 rfl) (by decide) ?_
  exact hq_iret (pm_d rk_X7_slot 11 rfl) rfl h
def f_C_X1_firstNode_26 (a1 : Int32) (s : hp_S) : Option (Int32 × hp_S) :=
  pm_bd (f_C_X1_isCopy_26 a1 s) (fun x2 t1 =>
  if x2 = 0 then
    some ((0 : Int32), t1)
  else
    pm_gd1 (pm_ib a1 2000) (
    some (((hs_A t1 27 a1.toNatClampNeg) + (1 : Int32)), t1)))
set_option maxRecDepth 100000 in
set_option maxHeartbeats 400000 in
theorem w_C_X1_firstNode_26 (d : Nat) (a1 : Int32) (s s1 : hp_S) (x0 : Int32) (h : f_C_X1_firstNode_26 a1 s = some (x0, s1)) : hp_is sh_C me_X1_firstNode (d + 1) [.ref 26, .int a1] s (some (.int x0)) s1 := by
  refine hp_ofF [(0, .ref 26), (1, .int a1)] (by decide +kernel) (Nat.le_of_ble_eq_true rfl) rfl ?_
  unfold f_C_X1_firstNode_26 at h
  refine hq_aload_n (pm_d rk_X1_firstNode 0 rfl) rfl 0 rfl ?_
  refine hq_iload_n (pm_d rk_X1_firstNode 1 rfl) rfl 1 rfl ?_
  obtain ⟨x2, t1, hq, h⟩ := pm_bd_i h
  have hM := w_C_X1_isCopy_26 (d := d + 0) (h := hq)
  refine hq_callVi (a := 26) (ci := 1) [.int a1] [] (pm_d rk_X1_firstNode 2 rfl) ml_X1_44 iv_X1_isCopy rfl rfl rfl rfl rfl (Nat.le_of_ble_eq_true rfl) hM ?_
  refine hq_if_eq 19 (pm_d rk_X1_firstNode 3 rfl) (by decide) (fun hc => ?_) (fun hc => ?_)
  · rw [if_pos hc] at h
    refine hq_iconst (v := (0 : Int32)) (pm_d rk_X1_firstNode 11 rfl) (by decide) ?_
    show hp_go _ _ _ _ _ 20 _ _ _
    exact hq_iret (pm_d rk_X1_firstNode 12 rfl) rfl h
  rw [if_neg hc] at h
  refine hq_aload_n (pm_d rk_X1_firstNode 4 rfl) rfl 0 rfl ?_
  refine hq_getR (h := 27) 2 (pm_d rk_X1_firstNode 5 rfl) fl_X1_9 rfl rfl ?_
  refine hq_iload_n (pm_d rk_X1_firstNode 6 rfl) rfl 1 rfl ?_
  obtain ⟨hg, h⟩ := pm_gd_i h
  refine hq_iaload (pm_d rk_X1_firstNode 7 rfl) rfl hg ?_
  refine hq_iconst (v := (1 : Int32)) (pm_d rk_X1_firstNode 8 rfl) (by decide) ?_
  show hp_go _ _ _ _ _ 15 _ _ _
  refine hq_iadd (pm_d rk_X1_firstNode 9 rfl) ?_
  refine hq_goto 20 (pm_d rk_X1_firstNode 10 rfl) (by decide) ?_
  exact hq_iret (pm_d rk_X1_firstNode 12 rfl) rfl h
def f_C_X1_add_26 (a1 : Int32) (a2 : Int32) (s : hp_S) : Option (Int32 × hp_S) :=
  if (hs_I s 26 6) < (2000 : Int32) then
    pm_gd1 (pm_ib (hs_I s 26 6) 2000) (
    pm_let (hs_pA s 27 (hs_I s 26 6).toNatClampNeg a1) (fun t1 =>
    pm_gd1 (pm_ib (hs_I t1 26 6) 2000) (
    pm_let (hs_pA t1 28 (hs_I t1 26 6).toNatClampNeg (hs_I t1 26 7)) (fun t2 =>
    pm_gd1 (pm_ib (hs_I t2 26 6) 2000) (
    pm_let (hs_pA t2 29 (hs_I t2 26 6).toNatClampNeg a2) (fun t3 =>
    pm_let (hs_pI t3 26 6 ((hs_I t3 26 6) + (1 : Int32))) (fun t4 =>
    pm_bd (f_C_X1_endNode_26 ((hs_I t4 26 6) - (1 : Int32)) t4) (fun x6 t5 =>
    pm_bd (f_C_X7_slot_16 x6 t5) (fun x8 t7 =>
    pm_bd (f_C_X1_firstNode_26 ((hs_I t7 26 6) - (1 : Int32)) t7) (fun x10 t9 =>
    pm_bd (f_C_X7_slot_16 x10 t9) (fun x12 t11 =>
    pm_let (hs_pI t11 26 7 ((hs_I t4 26 7) + (x8 - x12))) (fun t13 =>
    if (2000 : Int32) < (hs_I t13 26 7) then
      some ((0 : Int32), t13)
    else
      some ((1 : Int32), t13)))))))))))))
  else
    some ((0 : Int32), s)
set_option maxRecDepth 100000 in
set_option maxHeartbeats 400000 in
theorem w_C_X1_add_26 (d : Nat) (a1 : Int32) (a2 : Int32) (s s1 : hp_S) (x0 : Int32) (h : f_C_X1_add_26 a1 a2 s = some (x0, s1)) : hp_is sh_C me_X1_add (d + 2) [.ref 26, .int a1, .int a2] s (some (.int x0)) s1 := by
  refine hp_ofF [(0, .ref 26), (1, .int a1), (2, .int a2)] (by decide +kernel) (Nat.le_of_ble_eq_true rfl) rfl ?_
  unfold f_C_X1_add_26 at h
  refine hq_aload_n (pm_d rk_X1_add 0 rfl) rfl 0 rfl ?_
  refine hq_getI 6 (pm_d rk_X1_add 1 rfl) fl_X1_24 rfl rfl ?_
  refine hq_sipush (v := (2000 : Int32)) (pm_d rk_X1_add 2 rfl) (by decide) ?_
  refine hq_icmp_lt 12 (pm_d rk_X1_add 3 rfl) (by decide) (fun hc => ?_) (fun hc => ?_)
  · rw [if_pos hc] at h
    refine hq_aload_n (pm_d rk_X1_add 6 rfl) rfl 0 rfl ?_
    show hp_go _ _ _ _ _ 13 _ _ _
    refine hq_getR (h := 27) 2 (pm_d rk_X1_add 7 rfl) fl_X1_9 rfl rfl ?_
    refine hq_aload_n (pm_d rk_X1_add 8 rfl) rfl 0 rfl ?_
    refine hq_getI 6 (pm_d rk_X1_add 9 rfl) fl_X1_24 rfl rfl ?_
    refine hq_iload_n (pm_d rk_X1_add 10 rfl) rfl 1 rfl ?_
    obtain ⟨hg, h⟩ := pm_gd_i h
    refine hq_iastore (pm_d rk_X1_add 11 rfl) rfl hg ?_
    refine pm_nm (G := fun t1 => hp_go sh_C me_X1_add (d + 2) (some (.int x0)) s1 22 [(0, .ref 26), (1, .int a1), (2, .int a2)] [] t1) h (fun t1 h => ?_)
    refine hq_aload_n (pm_d rk_X1_add 12 rfl) rfl 0 rfl ?_
    show hp_go _ _ _ _ _ 23 _ _ _
    refine hq_getR (h := 28) 3 (pm_d rk_X1_add 13 rfl) fl_X1_15 rfl rfl ?_
    refine hq_aload_n (pm_d rk_X1_add 14 rfl) rfl 0 rfl ?_
    refine hq_getI 6 (pm_d rk_X1_add 15 rfl) fl_X1_24 rfl rfl ?_
    refine hq_aload_n (pm_d rk_X1_add 16 rfl) rfl 0 rfl ?_
    refine hq_getI 7 (pm_d rk_X1_add 17 rfl) fl_X1_28 rfl rfl ?_
    obtain ⟨hg, h⟩ := pm_gd_i h
    refine hq_iastore (pm_d rk_X1_add 18 rfl) rfl hg ?_
    refine pm_nm (G := fun t2 => hp_go sh_C me_X1_add (d + 2) (some (.int x0)) s1 35 [(0, .ref 26), (1, .int a1), (2, .int a2)] [] t2) h (fun t2 h => ?_)
    show hp_go _ _ _ _ _ 35 _ _ _
    refine hq_aload_n (pm_d rk_X1_add 19 rfl) rfl 0 rfl ?_
    refine hq_getR (h := 29) 4 (pm_d rk_X1_add 20 rfl) fl_X1_18 rfl rfl ?_
    refine hq_aload_n (pm_d rk_X1_add 21 rfl) rfl 0 rfl ?_
    refine hq_getI 6 (pm_d rk_X1_add 22 rfl) fl_X1_24 rfl rfl ?_
    refine hq_iload_n (pm_d rk_X1_add 23 rfl) rfl 2 rfl ?_
    obtain ⟨hg, h⟩ := pm_gd_i h
    refine hq_iastore (pm_d rk_X1_add 24 rfl) rfl hg ?_
    refine pm_nm (G := fun t3 => hp_go sh_C me_X1_add (d + 2) (some (.int x0)) s1 45 [(0, .ref 26), (1, .int a1), (2, .int a2)] [] t3) h (fun t3 h => ?_)
    show hp_go _ _ _ _ _ 45 _ _ _
    refine hq_aload_n (pm_d rk_X1_add 25 rfl) rfl 0 rfl ?_
    refine hq_dup (pm_d rk_X1_add 26 rfl) rfl ?_
    refine hq_getI 6 (pm_d rk_X1_add 27 rfl) fl_X1_24 rfl rfl ?_
    refine hq_iconst (v := (1 : Int32)) (pm_d rk_X1_add 28 rfl) (by decide) ?_
    refine hq_iadd (pm_d rk_X1_add 29 rfl) ?_
    refine hq_putI 6 (pm_d rk_X1_add 30 rfl) fl_X1_24 rfl rfl ?_
    refine pm_nm (G := fun t4 => hp_go sh_C me_X1_add (d + 2) (some (.int x0)) s1 55 [(0, .ref 26), (1, .int a1), (2, .int a2)] [] t4) h (fun t4 h => ?_)
    show hp_go _ _ _ _ _ 55 _ _ _
    refine hq_aload_n (pm_d rk_X1_add 31 rfl) rfl 0 rfl ?_
    refine hq_dup (pm_d rk_X1_add 32 rfl) rfl ?_
    refine hq_getI 7 (pm_d rk_X1_add 33 rfl) fl_X1_28 rfl rfl ?_
    refine hq_aload_n (pm_d rk_X1_add 34 rfl) rfl 0 rfl ?_
    refine hq_getR (h := 16) 0 (pm_d rk_X1_add 35 rfl) fl_X1_31 rfl rfl ?_
    refine hq_aload_n (pm_d rk_X1_add 36 rfl) rfl 0 rfl ?_
    show hp_go _ _ _ _ _ 65 _ _ _
    refine hq_aload_n (pm_d rk_X1_add 37 rfl) rfl 0 rfl ?_
    refine hq_getI 6 (pm_d rk_X1_add 38 rfl) fl_X1_24 rfl rfl ?_
    refine hq_iconst (v := (1 : Int32)) (pm_d rk_X1_add 39 rfl) (by decide) ?_
    refine hq_isub (pm_d rk_X1_add 40 rfl) ?_
    obtain ⟨x6, t5, hq, h⟩ := pm_bd_i h
    have hM := w_C_X1_endNode_26 (d := d + 0) (h := hq)
    refine hq_callVi (a := 26) (ci := 1) [.int ((hs_I t4 26 6) - (1 : Int32))] [.ref 16, .int (hs_I t4 26 7), .ref 26] (pm_d rk_X1_add 41 rfl) ml_X1_65 iv_X1_endNode rfl rfl rfl rfl rfl (Nat.le_of_ble_eq_true rfl) hM ?_
    obtain ⟨x8, t7, hq, h⟩ := pm_bd_i h
    have hM := w_C_X7_slot_16 (d := d + 1) (h := hq)
    refine hq_callVi (a := 16) (ci := 7) [.int x6] [.int (hs_I t4 26 7), .ref 26] (pm_d rk_X1_add 42 rfl) ml_X1_55 iv_X7_slot rfl rfl rfl rfl rfl (Nat.le_of_ble_eq_true rfl) hM ?_
    show hp_go _ _ _ _ _ 77 _ _ _
    refine hq_aload_n (pm_d rk_X1_add 43 rfl) rfl 0 rfl ?_
    refine hq_getR (h := 16) 0 (pm_d rk_X1_add 44 rfl) fl_X1_31 rfl rfl ?_
    refine hq_aload_n (pm_d rk_X1_add 45 rfl) rfl 0 rfl ?_
    refine hq_aload_n (pm_d rk_X1_add 46 rfl) rfl 0 rfl ?_
    refine hq_getI 6 (pm_d rk_X1_add 47 rfl) fl_X1_24 rfl rfl ?_
    refine hq_iconst (v := (1 : Int32)) (pm_d rk_X1_add 48 rfl) (by decide) ?_
    show hp_go _ _ _ _ _ 87 _ _ _
    refine hq_isub (pm_d rk_X1_add 49 rfl) ?_
    obtain ⟨x10, t9, hq, h⟩ := pm_bd_i h
    have hM := w_C_X1_firstNode_26 (d := d + 0) (h := hq)
    refine hq_callVi (a := 26) (ci := 1) [.int ((hs_I t7 26 6) - (1 : Int32))] [.ref 16, .int x8, .int (hs_I t4 26 7), .ref 26] (pm_d rk_X1_add 50 rfl) ml_X1_58 iv_X1_firstNode rfl rfl rfl rfl rfl (Nat.le_of_ble_eq_true rfl) hM ?_
    obtain ⟨x12, t11, hq, h⟩ := pm_bd_i h
    have hM := w_C_X7_slot_16 (d := d + 1) (h := hq)
    refine hq_callVi (a := 16) (ci := 7) [.int x10] [.int x8, .int (hs_I t4 26 7), .ref 26] (pm_d rk_X1_add 51 rfl) ml_X1_55 iv_X7_slot rfl rfl rfl rfl rfl (Nat.le_of_ble_eq_true rfl) hM ?_
    refine hq_isub (pm_d rk_X1_add 52 rfl) ?_
    refine hq_iadd (pm_d rk_X1_add 53 rfl) ?_
    refine hq_putI 7 (pm_d rk_X1_add 54 rfl) fl_X1_28 rfl rfl ?_
    refine pm_nm (G := fun t13 => hp_go sh_C me_X1_add (d + 2) (some (.int x0)) s1 99 [(0, .ref 26), (1, .int a1), (2, .int a2)] [] t13) h (fun t13 h => ?_)
    show hp_go _ _ _ _ _ 99 _ _ _
    refine hq_aload_n (pm_d rk_X1_add 55 rfl) rfl 0 rfl ?_
    refine hq_getI 7 (pm_d rk_X1_add 56 rfl) fl_X1_28 rfl rfl ?_
    refine hq_sipush (v := (2000 : Int32)) (pm_d rk_X1_add 57 rfl) (by decide) ?_
    refine hq_icmp_gt 113 (pm_d rk_X1_add 58 rfl) (by decide) (fun hc => ?_) (fun hc => ?_)
    · rw [if_pos hc] at h
      refine hq_iconst (v := (0 : Int32)) (pm_d rk_X1_add 61 rfl) (by decide) ?_
      exact hq_zret (pm_d rk_X1_add 62 rfl) rfl rfl h
    rw [if_neg hc] at h
    show hp_go _ _ _ _ _ 109 _ _ _
    refine hq_iconst (v := (1 : Int32)) (pm_d rk_X1_add 59 rfl) (by decide) ?_
    refine hq_goto 114 (pm_d rk_X1_add 60 rfl) (by decide) ?_
    exact hq_zret (pm_d rk_X1_add 62 rfl) rfl rfl h
  rw [if_neg hc] at h
  refine hq_iconst (v := (0 : Int32)) (pm_d rk_X1_add 4 rfl) (by decide) ?_
  exact hq_zret (pm_d rk_X1_add 5 rfl) rfl rfl h
def f_C_X2_meaning_17 (a1 : Int32) (s : hp_S) : Option (Int32 × hp_S) :=
  pm_bd (f_C_X2_holds_17 a1 s) (fun x2 t1 =>
  if x2 = 0 then
    some ((-1 : Int32), t1)
  else
    pm_gd1 (pm_ib a1 100) (
    some ((hs_A t1 22 a1.toNatClampNeg), t1)))
set_option maxRecDepth 100000 in
set_option maxHeartbeats 400000 in
theorem w_C_X2_meaning_17 (d : Nat) (a1 : Int32) (s s1 : hp_S) (x0 : Int32) (h : f_C_X2_meaning_17 a1 s = some (x0, s1)) : hp_is sh_C me_X2_meaning (d + 1) [.ref 17, .int a1] s (some (.int x0)) s1 := by
  refine hp_ofF [(0, .ref 17), (1, .int a1)] (by decide +kernel) (Nat.le_of_ble_eq_true rfl) rfl ?_
  unfold f_C_X2_meaning_17 at h
  refine hq_aload_n (pm_d rk_X2_meaning 0 rfl) rfl 0 rfl ?_
  refine hq_iload_n (pm_d rk_X2_meaning 1 rfl) rfl 1 rfl ?_
  obtain ⟨x2, t1, hq, h⟩ := pm_bd_i h
  have hM := w_C_X2_holds_17 (d := d + 0) (h := hq)
  refine hq_callVi (a := 17) (ci := 2) [.int a1] [] (pm_d rk_X2_meaning 2 rfl) ml_X2_33 iv_X2_holds rfl rfl rfl rfl rfl (Nat.le_of_ble_eq_true rfl) hM ?_
  refine hq_if_eq 17 (pm_d rk_X2_meaning 3 rfl) (by decide) (fun hc => ?_) (fun hc => ?_)
  · rw [if_pos hc] at h
    refine hq_iconst (v := (-1 : Int32)) (pm_d rk_X2_meaning 9 rfl) (by decide) ?_
    show hp_go _ _ _ _ _ 18 _ _ _
    exact hq_iret (pm_d rk_X2_meaning 10 rfl) rfl h
  rw [if_neg hc] at h
  refine hq_aload_n (pm_d rk_X2_meaning 4 rfl) rfl 0 rfl ?_
  refine hq_getR (h := 22) 4 (pm_d rk_X2_meaning 5 rfl) fl_X2_30 rfl rfl ?_
  refine hq_iload_n (pm_d rk_X2_meaning 6 rfl) rfl 1 rfl ?_
  obtain ⟨hg, h⟩ := pm_gd_i h
  refine hq_iaload (pm_d rk_X2_meaning 7 rfl) rfl hg ?_
  refine hq_goto 18 (pm_d rk_X2_meaning 8 rfl) (by decide) ?_
  show hp_go _ _ _ _ _ 18 _ _ _
  exact hq_iret (pm_d rk_X2_meaning 10 rfl) rfl h
def f_C_X1_holds_26 (a1 : Int32) (a2 : Int32) (s : hp_S) : Option (Int32 × hp_S) :=
  pm_bd (f_C_X1_firstNode_26 a1 s) (fun x2 t1 =>
  if a2 < x2 then
    some ((0 : Int32), t1)
  else
    pm_bd (f_C_X1_endNode_26 a1 t1) (fun x4 t3 =>
    if x4 ≤ a2 then
      some ((0 : Int32), t3)
    else
      some ((1 : Int32), t3)))
set_option maxRecDepth 100000 in
set_option maxHeartbeats 400000 in
theorem w_C_X1_holds_26 (d : Nat) (a1 : Int32) (a2 : Int32) (s s1 : hp_S) (x0 : Int32) (h : f_C_X1_holds_26 a1 a2 s = some (x0, s1)) : hp_is sh_C me_X1_holds (d + 2) [.ref 26, .int a1, .int a2] s (some (.int x0)) s1 := by
  refine hp_ofF [(0, .ref 26), (1, .int a1), (2, .int a2)] (by decide +kernel) (Nat.le_of_ble_eq_true rfl) rfl ?_
  unfold f_C_X1_holds_26 at h
  refine hq_iload_n (pm_d rk_X1_holds 0 rfl) rfl 2 rfl ?_
  refine hq_aload_n (pm_d rk_X1_holds 1 rfl) rfl 0 rfl ?_
  refine hq_iload_n (pm_d rk_X1_holds 2 rfl) rfl 1 rfl ?_
  obtain ⟨x2, t1, hq, h⟩ := pm_bd_i h
  have hM := w_C_X1_firstNode_26 (d := d + 0) (h := hq)
  refine hq_callVi (a := 26) (ci := 1) [.int a1] [.int a2] (pm_d rk_X1_holds 3 rfl) ml_X1_58 iv_X1_firstNode rfl rfl rfl rfl rfl (Nat.le_of_ble_eq_true rfl) hM ?_
  refine hq_icmp_lt 22 (pm_d rk_X1_holds 4 rfl) (by decide) (fun hc => ?_) (fun hc => ?_)
  · rw [if_pos hc] at h
    show hp_go _ _ _ _ _ 22 _ _ _
    refine hq_iconst (v := (0 : Int32)) (pm_d rk_X1_holds 12 rfl) (by decide) ?_
    exact hq_zret (pm_d rk_X1_holds 13 rfl) rfl rfl h
  rw [if_neg hc] at h
  refine hq_iload_n (pm_d rk_X1_holds 5 rfl) rfl 2 rfl ?_
  refine hq_aload_n (pm_d rk_X1_holds 6 rfl) rfl 0 rfl ?_
  refine hq_iload_n (pm_d rk_X1_holds 7 rfl) rfl 1 rfl ?_
  obtain ⟨x4, t3, hq, h⟩ := pm_bd_i h
  have hM := w_C_X1_endNode_26 (d := d + 0) (h := hq)
  refine hq_callVi (a := 26) (ci := 1) [.int a1] [.int a2] (pm_d rk_X1_holds 8 rfl) ml_X1_65 iv_X1_endNode rfl rfl rfl rfl rfl (Nat.le_of_ble_eq_true rfl) hM ?_
  show hp_go _ _ _ _ _ 15 _ _ _
  refine hq_icmp_ge 22 (pm_d rk_X1_holds 9 rfl) (by decide) (fun hc => ?_) (fun hc => ?_)
  · rw [if_pos hc] at h
    refine hq_iconst (v := (0 : Int32)) (pm_d rk_X1_holds 12 rfl) (by decide) ?_
    exact hq_zret (pm_d rk_X1_holds 13 rfl) rfl rfl h
  rw [if_neg hc] at h
  refine hq_iconst (v := (1 : Int32)) (pm_d rk_X1_holds 10 rfl) (by decide) ?_
  refine hq_goto 23 (pm_d rk_X1_holds 11 rfl) (by decide) ?_
  exact hq_zret (pm_d rk_X1_holds 13 rfl) rfl rfl h
def l_C_X1_homeOf_26_5 : Nat → Int32 → Int32 → Int32 → hp_S → Option (Int32 × hp_S)
  | 0, _, _, _, _ => none
  | n + 1, y1, y3, y4, s =>
    if (2000 : Int32) ≤ y4 then
      some (y3, s)
    else
      pm_bd (f_C_X1_isCopy_26 y3 s) (fun x2 t1 =>
      if x2 = 0 then
        some (y3, t1)
      else
        pm_bd (f_C_X1_holds_26 y3 y1 t1) (fun x4 t3 =>
        if x4 = 0 then
          pm_gd1 (pm_ib y3 2000) (
          pm_let (hs_A t3 29 y3.toNatClampNeg) (fun x5 =>
          pm_let (y4 + (1 : Int32)) (fun x6 =>
          l_C_X1_homeOf_26_5 n y1 x5 x6 t3)))
        else
          some (y3, t3)))
set_option maxRecDepth 100000 in
set_option maxHeartbeats 400000 in
theorem wl_C_X1_homeOf_26_5 (d : Nat) (s1 : hp_S) (x0 : Int32)  : ∀ (n : Nat) (y1 : Int32) (y3 : Int32) (y4 : Int32) (s : hp_S), l_C_X1_homeOf_26_5 n y1 y3 y4 s = some (x0, s1) → hp_go sh_C me_X1_homeOf (d + 3) (some (.int x0)) s1 5 [(0, .ref 26), (1, .int y1), (3, .int y3), (4, .int y4)] [] s := by
  intro n
  induction n with
  | zero =>
    intro y1 y3 y4 s h
    cases h
  | succ n ih =>
    intro y1 y3 y4 s h
    rw [l_C_X1_homeOf_26_5.eq_2] at h
    refine hq_iload (pm_d rk_X1_homeOf 4 rfl) 3 rfl ?_
    show hp_go _ _ _ _ _ 7 _ _ _
    refine hq_sipush (v := (2000 : Int32)) (pm_d rk_X1_homeOf 5 rfl) (by decide) ?_
    refine hq_icmp_ge 43 (pm_d rk_X1_homeOf 6 rfl) (by decide) (fun hc => ?_) (fun hc => ?_)
    · rw [if_pos hc] at h
      refine hq_iload_n (pm_d rk_X1_homeOf 23 rfl) rfl 2 rfl ?_
      exact hq_iret (pm_d rk_X1_homeOf 24 rfl) rfl h
    rw [if_neg hc] at h
    refine hq_aload_n (pm_d rk_X1_homeOf 7 rfl) rfl 0 rfl ?_
    refine hq_iload_n (pm_d rk_X1_homeOf 8 rfl) rfl 2 rfl ?_
    show hp_go _ _ _ _ _ 15 _ _ _
    obtain ⟨x2, t1, hq, h⟩ := pm_bd_i h
    have hM := w_C_X1_isCopy_26 (d := d + 2) (h := hq)
    refine hq_callVi (a := 26) (ci := 1) [.int y3] [] (pm_d rk_X1_homeOf 9 rfl) ml_X1_44 iv_X1_isCopy rfl rfl rfl rfl rfl (Nat.le_of_ble_eq_true rfl) hM ?_
    refine hq_if_eq 43 (pm_d rk_X1_homeOf 10 rfl) (by decide) (fun hc => ?_) (fun hc => ?_)
    · rw [if_pos hc] at h
      refine hq_iload_n (pm_d rk_X1_homeOf 23 rfl) rfl 2 rfl ?_
      exact hq_iret (pm_d rk_X1_homeOf 24 rfl) rfl h
    rw [if_neg hc] at h
    refine hq_aload_n (pm_d rk_X1_homeOf 11 rfl) rfl 0 rfl ?_
    refine hq_iload_n (pm_d rk_X1_homeOf 12 rfl) rfl 2 rfl ?_
    show hp_go _ _ _ _ _ 23 _ _ _
    refine hq_iload_n (pm_d rk_X1_homeOf 13 rfl) rfl 1 rfl ?_
    obtain ⟨x4, t3, hq, h⟩ := pm_bd_i h
    have hM := w_C_X1_holds_26 (d := d + 0) (h := hq)
    refine hq_callVi (a := 26) (ci := 1) [.int y3, .int y1] [] (pm_d rk_X1_homeOf 14 rfl) ml_X1_89 iv_X1_holds rfl rfl rfl rfl rfl (Nat.le_of_ble_eq_true rfl) hM ?_
    refine hq_if_ne 43 (pm_d rk_X1_homeOf 15 rfl) (by decide) (fun hc => ?_) (fun hc => ?_)
    · rw [if_neg hc] at h
      refine hq_iload_n (pm_d rk_X1_homeOf 23 rfl) rfl 2 rfl ?_
      exact hq_iret (pm_d rk_X1_homeOf 24 rfl) rfl h
    rw [if_pos hc] at h
    refine hq_aload_n (pm_d rk_X1_homeOf 16 rfl) rfl 0 rfl ?_
    show hp_go _ _ _ _ _ 31 _ _ _
    refine hq_getR (h := 29) 4 (pm_d rk_X1_homeOf 17 rfl) fl_X1_18 rfl rfl ?_
    refine hq_iload_n (pm_d rk_X1_homeOf 18 rfl) rfl 2 rfl ?_
    obtain ⟨hg, h⟩ := pm_gd_i h
    refine hq_iaload (pm_d rk_X1_homeOf 19 rfl) rfl hg ?_
    refine pm_nm (G := fun x5 => hp_go sh_C me_X1_homeOf (d + 3) (some (.int x0)) s1 36 [(0, .ref 26), (1, .int y1), (3, .int y3), (4, .int y4)] [.int x5] t3) h (fun x5 h => ?_)
    refine hq_istore_n (L1 := [(3, .int x5), (0, .ref 26), (1, .int y1), (4, .int y4)]) (pm_d rk_X1_homeOf 20 rfl) rfl (by decide) rfl ?_
    refine hq_iinc (v := y4 + (1 : Int32)) (L1 := [(4, .int (y4 + (1 : Int32))), (3, .int x5), (0, .ref 26), (1, .int y1)]) (pm_d rk_X1_homeOf 21 rfl) 3 rfl (by rw [show Int32.ofInt (1) = (1 : Int32) by decide]) (by decide) rfl ?_
    refine pm_nm (G := fun x6 => hp_go sh_C me_X1_homeOf (d + 3) (some (.int x0)) s1 40 [(4, .int x6), (3, .int x5), (0, .ref 26), (1, .int y1)] [] t3) h (fun x6 h => ?_)
    refine hq_goto 5 (pm_d rk_X1_homeOf 22 rfl) (by decide) ?_
    refine hq_drop [2, 3, 1, 0] rfl ?_
    exact ih _ _ _ _ h
def f_C_X1_homeOf_26 (n : Nat) (a1 : Int32) (a2 : Int32) (s : hp_S) : Option (Int32 × hp_S) :=
  l_C_X1_homeOf_26_5 n a1 a2 (0 : Int32) s
set_option maxRecDepth 100000 in
set_option maxHeartbeats 400000 in
theorem w_C_X1_homeOf_26 (d : Nat) (n : Nat) (a1 : Int32) (a2 : Int32) (s s1 : hp_S) (x0 : Int32) (h : f_C_X1_homeOf_26 n a1 a2 s = some (x0, s1)) : hp_is sh_C me_X1_homeOf (d + 3) [.ref 26, .int a1, .int a2] s (some (.int x0)) s1 := by
  refine hp_ofF [(0, .ref 26), (1, .int a1), (2, .int a2)] (by decide +kernel) (Nat.le_of_ble_eq_true rfl) rfl ?_
  unfold f_C_X1_homeOf_26 at h
  refine hq_iload_n (pm_d rk_X1_homeOf 0 rfl) rfl 2 rfl ?_
  refine hq_istore_n (L1 := [(3, .int a2), (0, .ref 26), (1, .int a1), (2, .int a2)]) (pm_d rk_X1_homeOf 1 rfl) rfl (by decide) rfl ?_
  refine hq_iconst (v := (0 : Int32)) (pm_d rk_X1_homeOf 2 rfl) (by decide) ?_
  refine hq_istore (L1 := [(4, .int (0 : Int32)), (3, .int a2), (0, .ref 26), (1, .int a1), (2, .int a2)]) (pm_d rk_X1_homeOf 3 rfl) (by decide) rfl ?_
  refine hq_drop [2, 3, 1, 0] rfl ?_
  exact wl_C_X1_homeOf_26_5 d _ _   _ _ _ _ _ h
def f_C_X1_variable_26 (a1 : Int32) (a2 : Int32) (s : hp_S) : Option (Int32 × hp_S) :=
  pm_bd (f_C_X1_isCopy_26 a1 s) (fun x2 t1 =>
  if x2 = 0 then
    some ((-1 : Int32), t1)
  else
    pm_gd1 (pm_ib a1 2000) (
    pm_bd (f_C_X7_slot_16 a2 t1) (fun x4 t3 =>
    pm_bd (f_C_X1_firstNode_26 a1 t3) (fun x6 t5 =>
    pm_bd (f_C_X7_slot_16 x6 t5) (fun x8 t7 =>
    some ((((hs_A t1 28 a1.toNatClampNeg) + x4) - x8), t7))))))
set_option maxRecDepth 100000 in
set_option maxHeartbeats 400000 in
theorem w_C_X1_variable_26 (d : Nat) (a1 : Int32) (a2 : Int32) (s s1 : hp_S) (x0 : Int32) (h : f_C_X1_variable_26 a1 a2 s = some (x0, s1)) : hp_is sh_C me_X1_variable (d + 2) [.ref 26, .int a1, .int a2] s (some (.int x0)) s1 := by
  refine hp_ofF [(0, .ref 26), (1, .int a1), (2, .int a2)] (by decide +kernel) (Nat.le_of_ble_eq_true rfl) rfl ?_
  unfold f_C_X1_variable_26 at h
  refine hq_aload_n (pm_d rk_X1_variable 0 rfl) rfl 0 rfl ?_
  refine hq_iload_n (pm_d rk_X1_variable 1 rfl) rfl 1 rfl ?_
  obtain ⟨x2, t1, hq, h⟩ := pm_bd_i h
  have hM := w_C_X1_isCopy_26 (d := d + 1) (h := hq)
  refine hq_callVi (a := 26) (ci := 1) [.int a1] [] (pm_d rk_X1_variable 2 rfl) ml_X1_44 iv_X1_isCopy rfl rfl rfl rfl rfl (Nat.le_of_ble_eq_true rfl) hM ?_
  refine hq_if_eq 39 (pm_d rk_X1_variable 3 rfl) (by decide) (fun hc => ?_) (fun hc => ?_)
  · rw [if_pos hc] at h
    refine hq_iconst (v := (-1 : Int32)) (pm_d rk_X1_variable 21 rfl) (by decide) ?_
    show hp_go _ _ _ _ _ 40 _ _ _
    exact hq_iret (pm_d rk_X1_variable 22 rfl) rfl h
  rw [if_neg hc] at h
  refine hq_aload_n (pm_d rk_X1_variable 4 rfl) rfl 0 rfl ?_
  refine hq_getR (h := 28) 3 (pm_d rk_X1_variable 5 rfl) fl_X1_15 rfl rfl ?_
  refine hq_iload_n (pm_d rk_X1_variable 6 rfl) rfl 1 rfl ?_
  obtain ⟨hg, h⟩ := pm_gd_i h
  refine hq_iaload (pm_d rk_X1_variable 7 rfl) rfl hg ?_
  refine hq_aload_n (pm_d rk_X1_variable 8 rfl) rfl 0 rfl ?_
  show hp_go _ _ _ _ _ 15 _ _ _
  refine hq_getR (h := 16) 0 (pm_d rk_X1_variable 9 rfl) fl_X1_31 rfl rfl ?_
  refine hq_iload_n (pm_d rk_X1_variable 10 rfl) rfl 2 rfl ?_
  obtain ⟨x4, t3, hq, h⟩ := pm_bd_i h
  have hM := w_C_X7_slot_16 (d := d + 1) (h := hq)
  refine hq_callVi (a := 16) (ci := 7) [.int a2] [.int (hs_A t1 28 a1.toNatClampNeg)] (pm_d rk_X1_variable 11 rfl) ml_X1_55 iv_X7_slot rfl rfl rfl rfl rfl (Nat.le_of_ble_eq_true rfl) hM ?_
  refine hq_iadd (pm_d rk_X1_variable 12 rfl) ?_
  refine hq_aload_n (pm_d rk_X1_variable 13 rfl) rfl 0 rfl ?_
  refine hq_getR (h := 16) 0 (pm_d rk_X1_variable 14 rfl) fl_X1_31 rfl rfl ?_
  show hp_go _ _ _ _ _ 27 _ _ _
  refine hq_aload_n (pm_d rk_X1_variable 15 rfl) rfl 0 rfl ?_
  refine hq_iload_n (pm_d rk_X1_variable 16 rfl) rfl 1 rfl ?_
  obtain ⟨x6, t5, hq, h⟩ := pm_bd_i h
  have hM := w_C_X1_firstNode_26 (d := d + 0) (h := hq)
  refine hq_callVi (a := 26) (ci := 1) [.int a1] [.ref 16, .int ((hs_A t1 28 a1.toNatClampNeg) + x4)] (pm_d rk_X1_variable 17 rfl) ml_X1_58 iv_X1_firstNode rfl rfl rfl rfl rfl (Nat.le_of_ble_eq_true rfl) hM ?_
  obtain ⟨x8, t7, hq, h⟩ := pm_bd_i h
  have hM := w_C_X7_slot_16 (d := d + 1) (h := hq)
  refine hq_callVi (a := 16) (ci := 7) [.int x6] [.int ((hs_A t1 28 a1.toNatClampNeg) + x4)] (pm_d rk_X1_variable 18 rfl) ml_X1_55 iv_X7_slot rfl rfl rfl rfl rfl (Nat.le_of_ble_eq_true rfl) hM ?_
  refine hq_isub (pm_d rk_X1_variable 19 rfl) ?_
  refine hq_goto 40 (pm_d rk_X1_variable 20 rfl) (by decide) ?_
  show hp_go _ _ _ _ _ 40 _ _ _
  exact hq_iret (pm_d rk_X1_variable 22 rfl) rfl h
def f_C_X2_first_17 (a1 : Int32) (s : hp_S) : Option (Int32 × hp_S) :=
  pm_bd (f_C_X2_holds_17 a1 s) (fun x2 t1 =>
  if x2 = 0 then
    some ((-1 : Int32), t1)
  else
    pm_gd1 (pm_ib a1 100) (
    some ((hs_A t1 19 a1.toNatClampNeg), t1)))
set_option maxRecDepth 100000 in
set_option maxHeartbeats 400000 in
theorem w_C_X2_first_17 (d : Nat) (a1 : Int32) (s s1 : hp_S) (x0 : Int32) (h : f_C_X2_first_17 a1 s = some (x0, s1)) : hp_is sh_C me_X2_first (d + 1) [.ref 17, .int a1] s (some (.int x0)) s1 := by
  refine hp_ofF [(0, .ref 17), (1, .int a1)] (by decide +kernel) (Nat.le_of_ble_eq_true rfl) rfl ?_
  unfold f_C_X2_first_17 at h
  refine hq_aload_n (pm_d rk_X2_first 0 rfl) rfl 0 rfl ?_
  refine hq_iload_n (pm_d rk_X2_first 1 rfl) rfl 1 rfl ?_
  obtain ⟨x2, t1, hq, h⟩ := pm_bd_i h
  have hM := w_C_X2_holds_17 (d := d + 0) (h := hq)
  refine hq_callVi (a := 17) (ci := 2) [.int a1] [] (pm_d rk_X2_first 2 rfl) ml_X2_33 iv_X2_holds rfl rfl rfl rfl rfl (Nat.le_of_ble_eq_true rfl) hM ?_
  refine hq_if_eq 17 (pm_d rk_X2_first 3 rfl) (by decide) (fun hc => ?_) (fun hc => ?_)
  · rw [if_pos hc] at h
    refine hq_iconst (v := (-1 : Int32)) (pm_d rk_X2_first 9 rfl) (by decide) ?_
    show hp_go _ _ _ _ _ 18 _ _ _
    exact hq_iret (pm_d rk_X2_first 10 rfl) rfl h
  rw [if_neg hc] at h
  refine hq_aload_n (pm_d rk_X2_first 4 rfl) rfl 0 rfl ?_
  refine hq_getR (h := 19) 1 (pm_d rk_X2_first 5 rfl) fl_X2_21 rfl rfl ?_
  refine hq_iload_n (pm_d rk_X2_first 6 rfl) rfl 1 rfl ?_
  obtain ⟨hg, h⟩ := pm_gd_i h
  refine hq_iaload (pm_d rk_X2_first 7 rfl) rfl hg ?_
  refine hq_goto 18 (pm_d rk_X2_first 8 rfl) (by decide) ?_
  show hp_go _ _ _ _ _ 18 _ _ _
  exact hq_iret (pm_d rk_X2_first 10 rfl) rfl h
def f_C_X1_follow_26 (n : Nat) (a1 : Int32) (a2 : Int32) (s : hp_S) : Option (Int32 × hp_S) :=
  pm_bd (f_C_X2_meaning_17 a2 s) (fun x2 t1 =>
  pm_bd (f_C_X1_homeOf_26 n x2 a1 t1) (fun x4 t3 =>
  pm_bd (f_C_X2_kind_17 x2 t3) (fun x6 t5 =>
  pm_let (fun (z78_1 : Int32) (z78_2 : Int32) (z78_5 : Int32) (s : hp_S) =>
    pm_bd (f_C_X1_variable_26 z78_1 z78_2 s) (fun x8 t7 =>
    if x8 < 0 then
      some ((1 : Int32), t7)
    else
      if (2000 : Int32) ≤ x8 then
        some ((1 : Int32), t7)
      else
        pm_gd1 (pm_ib x8 2000) (
        pm_let (hs_pA t7 30 x8.toNatClampNeg z78_5) (fun t9 =>
        some ((1 : Int32), t9))))) (fun j78 =>
  if x6 = (4 : Int32) then
    pm_bd (f_C_X1_variable_26 x4 x2 t5) (fun x17 t16 =>
    pm_let (x17 + (1 : Int32)) (fun x18 =>
    j78 a1 a2 x18 t16))
  else
    pm_bd (f_C_X1_add_26 x2 x4 t5) (fun x11 t10 =>
    if x11 = 0 then
      some ((0 : Int32), t10)
    else
      pm_bd (f_C_X2_first_17 x2 t10) (fun x13 t12 =>
      pm_bd (f_C_X1_variable_26 ((hs_I t10 26 6) - (1 : Int32)) x13 t12) (fun x15 t14 =>
      j78 a1 a2 x15 t14)))))))
set_option maxRecDepth 100000 in
set_option maxHeartbeats 400000 in
theorem w_C_X1_follow_26 (d : Nat) (n : Nat) (a1 : Int32) (a2 : Int32) (s s1 : hp_S) (x0 : Int32) (h : f_C_X1_follow_26 n a1 a2 s = some (x0, s1)) : hp_is sh_C me_X1_follow (d + 4) [.ref 26, .int a1, .int a2] s (some (.int x0)) s1 := by
  refine hp_ofF [(0, .ref 26), (1, .int a1), (2, .int a2)] (by decide +kernel) (Nat.le_of_ble_eq_true rfl) rfl ?_
  unfold f_C_X1_follow_26 at h
  refine hq_aload_n (pm_d rk_X1_follow 0 rfl) rfl 0 rfl ?_
  refine hq_getR (h := 17) 1 (pm_d rk_X1_follow 1 rfl) fl_X1_41 rfl rfl ?_
  refine hq_iload_n (pm_d rk_X1_follow 2 rfl) rfl 2 rfl ?_
  obtain ⟨x2, t1, hq, h⟩ := pm_bd_i h
  have hM := w_C_X2_meaning_17 (d := d + 2) (h := hq)
  refine hq_callVi (a := 17) (ci := 2) [.int a2] [] (pm_d rk_X1_follow 3 rfl) ml_X1_76 iv_X2_meaning rfl rfl rfl rfl rfl (Nat.le_of_ble_eq_true rfl) hM ?_
  refine hq_istore_n (L1 := [(3, .int x2), (0, .ref 26), (1, .int a1), (2, .int a2)]) (pm_d rk_X1_follow 4 rfl) rfl (by decide) rfl ?_
  show hp_go _ _ _ _ _ 9 _ _ _
  refine hq_aload_n (pm_d rk_X1_follow 5 rfl) rfl 1 rfl ?_
  refine hq_iload_n (pm_d rk_X1_follow 6 rfl) rfl 0 rfl ?_
  refine hq_iload_n (pm_d rk_X1_follow 7 rfl) rfl 2 rfl ?_
  obtain ⟨x4, t3, hq, h⟩ := pm_bd_i h
  have hM := w_C_X1_homeOf_26 (d := d + 0) (h := hq)
  refine hq_callVi (a := 26) (ci := 1) [.int x2, .int a1] [] (pm_d rk_X1_follow 8 rfl) ml_X1_79 iv_X1_homeOf rfl rfl rfl rfl rfl (Nat.le_of_ble_eq_true rfl) hM ?_
  refine hq_istore (L1 := [(4, .int x4), (3, .int x2), (0, .ref 26), (1, .int a1), (2, .int a2)]) (pm_d rk_X1_follow 9 rfl) (by decide) rfl ?_
  refine hq_aload_n (pm_d rk_X1_follow 10 rfl) rfl 2 rfl ?_
  show hp_go _ _ _ _ _ 18 _ _ _
  refine hq_getR (h := 17) 1 (pm_d rk_X1_follow 11 rfl) fl_X1_41 rfl rfl ?_
  refine hq_iload_n (pm_d rk_X1_follow 12 rfl) rfl 1 rfl ?_
  obtain ⟨x6, t5, hq, h⟩ := pm_bd_i h
  have hM := w_C_X2_kind_17 (d := d + 2) (h := hq)
  refine hq_callVi (a := 17) (ci := 2) [.int x2] [] (pm_d rk_X1_follow 13 rfl) ml_X1_68 iv_X2_kind rfl rfl rfl rfl rfl (Nat.le_of_ble_eq_true rfl) hM ?_
  refine hq_iconst (v := (4 : Int32)) (pm_d rk_X1_follow 14 rfl) (by decide) ?_
  refine pm_jn (P := fun j78 => ∀ (z78_1 : Int32) (z78_2 : Int32) (z78_5 : Int32) (s : hp_S), j78 z78_1 z78_2 z78_5 s = some (x0, s1) → hp_go sh_C me_X1_follow (d + 4) (some (.int x0)) s1 78 [(0, .ref 26), (1, .int z78_1), (2, .int z78_2), (5, .int z78_5)] [] s) h ?_ (fun j78 hj78 h => ?_)
  · intro z78_1 z78_2 z78_5 s h
    dsimp only at h
    refine hq_aload_n (pm_d rk_X1_follow 43 rfl) rfl 0 rfl ?_
    refine hq_iload_n (pm_d rk_X1_follow 44 rfl) rfl 1 rfl ?_
    show hp_go _ _ _ _ _ 80 _ _ _
    refine hq_iload_n (pm_d rk_X1_follow 45 rfl) rfl 2 rfl ?_
    obtain ⟨x8, t7, hq, h⟩ := pm_bd_i h
    have hM := w_C_X1_variable_26 (d := d + 1) (h := hq)
    refine hq_callVi (a := 26) (ci := 1) [.int z78_1, .int z78_2] [] (pm_d rk_X1_follow 46 rfl) ml_X1_83 iv_X1_variable rfl rfl rfl rfl rfl (Nat.le_of_ble_eq_true rfl) hM ?_
    refine hq_istore (L1 := [(6, .int x8), (0, .ref 26), (1, .int z78_1), (2, .int z78_2), (5, .int z78_5)]) (pm_d rk_X1_follow 47 rfl) (by decide) rfl ?_
    refine hq_iload (pm_d rk_X1_follow 48 rfl) 0 rfl ?_
    refine hq_if_lt 108 (pm_d rk_X1_follow 49 rfl) (by decide) (fun hc => ?_) (fun hc => ?_)
    · rw [if_pos hc] at h
      refine hq_iconst (v := (1 : Int32)) (pm_d rk_X1_follow 58 rfl) (by decide) ?_
      show hp_go _ _ _ _ _ 109 _ _ _
      exact hq_zret (pm_d rk_X1_follow 59 rfl) rfl rfl h
    rw [if_neg hc] at h
    refine hq_iload (pm_d rk_X1_follow 50 rfl) 0 rfl ?_
    refine hq_sipush (v := (2000 : Int32)) (pm_d rk_X1_follow 51 rfl) (by decide) ?_
    refine hq_icmp_ge 108 (pm_d rk_X1_follow 52 rfl) (by decide) (fun hc => ?_) (fun hc => ?_)
    · rw [if_pos hc] at h
      refine hq_iconst (v := (1 : Int32)) (pm_d rk_X1_follow 58 rfl) (by decide) ?_
      exact hq_zret (pm_d rk_X1_follow 59 rfl) rfl rfl h
    rw [if_neg hc] at h
    show hp_go _ _ _ _ _ 99 _ _ _
    refine hq_aload_n (pm_d rk_X1_follow 53 rfl) rfl 1 rfl ?_
    refine hq_getR (h := 30) 5 (pm_d rk_X1_follow 54 rfl) fl_X1_21 rfl rfl ?_
    refine hq_iload (pm_d rk_X1_follow 55 rfl) 0 rfl ?_
    refine hq_iload (pm_d rk_X1_follow 56 rfl) 4 rfl ?_
    obtain ⟨hg, h⟩ := pm_gd_i h
    refine hq_iastore (pm_d rk_X1_follow 57 rfl) rfl hg ?_
    refine pm_nm (G := fun t9 => hp_go sh_C me_X1_follow (d + 4) (some (.int x0)) s1 108 [(6, .int x8), (0, .ref 26), (1, .int z78_1), (2, .int z78_2), (5, .int z78_5)] [] t9) h (fun t9 h => ?_)
    refine hq_iconst (v := (1 : Int32)) (pm_d rk_X1_follow 58 rfl) (by decide) ?_
    show hp_go _ _ _ _ _ 109 _ _ _
    exact hq_zret (pm_d rk_X1_follow 59 rfl) rfl rfl h
  refine hq_icmp_ne 43 (pm_d rk_X1_follow 15 rfl) (by decide) (fun hc => ?_) (fun hc => ?_)
  · rw [if_neg hc] at h
    refine hq_aload_n (pm_d rk_X1_follow 24 rfl) rfl 2 rfl ?_
    refine hq_iload_n (pm_d rk_X1_follow 25 rfl) rfl 1 rfl ?_
    refine hq_iload (pm_d rk_X1_follow 26 rfl) 0 rfl ?_
    obtain ⟨x11, t10, hq, h⟩ := pm_bd_i h
    have hM := w_C_X1_add_26 (d := d + 1) (h := hq)
    refine hq_callVi (a := 26) (ci := 1) [.int x2, .int x4] [] (pm_d rk_X1_follow 27 rfl) ml_X1_61 iv_X1_add rfl rfl rfl rfl rfl (Nat.le_of_ble_eq_true rfl) hM ?_
    show hp_go _ _ _ _ _ 50 _ _ _
    refine hq_if_eq 76 (pm_d rk_X1_follow 28 rfl) (by decide) (fun hc => ?_) (fun hc => ?_)
    · rw [if_pos hc] at h
      refine hq_iconst (v := (0 : Int32)) (pm_d rk_X1_follow 41 rfl) (by decide) ?_
      exact hq_zret (pm_d rk_X1_follow 42 rfl) rfl rfl h
    rw [if_neg hc] at h
    refine hq_aload_n (pm_d rk_X1_follow 29 rfl) rfl 2 rfl ?_
    refine hq_aload_n (pm_d rk_X1_follow 30 rfl) rfl 2 rfl ?_
    refine hq_getI 6 (pm_d rk_X1_follow 31 rfl) fl_X1_24 rfl rfl ?_
    show hp_go _ _ _ _ _ 58 _ _ _
    refine hq_iconst (v := (1 : Int32)) (pm_d rk_X1_follow 32 rfl) (by decide) ?_
    refine hq_isub (pm_d rk_X1_follow 33 rfl) ?_
    refine hq_aload_n (pm_d rk_X1_follow 34 rfl) rfl 2 rfl ?_
    refine hq_getR (h := 17) 1 (pm_d rk_X1_follow 35 rfl) fl_X1_41 rfl rfl ?_
    refine hq_iload_n (pm_d rk_X1_follow 36 rfl) rfl 1 rfl ?_
    obtain ⟨x13, t12, hq, h⟩ := pm_bd_i h
    have hM := w_C_X2_first_17 (d := d + 2) (h := hq)
    refine hq_callVi (a := 17) (ci := 2) [.int x2] [.int ((hs_I t10 26 6) - (1 : Int32)), .ref 26] (pm_d rk_X1_follow 37 rfl) ml_X1_86 iv_X2_first rfl rfl rfl rfl rfl (Nat.le_of_ble_eq_true rfl) hM ?_
    show hp_go _ _ _ _ _ 68 _ _ _
    obtain ⟨x15, t14, hq, h⟩ := pm_bd_i h
    have hM := w_C_X1_variable_26 (d := d + 1) (h := hq)
    refine hq_callVi (a := 26) (ci := 1) [.int ((hs_I t10 26 6) - (1 : Int32)), .int x13] [] (pm_d rk_X1_follow 38 rfl) ml_X1_83 iv_X1_variable rfl rfl rfl rfl rfl (Nat.le_of_ble_eq_true rfl) hM ?_
    refine hq_istore (L1 := [(5, .int x15), (4, .int x4), (3, .int x2), (0, .ref 26), (1, .int a1), (2, .int a2)]) (pm_d rk_X1_follow 39 rfl) (by decide) rfl ?_
    refine hq_goto 78 (pm_d rk_X1_follow 40 rfl) (by decide) ?_
    refine hq_drop [3, 4, 5, 0] rfl ?_
    exact hj78 _ _ _ _ h
  rw [if_pos hc] at h
  refine hq_aload_n (pm_d rk_X1_follow 16 rfl) rfl 2 rfl ?_
  refine hq_iload (pm_d rk_X1_follow 17 rfl) 0 rfl ?_
  refine hq_iload_n (pm_d rk_X1_follow 18 rfl) rfl 1 rfl ?_
  show hp_go _ _ _ _ _ 33 _ _ _
  obtain ⟨x17, t16, hq, h⟩ := pm_bd_i h
  have hM := w_C_X1_variable_26 (d := d + 1) (h := hq)
  refine hq_callVi (a := 26) (ci := 1) [.int x4, .int x2] [] (pm_d rk_X1_follow 19 rfl) ml_X1_83 iv_X1_variable rfl rfl rfl rfl rfl (Nat.le_of_ble_eq_true rfl) hM ?_
  refine hq_iconst (v := (1 : Int32)) (pm_d rk_X1_follow 20 rfl) (by decide) ?_
  refine hq_iadd (pm_d rk_X1_follow 21 rfl) ?_
  refine pm_nm (G := fun x18 => hp_go sh_C me_X1_follow (d + 4) (some (.int x0)) s1 38 [(4, .int x4), (3, .int x2), (0, .ref 26), (1, .int a1), (2, .int a2)] [.int x18] t16) h (fun x18 h => ?_)
  refine hq_istore (L1 := [(5, .int x18), (4, .int x4), (3, .int x2), (0, .ref 26), (1, .int a1), (2, .int a2)]) (pm_d rk_X1_follow 22 rfl) (by decide) rfl ?_
  refine hq_goto 78 (pm_d rk_X1_follow 23 rfl) (by decide) ?_
  refine hq_drop [3, 4, 5, 0] rfl ?_
  exact hj78 _ _ _ _ h
def l_C_X1_unfold_26_44 (k19 : Int32 → Int32 → hp_S → Option (Int32 × hp_S)) : Nat → Int32 → Int32 → Int32 → hp_S → Option (Int32 × hp_S)
  | 0, _, _, _, _ => none
  | n + 1, y1, y2, y3, s =>
    pm_let (fun (z90_1 : Int32) (z90_2 : Int32) (s : hp_S) =>
      pm_let (z90_2 + (1 : Int32)) (fun x7 =>
      k19 z90_1 x7 s)) (fun j90 =>
    if y1 = 0 then
      j90 y1 y2 s
    else
      pm_bd (f_C_X1_endNode_26 y2 s) (fun x9 t8 =>
      if x9 ≤ y3 then
        j90 y1 y2 t8
      else
        pm_bd (f_C_X2_kind_17 y3 t8) (fun x11 t10 =>
        pm_let (fun (z83_2 : Int32) (z83_3 : Int32) (z83_S0 : Int32) (s : hp_S) =>
          pm_let (z83_3 + (1 : Int32)) (fun x12 =>
          l_C_X1_unfold_26_44 k19 n z83_S0 z83_2 x12 s)) (fun j83 =>
        pm_let (fun (z78_2 : Int32) (z78_3 : Int32) (s : hp_S) =>
          j83 z78_2 z78_3 (1 : Int32) s) (fun j78 =>
        if x11 = (2 : Int32) then
          pm_bd (f_C_X1_follow_26 n y2 y3 t10) (fun x14 t13 =>
          if x14 = 0 then
            j83 y2 y3 (0 : Int32) t13
          else
            j78 y2 y3 t13)
        else
          j78 y2 y3 t10)))))
set_option maxRecDepth 100000 in
set_option maxHeartbeats 400000 in
theorem wl_C_X1_unfold_26_44 (d : Nat) (k19 : Int32 → Int32 → hp_S → Option (Int32 × hp_S)) (s1 : hp_S) (x0 : Int32) (hk19 : ∀ (y1 : Int32) (y2 : Int32) (s : hp_S), k19 y1 y2 s = some (x0, s1) → hp_go sh_C me_X1_unfold (d + 5) (some (.int x0)) s1 19 [(0, .ref 26), (1, .int y1), (2, .int y2)] [] s) : ∀ (n : Nat) (y1 : Int32) (y2 : Int32) (y3 : Int32) (s : hp_S), l_C_X1_unfold_26_44 k19 n y1 y2 y3 s = some (x0, s1) → hp_go sh_C me_X1_unfold (d + 5) (some (.int x0)) s1 44 [(0, .ref 26), (1, .int y1), (2, .int y2), (3, .int y3)] [] s := by
  intro n
  induction n with
  | zero =>
    intro y1 y2 y3 s h
    cases h
  | succ n ih =>
    intro y1 y2 y3 s h
    rw [l_C_X1_unfold_26_44.eq_2] at h
    refine hq_iload_n (pm_d rk_X1_unfold 26 rfl) rfl 1 rfl ?_
    refine pm_jn (P := fun j90 => ∀ (z90_1 : Int32) (z90_2 : Int32) (s : hp_S), j90 z90_1 z90_2 s = some (x0, s1) → hp_go sh_C me_X1_unfold (d + 5) (some (.int x0)) s1 90 [(0, .ref 26), (1, .int z90_1), (2, .int z90_2)] [] s) h ?_ (fun j90 hj90 h => ?_)
    · intro z90_1 z90_2 s h
      dsimp only at h
      refine hq_iinc (v := z90_2 + (1 : Int32)) (L1 := [(2, .int (z90_2 + (1 : Int32))), (0, .ref 26), (1, .int z90_1)]) (pm_d rk_X1_unfold 50 rfl) 2 rfl (by rw [show Int32.ofInt (1) = (1 : Int32) by decide]) (by decide) rfl ?_
      refine pm_nm (G := fun x7 => hp_go sh_C me_X1_unfold (d + 5) (some (.int x0)) s1 93 [(2, .int x7), (0, .ref 26), (1, .int z90_1)] [] s) h (fun x7 h => ?_)
      refine hq_goto 19 (pm_d rk_X1_unfold 51 rfl) (by decide) ?_
      refine hq_drop [1, 2, 0] rfl ?_
      exact hk19 _ _ _ h
    show hp_go _ _ _ _ _ 45 _ _ _
    refine hq_if_eq 90 (pm_d rk_X1_unfold 27 rfl) (by decide) (fun hc => ?_) (fun hc => ?_)
    · rw [if_pos hc] at h
      refine hq_drop [0, 1, 2] rfl ?_
      exact hj90 _ _ _ h
    rw [if_neg hc] at h
    refine hq_iload_n (pm_d rk_X1_unfold 28 rfl) rfl 3 rfl ?_
    refine hq_aload_n (pm_d rk_X1_unfold 29 rfl) rfl 0 rfl ?_
    refine hq_iload_n (pm_d rk_X1_unfold 30 rfl) rfl 2 rfl ?_
    obtain ⟨x9, t8, hq, h⟩ := pm_bd_i h
    have hM := w_C_X1_endNode_26 (d := d + 3) (h := hq)
    refine hq_callVi (a := 26) (ci := 1) [.int y2] [.int y3] (pm_d rk_X1_unfold 31 rfl) ml_X1_65 iv_X1_endNode rfl rfl rfl rfl rfl (Nat.le_of_ble_eq_true rfl) hM ?_
    refine hq_icmp_ge 90 (pm_d rk_X1_unfold 32 rfl) (by decide) (fun hc => ?_) (fun hc => ?_)
    · rw [if_pos hc] at h
      refine hq_drop [0, 1, 2] rfl ?_
      exact hj90 _ _ _ h
    rw [if_neg hc] at h
    show hp_go _ _ _ _ _ 57 _ _ _
    refine hq_aload_n (pm_d rk_X1_unfold 33 rfl) rfl 0 rfl ?_
    refine hq_getR (h := 17) 1 (pm_d rk_X1_unfold 34 rfl) fl_X1_41 rfl rfl ?_
    refine hq_iload_n (pm_d rk_X1_unfold 35 rfl) rfl 3 rfl ?_
    obtain ⟨x11, t10, hq, h⟩ := pm_bd_i h
    have hM := w_C_X2_kind_17 (d := d + 3) (h := hq)
    refine hq_callVi (a := 17) (ci := 2) [.int y3] [] (pm_d rk_X1_unfold 36 rfl) ml_X1_68 iv_X2_kind rfl rfl rfl rfl rfl (Nat.le_of_ble_eq_true rfl) hM ?_
    refine hq_iconst (v := (2 : Int32)) (pm_d rk_X1_unfold 37 rfl) (by decide) ?_
    refine pm_jn (P := fun j83 => ∀ (z83_2 : Int32) (z83_3 : Int32) (z83_S0 : Int32) (s : hp_S), j83 z83_2 z83_3 z83_S0 s = some (x0, s1) → hp_go sh_C me_X1_unfold (d + 5) (some (.int x0)) s1 83 [(0, .ref 26), (2, .int z83_2), (3, .int z83_3)] [.int z83_S0] s) h ?_ (fun j83 hj83 h => ?_)
    · intro z83_2 z83_3 z83_S0 s h
      dsimp only at h
      refine hq_istore_n (L1 := [(1, .int z83_S0), (0, .ref 26), (2, .int z83_2), (3, .int z83_3)]) (pm_d rk_X1_unfold 47 rfl) rfl (by decide) rfl ?_
      show hp_go _ _ _ _ _ 84 _ _ _
      refine hq_iinc (v := z83_3 + (1 : Int32)) (L1 := [(3, .int (z83_3 + (1 : Int32))), (1, .int z83_S0), (0, .ref 26), (2, .int z83_2)]) (pm_d rk_X1_unfold 48 rfl) 3 rfl (by rw [show Int32.ofInt (1) = (1 : Int32) by decide]) (by decide) rfl ?_
      refine pm_nm (G := fun x12 => hp_go sh_C me_X1_unfold (d + 5) (some (.int x0)) s1 87 [(3, .int x12), (1, .int z83_S0), (0, .ref 26), (2, .int z83_2)] [] s) h (fun x12 h => ?_)
      refine hq_goto 44 (pm_d rk_X1_unfold 49 rfl) (by decide) ?_
      refine hq_drop [2, 1, 3, 0] rfl ?_
      exact ih _ _ _ _ h
    refine pm_jn (P := fun j78 => ∀ (z78_2 : Int32) (z78_3 : Int32) (s : hp_S), j78 z78_2 z78_3 s = some (x0, s1) → hp_go sh_C me_X1_unfold (d + 5) (some (.int x0)) s1 78 [(0, .ref 26), (2, .int z78_2), (3, .int z78_3)] [] s) h ?_ (fun j78 hj78 h => ?_)
    · intro z78_2 z78_3 s h
      dsimp only at h
      refine hq_iconst (v := (1 : Int32)) (pm_d rk_X1_unfold 44 rfl) (by decide) ?_
      refine hq_goto 83 (pm_d rk_X1_unfold 45 rfl) (by decide) ?_
      refine hq_drop [0, 1, 2] rfl ?_
      exact hj83 _ _ _ _ h
    refine hq_icmp_ne 78 (pm_d rk_X1_unfold 38 rfl) (by decide) (fun hc => ?_) (fun hc => ?_)
    · rw [if_neg hc] at h
      refine hq_drop [0, 2, 3] rfl ?_
      exact hj78 _ _ _ h
    rw [if_pos hc] at h
    refine hq_aload_n (pm_d rk_X1_unfold 39 rfl) rfl 0 rfl ?_
    show hp_go _ _ _ _ _ 70 _ _ _
    refine hq_iload_n (pm_d rk_X1_unfold 40 rfl) rfl 2 rfl ?_
    refine hq_iload_n (pm_d rk_X1_unfold 41 rfl) rfl 3 rfl ?_
    obtain ⟨x14, t13, hq, h⟩ := pm_bd_i h
    have hM := w_C_X1_follow_26 (d := d + 0) (h := hq)
    refine hq_callVi (a := 26) (ci := 1) [.int y2, .int y3] [] (pm_d rk_X1_unfold 42 rfl) ml_X1_73 iv_X1_follow rfl rfl rfl rfl rfl (Nat.le_of_ble_eq_true rfl) hM ?_
    refine hq_if_eq 82 (pm_d rk_X1_unfold 43 rfl) (by decide) (fun hc => ?_) (fun hc => ?_)
    · rw [if_pos hc] at h
      refine hq_iconst (v := (0 : Int32)) (pm_d rk_X1_unfold 46 rfl) (by decide) ?_
      refine hq_drop [0, 2, 3] rfl ?_
      exact hj83 _ _ _ _ h
    rw [if_neg hc] at h
    refine hq_drop [0, 2, 3] rfl ?_
    exact hj78 _ _ _ h
def l_C_X1_unfold_26_19 : Nat → Int32 → Int32 → hp_S → Option (Int32 × hp_S)
  | 0, _, _, _ => none
  | n + 1, y1, y2, s =>
    if y1 = 0 then
      pm_gd1 (pm_bl y1) (some (y1, s))
    else
      if (hs_I s 26 6) ≤ y2 then
        pm_gd1 (pm_bl y1) (some (y1, s))
      else
        if (2000 : Int32) ≤ y2 then
          pm_gd1 (pm_bl y1) (some (y1, s))
        else
          pm_bd (f_C_X1_firstNode_26 y2 s) (fun x6 t5 =>
          l_C_X1_unfold_26_44 (l_C_X1_unfold_26_19 n) n y1 y2 x6 t5)
set_option maxRecDepth 100000 in
set_option maxHeartbeats 400000 in
theorem wl_C_X1_unfold_26_19 (d : Nat) (s1 : hp_S) (x0 : Int32)  : ∀ (n : Nat) (y1 : Int32) (y2 : Int32) (s : hp_S), l_C_X1_unfold_26_19 n y1 y2 s = some (x0, s1) → hp_go sh_C me_X1_unfold (d + 5) (some (.int x0)) s1 19 [(0, .ref 26), (1, .int y1), (2, .int y2)] [] s := by
  intro n
  induction n with
  | zero =>
    intro y1 y2 s h
    cases h
  | succ n ih =>
    intro y1 y2 s h
    rw [l_C_X1_unfold_26_19.eq_2] at h
    refine hq_iload_n (pm_d rk_X1_unfold 13 rfl) rfl 1 rfl ?_
    refine hq_if_eq 96 (pm_d rk_X1_unfold 14 rfl) (by decide) (fun hc => ?_) (fun hc => ?_)
    · rw [if_pos hc] at h
      refine hq_iload_n (pm_d rk_X1_unfold 52 rfl) rfl 1 rfl ?_
      obtain ⟨hg, h⟩ := pm_gd_i h
      exact hq_zret (pm_d rk_X1_unfold 53 rfl) rfl (pm_bl_n hg) h
    rw [if_neg hc] at h
    show hp_go _ _ _ _ _ 23 _ _ _
    refine hq_iload_n (pm_d rk_X1_unfold 15 rfl) rfl 2 rfl ?_
    refine hq_aload_n (pm_d rk_X1_unfold 16 rfl) rfl 0 rfl ?_
    refine hq_getI 6 (pm_d rk_X1_unfold 17 rfl) fl_X1_24 rfl rfl ?_
    refine hq_icmp_ge 96 (pm_d rk_X1_unfold 18 rfl) (by decide) (fun hc => ?_) (fun hc => ?_)
    · rw [if_pos hc] at h
      refine hq_iload_n (pm_d rk_X1_unfold 52 rfl) rfl 1 rfl ?_
      obtain ⟨hg, h⟩ := pm_gd_i h
      exact hq_zret (pm_d rk_X1_unfold 53 rfl) rfl (pm_bl_n hg) h
    rw [if_neg hc] at h
    show hp_go _ _ _ _ _ 31 _ _ _
    refine hq_iload_n (pm_d rk_X1_unfold 19 rfl) rfl 2 rfl ?_
    refine hq_sipush (v := (2000 : Int32)) (pm_d rk_X1_unfold 20 rfl) (by decide) ?_
    refine hq_icmp_ge 96 (pm_d rk_X1_unfold 21 rfl) (by decide) (fun hc => ?_) (fun hc => ?_)
    · rw [if_pos hc] at h
      refine hq_iload_n (pm_d rk_X1_unfold 52 rfl) rfl 1 rfl ?_
      obtain ⟨hg, h⟩ := pm_gd_i h
      exact hq_zret (pm_d rk_X1_unfold 53 rfl) rfl (pm_bl_n hg) h
    rw [if_neg hc] at h
    refine hq_aload_n (pm_d rk_X1_unfold 22 rfl) rfl 0 rfl ?_
    show hp_go _ _ _ _ _ 39 _ _ _
    refine hq_iload_n (pm_d rk_X1_unfold 23 rfl) rfl 2 rfl ?_
    obtain ⟨x6, t5, hq, h⟩ := pm_bd_i h
    have hM := w_C_X1_firstNode_26 (d := d + 3) (h := hq)
    refine hq_callVi (a := 26) (ci := 1) [.int y2] [] (pm_d rk_X1_unfold 24 rfl) ml_X1_58 iv_X1_firstNode rfl rfl rfl rfl rfl (Nat.le_of_ble_eq_true rfl) hM ?_
    refine hq_istore_n (L1 := [(3, .int x6), (0, .ref 26), (1, .int y1), (2, .int y2)]) (pm_d rk_X1_unfold 25 rfl) rfl (by decide) rfl ?_
    refine hq_drop [1, 2, 3, 0] rfl ?_
    exact wl_C_X1_unfold_26_44 d _ _ _  ih _ _ _ _ _ h
def f_C_X1_unfold_26 (n : Nat) (s : hp_S) : Option (Int32 × hp_S) :=
  pm_let (hs_pI s 26 6 (0 : Int32)) (fun t1 =>
  pm_let (hs_pI t1 26 7 (0 : Int32)) (fun t2 =>
  pm_bd (f_C_X1_add_26 (-1 : Int32) (-1 : Int32) t2) (fun x4 t3 =>
  l_C_X1_unfold_26_19 n x4 (0 : Int32) t3)))
set_option maxRecDepth 100000 in
set_option maxHeartbeats 400000 in
theorem w_C_X1_unfold_26 (d : Nat) (n : Nat) (s s1 : hp_S) (x0 : Int32) (h : f_C_X1_unfold_26 n s = some (x0, s1)) : hp_is sh_C me_X1_unfold (d + 5) [.ref 26] s (some (.int x0)) s1 := by
  refine hp_ofF [(0, .ref 26)] (by decide +kernel) (Nat.le_of_ble_eq_true rfl) rfl ?_
  unfold f_C_X1_unfold_26 at h
  refine hq_aload_n (pm_d rk_X1_unfold 0 rfl) rfl 0 rfl ?_
  refine hq_iconst (v := (0 : Int32)) (pm_d rk_X1_unfold 1 rfl) (by decide) ?_
  refine hq_putI 6 (pm_d rk_X1_unfold 2 rfl) fl_X1_24 rfl rfl ?_
  refine pm_nm (G := fun t1 => hp_go sh_C me_X1_unfold (d + 5) (some (.int x0)) s1 5 [(0, .ref 26)] [] t1) h (fun t1 h => ?_)
  refine hq_aload_n (pm_d rk_X1_unfold 3 rfl) rfl 0 rfl ?_
  refine hq_iconst (v := (0 : Int32)) (pm_d rk_X1_unfold 4 rfl) (by decide) ?_
  show hp_go _ _ _ _ _ 7 _ _ _
  refine hq_putI 7 (pm_d rk_X1_unfold 5 rfl) fl_X1_28 rfl rfl ?_
  refine pm_nm (G := fun t2 => hp_go sh_C me_X1_unfold (d + 5) (some (.int x0)) s1 10 [(0, .ref 26)] [] t2) h (fun t2 h => ?_)
  refine hq_aload_n (pm_d rk_X1_unfold 6 rfl) rfl 0 rfl ?_
  refine hq_iconst (v := (-1 : Int32)) (pm_d rk_X1_unfold 7 rfl) (by decide) ?_
  refine hq_iconst (v := (-1 : Int32)) (pm_d rk_X1_unfold 8 rfl) (by decide) ?_
  obtain ⟨x4, t3, hq, h⟩ := pm_bd_i h
  have hM := w_C_X1_add_26 (d := d + 2) (h := hq)
  refine hq_callVi (a := 26) (ci := 1) [.int (-1 : Int32), .int (-1 : Int32)] [] (pm_d rk_X1_unfold 9 rfl) ml_X1_61 iv_X1_add rfl rfl rfl rfl rfl (Nat.le_of_ble_eq_true rfl) hM ?_
  refine hq_istore_n (L1 := [(1, .int x4), (0, .ref 26)]) (pm_d rk_X1_unfold 10 rfl) rfl (by decide) rfl ?_
  show hp_go _ _ _ _ _ 17 _ _ _
  refine hq_iconst (v := (0 : Int32)) (pm_d rk_X1_unfold 11 rfl) (by decide) ?_
  refine hq_istore_n (L1 := [(2, .int (0 : Int32)), (1, .int x4), (0, .ref 26)]) (pm_d rk_X1_unfold 12 rfl) rfl (by decide) rfl ?_
  refine hq_drop [2, 1, 0] rfl ?_
  exact wl_C_X1_unfold_26_19 d _ _   _ _ _ _ h
def f_C_X1_variables_26  (s : hp_S) : Option (Int32 × hp_S) :=
  some ((hs_I s 26 7), s)
set_option maxRecDepth 100000 in
set_option maxHeartbeats 400000 in
theorem w_C_X1_variables_26 (d : Nat)  (s s1 : hp_S) (x0 : Int32) (h : f_C_X1_variables_26 s = some (x0, s1)) : hp_is sh_C me_X1_variables (d + 0) [.ref 26] s (some (.int x0)) s1 := by
  refine hp_ofF [(0, .ref 26)] (by decide +kernel) (Nat.le_of_ble_eq_true rfl) rfl ?_
  unfold f_C_X1_variables_26 at h
  refine hq_aload_n (pm_d rk_X1_variables 0 rfl) rfl 0 rfl ?_
  refine hq_getI 7 (pm_d rk_X1_variables 1 rfl) fl_X1_28 rfl rfl ?_
  exact hq_iret (pm_d rk_X1_variables 2 rfl) rfl h
def l_C_X0_chooseAll_37_2 : Nat → Int32 → hp_S → Option hp_S
  | 0, _, _ => none
  | n + 1, y1, s =>
    if (100 : Int32) ≤ y1 then
      some s
    else
      pm_gd1 (pm_ib y1 100) (
      pm_let (hs_pA s 38 y1.toNatClampNeg (vp_nar .boolean (1 : Int32))) (fun t1 =>
      pm_let (y1 + (1 : Int32)) (fun x2 =>
      l_C_X0_chooseAll_37_2 n x2 t1)))
set_option maxRecDepth 100000 in
set_option maxHeartbeats 400000 in
theorem wl_C_X0_chooseAll_37_2 (d : Nat) (s1 : hp_S)  : ∀ (n : Nat) (y1 : Int32) (s : hp_S), l_C_X0_chooseAll_37_2 n y1 s = some s1 → hp_go sh_C me_X0_chooseAll (d + 0) none s1 2 [(0, .ref 37), (1, .int y1)] [] s := by
  intro n
  induction n with
  | zero =>
    intro y1 s h
    cases h
  | succ n ih =>
    intro y1 s h
    rw [l_C_X0_chooseAll_37_2.eq_2] at h
    refine hq_iload_n (pm_d rk_X0_chooseAll 2 rfl) rfl 1 rfl ?_
    refine hq_bipush (v := (100 : Int32)) (pm_d rk_X0_chooseAll 3 rfl) (by decide) ?_
    refine hq_icmp_ge 21 (pm_d rk_X0_chooseAll 4 rfl) (by decide) (fun hc => ?_) (fun hc => ?_)
    · rw [if_pos hc] at h
      show hp_go _ _ _ _ _ 21 _ _ _
      exact hq_vret (pm_d rk_X0_chooseAll 12 rfl) rfl h
    rw [if_neg hc] at h
    refine hq_aload_n (pm_d rk_X0_chooseAll 5 rfl) rfl 0 rfl ?_
    refine hq_getR (h := 38) 4 (pm_d rk_X0_chooseAll 6 rfl) fl_X0_9 rfl rfl ?_
    refine hq_iload_n (pm_d rk_X0_chooseAll 7 rfl) rfl 1 rfl ?_
    refine hq_iconst (v := (1 : Int32)) (pm_d rk_X0_chooseAll 8 rfl) (by decide) ?_
    obtain ⟨hg, h⟩ := pm_gd_i h
    refine hq_zastore (pm_d rk_X0_chooseAll 9 rfl) rfl hg ?_
    refine pm_nm (G := fun t1 => hp_go sh_C me_X0_chooseAll (d + 0) none s1 15 [(0, .ref 37), (1, .int y1)] [] t1) h (fun t1 h => ?_)
    show hp_go _ _ _ _ _ 15 _ _ _
    refine hq_iinc (v := y1 + (1 : Int32)) (L1 := [(1, .int (y1 + (1 : Int32))), (0, .ref 37)]) (pm_d rk_X0_chooseAll 10 rfl) 1 rfl (by rw [show Int32.ofInt (1) = (1 : Int32) by decide]) (by decide) rfl ?_
    refine pm_nm (G := fun x2 => hp_go sh_C me_X0_chooseAll (d + 0) none s1 18 [(1, .int x2), (0, .ref 37)] [] t1) h (fun x2 h => ?_)
    refine hq_goto 2 (pm_d rk_X0_chooseAll 11 rfl) (by decide) ?_
    refine hq_drop [1, 0] rfl ?_
    exact ih _ _ h
def f_C_X0_chooseAll_37 (n : Nat) (s : hp_S) : Option hp_S :=
  l_C_X0_chooseAll_37_2 n (0 : Int32) s
set_option maxRecDepth 100000 in
set_option maxHeartbeats 400000 in
theorem w_C_X0_chooseAll_37 (d : Nat) (n : Nat) (s s1 : hp_S) (h : f_C_X0_chooseAll_37 n s = some s1) : hp_is sh_C me_X0_chooseAll (d + 0) [.ref 37] s none s1 := by
  refine hp_ofF [(0, .ref 37)] (by decide +kernel) (Nat.le_of_ble_eq_true rfl) rfl ?_
  unfold f_C_X0_chooseAll_37 at h
  refine hq_iconst (v := (0 : Int32)) (pm_d rk_X0_chooseAll 0 rfl) (by decide) ?_
  refine hq_istore_n (L1 := [(1, .int (0 : Int32)), (0, .ref 37)]) (pm_d rk_X0_chooseAll 1 rfl) rfl (by decide) rfl ?_
  refine hq_drop [1, 0] rfl ?_
  exact wl_C_X0_chooseAll_37_2 d _   _ _ _ h
def f_C_X9_add_31 (a1 : Int32) (a2 : Int32) (a3 : Int32) (s : hp_S) : Option (Int32 × hp_S) :=
  if (hs_I s 31 5) < (10002 : Int32) then
    pm_gd1 (pm_ib (hs_I s 31 5) 10002) (
    pm_let (hs_pA s 32 (hs_I s 31 5).toNatClampNeg a1) (fun t1 =>
    pm_gd1 (pm_ib (hs_I t1 31 5) 10002) (
    pm_let (hs_pA t1 33 (hs_I t1 31 5).toNatClampNeg a2) (fun t2 =>
    pm_gd1 (pm_ib (hs_I t2 31 5) 10002) (
    pm_let (hs_pA t2 34 (hs_I t2 31 5).toNatClampNeg a3) (fun t3 =>
    pm_let (hs_pI t3 31 5 ((hs_I t3 31 5) + (1 : Int32))) (fun t4 =>
    some (((hs_I t4 31 5) - (1 : Int32)), t4))))))))
  else
    some ((-1 : Int32), s)
set_option maxRecDepth 100000 in
set_option maxHeartbeats 400000 in
theorem w_C_X9_add_31 (d : Nat) (a1 : Int32) (a2 : Int32) (a3 : Int32) (s s1 : hp_S) (x0 : Int32) (h : f_C_X9_add_31 a1 a2 a3 s = some (x0, s1)) : hp_is sh_C me_X9_add (d + 0) [.ref 31, .int a1, .int a2, .int a3] s (some (.int x0)) s1 := by
  refine hp_ofF [(0, .ref 31), (1, .int a1), (2, .int a2), (3, .int a3)] (by decide +kernel) (Nat.le_of_ble_eq_true rfl) rfl ?_
  unfold f_C_X9_add_31 at h
  refine hq_aload_n (pm_d rk_X9_add 0 rfl) rfl 0 rfl ?_
  refine hq_getI 5 (pm_d rk_X9_add 1 rfl) fl_X9_27 rfl rfl ?_
  refine hq_sipush (v := (10002 : Int32)) (pm_d rk_X9_add 2 rfl) (by decide) ?_
  refine hq_icmp_lt 12 (pm_d rk_X9_add 3 rfl) (by decide) (fun hc => ?_) (fun hc => ?_)
  · rw [if_pos hc] at h
    refine hq_aload_n (pm_d rk_X9_add 6 rfl) rfl 0 rfl ?_
    show hp_go _ _ _ _ _ 13 _ _ _
    refine hq_getR (h := 32) 0 (pm_d rk_X9_add 7 rfl) fl_X9_11 rfl rfl ?_
    refine hq_aload_n (pm_d rk_X9_add 8 rfl) rfl 0 rfl ?_
    refine hq_getI 5 (pm_d rk_X9_add 9 rfl) fl_X9_27 rfl rfl ?_
    refine hq_iload_n (pm_d rk_X9_add 10 rfl) rfl 1 rfl ?_
    obtain ⟨hg, h⟩ := pm_gd_i h
    refine hq_iastore (pm_d rk_X9_add 11 rfl) rfl hg ?_
    refine pm_nm (G := fun t1 => hp_go sh_C me_X9_add (d + 0) (some (.int x0)) s1 22 [(0, .ref 31), (1, .int a1), (2, .int a2), (3, .int a3)] [] t1) h (fun t1 h => ?_)
    refine hq_aload_n (pm_d rk_X9_add 12 rfl) rfl 0 rfl ?_
    show hp_go _ _ _ _ _ 23 _ _ _
    refine hq_getR (h := 33) 1 (pm_d rk_X9_add 13 rfl) fl_X9_15 rfl rfl ?_
    refine hq_aload_n (pm_d rk_X9_add 14 rfl) rfl 0 rfl ?_
    refine hq_getI 5 (pm_d rk_X9_add 15 rfl) fl_X9_27 rfl rfl ?_
    refine hq_iload_n (pm_d rk_X9_add 16 rfl) rfl 2 rfl ?_
    obtain ⟨hg, h⟩ := pm_gd_i h
    refine hq_iastore (pm_d rk_X9_add 17 rfl) rfl hg ?_
    refine pm_nm (G := fun t2 => hp_go sh_C me_X9_add (d + 0) (some (.int x0)) s1 32 [(0, .ref 31), (1, .int a1), (2, .int a2), (3, .int a3)] [] t2) h (fun t2 h => ?_)
    refine hq_aload_n (pm_d rk_X9_add 18 rfl) rfl 0 rfl ?_
    show hp_go _ _ _ _ _ 33 _ _ _
    refine hq_getR (h := 34) 2 (pm_d rk_X9_add 19 rfl) fl_X9_18 rfl rfl ?_
    refine hq_aload_n (pm_d rk_X9_add 20 rfl) rfl 0 rfl ?_
    refine hq_getI 5 (pm_d rk_X9_add 21 rfl) fl_X9_27 rfl rfl ?_
    refine hq_iload_n (pm_d rk_X9_add 22 rfl) rfl 3 rfl ?_
    obtain ⟨hg, h⟩ := pm_gd_i h
    refine hq_iastore (pm_d rk_X9_add 23 rfl) rfl hg ?_
    refine pm_nm (G := fun t3 => hp_go sh_C me_X9_add (d + 0) (some (.int x0)) s1 42 [(0, .ref 31), (1, .int a1), (2, .int a2), (3, .int a3)] [] t3) h (fun t3 h => ?_)
    refine hq_aload_n (pm_d rk_X9_add 24 rfl) rfl 0 rfl ?_
    show hp_go _ _ _ _ _ 43 _ _ _
    refine hq_dup (pm_d rk_X9_add 25 rfl) rfl ?_
    refine hq_getI 5 (pm_d rk_X9_add 26 rfl) fl_X9_27 rfl rfl ?_
    refine hq_iconst (v := (1 : Int32)) (pm_d rk_X9_add 27 rfl) (by decide) ?_
    refine hq_iadd (pm_d rk_X9_add 28 rfl) ?_
    refine hq_putI 5 (pm_d rk_X9_add 29 rfl) fl_X9_27 rfl rfl ?_
    refine pm_nm (G := fun t4 => hp_go sh_C me_X9_add (d + 0) (some (.int x0)) s1 52 [(0, .ref 31), (1, .int a1), (2, .int a2), (3, .int a3)] [] t4) h (fun t4 h => ?_)
    refine hq_aload_n (pm_d rk_X9_add 30 rfl) rfl 0 rfl ?_
    show hp_go _ _ _ _ _ 53 _ _ _
    refine hq_getI 5 (pm_d rk_X9_add 31 rfl) fl_X9_27 rfl rfl ?_
    refine hq_iconst (v := (1 : Int32)) (pm_d rk_X9_add 32 rfl) (by decide) ?_
    refine hq_isub (pm_d rk_X9_add 33 rfl) ?_
    exact hq_iret (pm_d rk_X9_add 34 rfl) rfl h
  rw [if_neg hc] at h
  refine hq_iconst (v := (-1 : Int32)) (pm_d rk_X9_add 4 rfl) (by decide) ?_
  exact hq_iret (pm_d rk_X9_add 5 rfl) rfl h
def f_C_X9_free_31  (s : hp_S) : Option (Int32 × hp_S) :=
  pm_bd (f_C_X9_add_31 (0 : Int32) (-1 : Int32) (-1 : Int32) s) (fun x2 t1 =>
  some (x2, t1))
set_option maxRecDepth 100000 in
set_option maxHeartbeats 400000 in
theorem w_C_X9_free_31 (d : Nat)  (s s1 : hp_S) (x0 : Int32) (h : f_C_X9_free_31 s = some (x0, s1)) : hp_is sh_C me_X9_free (d + 1) [.ref 31] s (some (.int x0)) s1 := by
  refine hp_ofF [(0, .ref 31)] (by decide +kernel) (Nat.le_of_ble_eq_true rfl) rfl ?_
  unfold f_C_X9_free_31 at h
  refine hq_aload_n (pm_d rk_X9_free 0 rfl) rfl 0 rfl ?_
  refine hq_iconst (v := (0 : Int32)) (pm_d rk_X9_free 1 rfl) (by decide) ?_
  refine hq_iconst (v := (-1 : Int32)) (pm_d rk_X9_free 2 rfl) (by decide) ?_
  refine hq_iconst (v := (-1 : Int32)) (pm_d rk_X9_free 3 rfl) (by decide) ?_
  obtain ⟨x2, t1, hq, h⟩ := pm_bd_i h
  have hM := w_C_X9_add_31 (d := d + 0) (h := hq)
  refine hq_callVi (a := 31) (ci := 9) [.int (0 : Int32), .int (-1 : Int32), .int (-1 : Int32)] [] (pm_d rk_X9_free 4 rfl) ml_X9_41 iv_X9_add rfl rfl rfl rfl rfl (Nat.le_of_ble_eq_true rfl) hM ?_
  show hp_go _ _ _ _ _ 7 _ _ _
  exact hq_iret (pm_d rk_X9_free 5 rfl) rfl h
def l_C_X9_begin_31_7 : Nat → Int32 → Int32 → hp_S → Option hp_S
  | 0, _, _, _ => none
  | n + 1, y1, y2, s =>
    if y1 ≤ y2 then
      pm_bd (f_C_X9_add_31 (2 : Int32) (-1 : Int32) (-1 : Int32) s) (fun x3 t2 =>
      pm_let (hs_pI t2 31 6 x3) (fun t4 =>
      pm_bd (f_C_X9_add_31 (3 : Int32) (-1 : Int32) (-1 : Int32) t4) (fun x6 t5 =>
      pm_let (hs_pI t5 31 7 x6) (fun t7 =>
      some t7))))
    else
      pm_bd (f_C_X9_free_31 s) (fun x9 t8 =>
      pm_let (y2 + (1 : Int32)) (fun x10 =>
      l_C_X9_begin_31_7 n y1 x10 t8))
set_option maxRecDepth 100000 in
set_option maxHeartbeats 400000 in
theorem wl_C_X9_begin_31_7 (d : Nat) (s1 : hp_S)  : ∀ (n : Nat) (y1 : Int32) (y2 : Int32) (s : hp_S), l_C_X9_begin_31_7 n y1 y2 s = some s1 → hp_go sh_C me_X9_begin (d + 2) none s1 7 [(0, .ref 31), (1, .int y1), (2, .int y2)] [] s := by
  intro n
  induction n with
  | zero =>
    intro y1 y2 s h
    cases h
  | succ n ih =>
    intro y1 y2 s h
    rw [l_C_X9_begin_31_7.eq_2] at h
    show hp_go _ _ _ _ _ 7 _ _ _
    refine hq_iload_n (pm_d rk_X9_begin 5 rfl) rfl 2 rfl ?_
    refine hq_iload_n (pm_d rk_X9_begin 6 rfl) rfl 1 rfl ?_
    refine hq_icmp_ge 23 (pm_d rk_X9_begin 7 rfl) (by decide) (fun hc => ?_) (fun hc => ?_)
    · rw [if_pos hc] at h
      refine hq_aload_n (pm_d rk_X9_begin 13 rfl) rfl 0 rfl ?_
      refine hq_aload_n (pm_d rk_X9_begin 14 rfl) rfl 0 rfl ?_
      refine hq_iconst (v := (2 : Int32)) (pm_d rk_X9_begin 15 rfl) (by decide) ?_
      show hp_go _ _ _ _ _ 26 _ _ _
      refine hq_iconst (v := (-1 : Int32)) (pm_d rk_X9_begin 16 rfl) (by decide) ?_
      refine hq_iconst (v := (-1 : Int32)) (pm_d rk_X9_begin 17 rfl) (by decide) ?_
      obtain ⟨x3, t2, hq, h⟩ := pm_bd_i h
      have hM := w_C_X9_add_31 (d := d + 1) (h := hq)
      refine hq_callVi (a := 31) (ci := 9) [.int (2 : Int32), .int (-1 : Int32), .int (-1 : Int32)] [.ref 31] (pm_d rk_X9_begin 18 rfl) ml_X9_41 iv_X9_add rfl rfl rfl rfl rfl (Nat.le_of_ble_eq_true rfl) hM ?_
      refine hq_putI 6 (pm_d rk_X9_begin 19 rfl) fl_X9_31 rfl rfl ?_
      refine pm_nm (G := fun t4 => hp_go sh_C me_X9_begin (d + 2) none s1 34 [(0, .ref 31), (1, .int y1), (2, .int y2)] [] t4) h (fun t4 h => ?_)
      refine hq_aload_n (pm_d rk_X9_begin 20 rfl) rfl 0 rfl ?_
      refine hq_aload_n (pm_d rk_X9_begin 21 rfl) rfl 0 rfl ?_
      show hp_go _ _ _ _ _ 36 _ _ _
      refine hq_iconst (v := (3 : Int32)) (pm_d rk_X9_begin 22 rfl) (by decide) ?_
      refine hq_iconst (v := (-1 : Int32)) (pm_d rk_X9_begin 23 rfl) (by decide) ?_
      refine hq_iconst (v := (-1 : Int32)) (pm_d rk_X9_begin 24 rfl) (by decide) ?_
      obtain ⟨x6, t5, hq, h⟩ := pm_bd_i h
      have hM := w_C_X9_add_31 (d := d + 1) (h := hq)
      refine hq_callVi (a := 31) (ci := 9) [.int (3 : Int32), .int (-1 : Int32), .int (-1 : Int32)] [.ref 31] (pm_d rk_X9_begin 25 rfl) ml_X9_41 iv_X9_add rfl rfl rfl rfl rfl (Nat.le_of_ble_eq_true rfl) hM ?_
      refine hq_putI 7 (pm_d rk_X9_begin 26 rfl) fl_X9_34 rfl rfl ?_
      refine pm_nm (G := fun t7 => hp_go sh_C me_X9_begin (d + 2) none s1 45 [(0, .ref 31), (1, .int y1), (2, .int y2)] [] t7) h (fun t7 h => ?_)
      exact hq_vret (pm_d rk_X9_begin 27 rfl) rfl h
    rw [if_neg hc] at h
    show hp_go _ _ _ _ _ 12 _ _ _
    refine hq_aload_n (pm_d rk_X9_begin 8 rfl) rfl 0 rfl ?_
    obtain ⟨x9, t8, hq, h⟩ := pm_bd_i h
    have hM := w_C_X9_free_31 (d := d + 0) (h := hq)
    refine hq_callVi (a := 31) (ci := 9) [] [] (pm_d rk_X9_begin 9 rfl) ml_X9_37 iv_X9_free rfl rfl rfl rfl rfl (Nat.le_of_ble_eq_true rfl) hM ?_
    refine hq_pop (pm_d rk_X9_begin 10 rfl) rfl ?_
    refine hq_iinc (v := y2 + (1 : Int32)) (L1 := [(2, .int (y2 + (1 : Int32))), (0, .ref 31), (1, .int y1)]) (pm_d rk_X9_begin 11 rfl) 2 rfl (by rw [show Int32.ofInt (1) = (1 : Int32) by decide]) (by decide) rfl ?_
    refine pm_nm (G := fun x10 => hp_go sh_C me_X9_begin (d + 2) none s1 20 [(2, .int x10), (0, .ref 31), (1, .int y1)] [] t8) h (fun x10 h => ?_)
    refine hq_goto 7 (pm_d rk_X9_begin 12 rfl) (by decide) ?_
    refine hq_drop [1, 2, 0] rfl ?_
    exact ih _ _ _ h
def f_C_X9_begin_31 (n : Nat) (a1 : Int32) (s : hp_S) : Option hp_S :=
  pm_let (hs_pI s 31 5 (0 : Int32)) (fun t1 =>
  l_C_X9_begin_31_7 n a1 (0 : Int32) t1)
set_option maxRecDepth 100000 in
set_option maxHeartbeats 400000 in
theorem w_C_X9_begin_31 (d : Nat) (n : Nat) (a1 : Int32) (s s1 : hp_S) (h : f_C_X9_begin_31 n a1 s = some s1) : hp_is sh_C me_X9_begin (d + 2) [.ref 31, .int a1] s none s1 := by
  refine hp_ofF [(0, .ref 31), (1, .int a1)] (by decide +kernel) (Nat.le_of_ble_eq_true rfl) rfl ?_
  unfold f_C_X9_begin_31 at h
  refine hq_aload_n (pm_d rk_X9_begin 0 rfl) rfl 0 rfl ?_
  refine hq_iconst (v := (0 : Int32)) (pm_d rk_X9_begin 1 rfl) (by decide) ?_
  refine hq_putI 5 (pm_d rk_X9_begin 2 rfl) fl_X9_27 rfl rfl ?_
  refine pm_nm (G := fun t1 => hp_go sh_C me_X9_begin (d + 2) none s1 5 [(0, .ref 31), (1, .int a1)] [] t1) h (fun t1 h => ?_)
  refine hq_iconst (v := (0 : Int32)) (pm_d rk_X9_begin 3 rfl) (by decide) ?_
  refine hq_istore_n (L1 := [(2, .int (0 : Int32)), (0, .ref 31), (1, .int a1)]) (pm_d rk_X9_begin 4 rfl) rfl (by decide) rfl ?_
  refine hq_drop [1, 2, 0] rfl ?_
  exact wl_C_X9_begin_31_7 d _   _ _ _ _ h
def f_C_X1_size_26  (s : hp_S) : Option (Int32 × hp_S) :=
  some ((hs_I s 26 6), s)
set_option maxRecDepth 100000 in
set_option maxHeartbeats 400000 in
theorem w_C_X1_size_26 (d : Nat)  (s s1 : hp_S) (x0 : Int32) (h : f_C_X1_size_26 s = some (x0, s1)) : hp_is sh_C me_X1_size (d + 0) [.ref 26] s (some (.int x0)) s1 := by
  refine hp_ofF [(0, .ref 26)] (by decide +kernel) (Nat.le_of_ble_eq_true rfl) rfl ?_
  unfold f_C_X1_size_26 at h
  refine hq_aload_n (pm_d rk_X1_size 0 rfl) rfl 0 rfl ?_
  refine hq_getI 6 (pm_d rk_X1_size 1 rfl) fl_X1_24 rfl rfl ?_
  exact hq_iret (pm_d rk_X1_size 2 rfl) rfl h
def l_C_X9_clearMarks_31_2 : Nat → Int32 → hp_S → Option hp_S
  | 0, _, _ => none
  | n + 1, y1, s =>
    if (hs_I s 31 5) ≤ y1 then
      some s
    else
      if (10002 : Int32) ≤ y1 then
        some s
      else
        pm_gd1 (pm_ib y1 10002) (
        pm_let (hs_pA s 35 y1.toNatClampNeg (0 : Int32)) (fun t1 =>
        pm_let (y1 + (1 : Int32)) (fun x2 =>
        l_C_X9_clearMarks_31_2 n x2 t1)))
set_option maxRecDepth 100000 in
set_option maxHeartbeats 400000 in
theorem wl_C_X9_clearMarks_31_2 (d : Nat) (s1 : hp_S)  : ∀ (n : Nat) (y1 : Int32) (s : hp_S), l_C_X9_clearMarks_31_2 n y1 s = some s1 → hp_go sh_C me_X9_clearMarks (d + 0) none s1 2 [(0, .ref 31), (1, .int y1)] [] s := by
  intro n
  induction n with
  | zero =>
    intro y1 s h
    cases h
  | succ n ih =>
    intro y1 s h
    rw [l_C_X9_clearMarks_31_2.eq_2] at h
    refine hq_iload_n (pm_d rk_X9_clearMarks 2 rfl) rfl 1 rfl ?_
    refine hq_aload_n (pm_d rk_X9_clearMarks 3 rfl) rfl 0 rfl ?_
    refine hq_getI 5 (pm_d rk_X9_clearMarks 4 rfl) fl_X9_27 rfl rfl ?_
    show hp_go _ _ _ _ _ 7 _ _ _
    refine hq_icmp_ge 30 (pm_d rk_X9_clearMarks 5 rfl) (by decide) (fun hc => ?_) (fun hc => ?_)
    · rw [if_pos hc] at h
      exact hq_vret (pm_d rk_X9_clearMarks 16 rfl) rfl h
    rw [if_neg hc] at h
    refine hq_iload_n (pm_d rk_X9_clearMarks 6 rfl) rfl 1 rfl ?_
    refine hq_sipush (v := (10002 : Int32)) (pm_d rk_X9_clearMarks 7 rfl) (by decide) ?_
    refine hq_icmp_ge 30 (pm_d rk_X9_clearMarks 8 rfl) (by decide) (fun hc => ?_) (fun hc => ?_)
    · rw [if_pos hc] at h
      exact hq_vret (pm_d rk_X9_clearMarks 16 rfl) rfl h
    rw [if_neg hc] at h
    show hp_go _ _ _ _ _ 17 _ _ _
    refine hq_aload_n (pm_d rk_X9_clearMarks 9 rfl) rfl 0 rfl ?_
    refine hq_getR (h := 35) 3 (pm_d rk_X9_clearMarks 10 rfl) fl_X9_21 rfl rfl ?_
    refine hq_iload_n (pm_d rk_X9_clearMarks 11 rfl) rfl 1 rfl ?_
    refine hq_iconst (v := (0 : Int32)) (pm_d rk_X9_clearMarks 12 rfl) (by decide) ?_
    obtain ⟨hg, h⟩ := pm_gd_i h
    refine hq_iastore (pm_d rk_X9_clearMarks 13 rfl) rfl hg ?_
    refine pm_nm (G := fun t1 => hp_go sh_C me_X9_clearMarks (d + 0) none s1 24 [(0, .ref 31), (1, .int y1)] [] t1) h (fun t1 h => ?_)
    refine hq_iinc (v := y1 + (1 : Int32)) (L1 := [(1, .int (y1 + (1 : Int32))), (0, .ref 31)]) (pm_d rk_X9_clearMarks 14 rfl) 1 rfl (by rw [show Int32.ofInt (1) = (1 : Int32) by decide]) (by decide) rfl ?_
    refine pm_nm (G := fun x2 => hp_go sh_C me_X9_clearMarks (d + 0) none s1 27 [(1, .int x2), (0, .ref 31)] [] t1) h (fun x2 h => ?_)
    show hp_go _ _ _ _ _ 27 _ _ _
    refine hq_goto 2 (pm_d rk_X9_clearMarks 15 rfl) (by decide) ?_
    refine hq_drop [1, 0] rfl ?_
    exact ih _ _ h
def f_C_X9_clearMarks_31 (n : Nat) (s : hp_S) : Option hp_S :=
  l_C_X9_clearMarks_31_2 n (0 : Int32) s
set_option maxRecDepth 100000 in
set_option maxHeartbeats 400000 in
theorem w_C_X9_clearMarks_31 (d : Nat) (n : Nat) (s s1 : hp_S) (h : f_C_X9_clearMarks_31 n s = some s1) : hp_is sh_C me_X9_clearMarks (d + 0) [.ref 31] s none s1 := by
  refine hp_ofF [(0, .ref 31)] (by decide +kernel) (Nat.le_of_ble_eq_true rfl) rfl ?_
  unfold f_C_X9_clearMarks_31 at h
  refine hq_iconst (v := (0 : Int32)) (pm_d rk_X9_clearMarks 0 rfl) (by decide) ?_
  refine hq_istore_n (L1 := [(1, .int (0 : Int32)), (0, .ref 31)]) (pm_d rk_X9_clearMarks 1 rfl) rfl (by decide) rfl ?_
  refine hq_drop [1, 0] rfl ?_
  exact wl_C_X9_clearMarks_31_2 d _   _ _ _ h
def f_C_X9_hasParts (a0 : Int32) (s : hp_S) : Option (Int32 × hp_S) :=
  if a0 = (4 : Int32) then
    some ((1 : Int32), s)
  else
    if a0 = (5 : Int32) then
      some ((1 : Int32), s)
    else
      some ((0 : Int32), s)
set_option maxRecDepth 100000 in
set_option maxHeartbeats 400000 in
theorem w_C_X9_hasParts (d : Nat) (a0 : Int32) (s s1 : hp_S) (x0 : Int32) (h : f_C_X9_hasParts a0 s = some (x0, s1)) : hp_is sh_C me_X9_hasParts (d + 0) [.int a0] s (some (.int x0)) s1 := by
  refine hp_ofF [(0, .int a0)] (by decide +kernel) (Nat.le_of_ble_eq_true rfl) rfl ?_
  unfold f_C_X9_hasParts at h
  refine hq_iload_n (pm_d rk_X9_hasParts 0 rfl) rfl 0 rfl ?_
  refine hq_iconst (v := (4 : Int32)) (pm_d rk_X9_hasParts 1 rfl) (by decide) ?_
  refine hq_icmp_eq 10 (pm_d rk_X9_hasParts 2 rfl) (by decide) (fun hc => ?_) (fun hc => ?_)
  · rw [if_pos hc] at h
    refine hq_iconst (v := (1 : Int32)) (pm_d rk_X9_hasParts 6 rfl) (by decide) ?_
    refine hq_goto 15 (pm_d rk_X9_hasParts 7 rfl) (by decide) ?_
    show hp_go _ _ _ _ _ 15 _ _ _
    exact hq_zret (pm_d rk_X9_hasParts 9 rfl) rfl rfl h
  rw [if_neg hc] at h
  refine hq_iload_n (pm_d rk_X9_hasParts 3 rfl) rfl 0 rfl ?_
  refine hq_iconst (v := (5 : Int32)) (pm_d rk_X9_hasParts 4 rfl) (by decide) ?_
  refine hq_icmp_ne 14 (pm_d rk_X9_hasParts 5 rfl) (by decide) (fun hc => ?_) (fun hc => ?_)
  · rw [if_neg hc] at h
    refine hq_iconst (v := (0 : Int32)) (pm_d rk_X9_hasParts 8 rfl) (by decide) ?_
    exact hq_zret (pm_d rk_X9_hasParts 9 rfl) rfl rfl h
  rw [if_pos hc] at h
  show hp_go _ _ _ _ _ 10 _ _ _
  refine hq_iconst (v := (1 : Int32)) (pm_d rk_X9_hasParts 6 rfl) (by decide) ?_
  refine hq_goto 15 (pm_d rk_X9_hasParts 7 rfl) (by decide) ?_
  exact hq_zret (pm_d rk_X9_hasParts 9 rfl) rfl rfl h
def f_C_X9_kind_31 (a1 : Int32) (s : hp_S) : Option (Int32 × hp_S) :=
  if a1 < 0 then
    some ((0 : Int32), s)
  else
    if (hs_I s 31 5) ≤ a1 then
      some ((0 : Int32), s)
    else
      pm_gd1 (pm_ib a1 10002) (
      some ((hs_A s 32 a1.toNatClampNeg), s))
set_option maxRecDepth 100000 in
set_option maxHeartbeats 400000 in
theorem w_C_X9_kind_31 (d : Nat) (a1 : Int32) (s s1 : hp_S) (x0 : Int32) (h : f_C_X9_kind_31 a1 s = some (x0, s1)) : hp_is sh_C me_X9_kind (d + 0) [.ref 31, .int a1] s (some (.int x0)) s1 := by
  refine hp_ofF [(0, .ref 31), (1, .int a1)] (by decide +kernel) (Nat.le_of_ble_eq_true rfl) rfl ?_
  unfold f_C_X9_kind_31 at h
  refine hq_iload_n (pm_d rk_X9_kind 0 rfl) rfl 1 rfl ?_
  refine hq_if_lt 21 (pm_d rk_X9_kind 1 rfl) (by decide) (fun hc => ?_) (fun hc => ?_)
  · rw [if_pos hc] at h
    refine hq_iconst (v := (0 : Int32)) (pm_d rk_X9_kind 11 rfl) (by decide) ?_
    exact hq_iret (pm_d rk_X9_kind 12 rfl) rfl h
  rw [if_neg hc] at h
  refine hq_iload_n (pm_d rk_X9_kind 2 rfl) rfl 1 rfl ?_
  show hp_go _ _ _ _ _ 5 _ _ _
  refine hq_aload_n (pm_d rk_X9_kind 3 rfl) rfl 0 rfl ?_
  refine hq_getI 5 (pm_d rk_X9_kind 4 rfl) fl_X9_27 rfl rfl ?_
  refine hq_icmp_ge 21 (pm_d rk_X9_kind 5 rfl) (by decide) (fun hc => ?_) (fun hc => ?_)
  · rw [if_pos hc] at h
    refine hq_iconst (v := (0 : Int32)) (pm_d rk_X9_kind 11 rfl) (by decide) ?_
    exact hq_iret (pm_d rk_X9_kind 12 rfl) rfl h
  rw [if_neg hc] at h
  refine hq_aload_n (pm_d rk_X9_kind 6 rfl) rfl 0 rfl ?_
  show hp_go _ _ _ _ _ 13 _ _ _
  refine hq_getR (h := 32) 0 (pm_d rk_X9_kind 7 rfl) fl_X9_11 rfl rfl ?_
  refine hq_iload_n (pm_d rk_X9_kind 8 rfl) rfl 1 rfl ?_
  obtain ⟨hg, h⟩ := pm_gd_i h
  refine hq_iaload (pm_d rk_X9_kind 9 rfl) rfl hg ?_
  refine hq_goto 22 (pm_d rk_X9_kind 10 rfl) (by decide) ?_
  exact hq_iret (pm_d rk_X9_kind 12 rfl) rfl h
def f_C_X9_left_31 (a1 : Int32) (s : hp_S) : Option (Int32 × hp_S) :=
  if a1 < 0 then
    some ((-1 : Int32), s)
  else
    if (hs_I s 31 5) ≤ a1 then
      some ((-1 : Int32), s)
    else
      pm_gd1 (pm_ib a1 10002) (
      some ((hs_A s 33 a1.toNatClampNeg), s))
set_option maxRecDepth 100000 in
set_option maxHeartbeats 400000 in
theorem w_C_X9_left_31 (d : Nat) (a1 : Int32) (s s1 : hp_S) (x0 : Int32) (h : f_C_X9_left_31 a1 s = some (x0, s1)) : hp_is sh_C me_X9_left (d + 0) [.ref 31, .int a1] s (some (.int x0)) s1 := by
  refine hp_ofF [(0, .ref 31), (1, .int a1)] (by decide +kernel) (Nat.le_of_ble_eq_true rfl) rfl ?_
  unfold f_C_X9_left_31 at h
  refine hq_iload_n (pm_d rk_X9_left 0 rfl) rfl 1 rfl ?_
  refine hq_if_lt 21 (pm_d rk_X9_left 1 rfl) (by decide) (fun hc => ?_) (fun hc => ?_)
  · rw [if_pos hc] at h
    refine hq_iconst (v := (-1 : Int32)) (pm_d rk_X9_left 11 rfl) (by decide) ?_
    exact hq_iret (pm_d rk_X9_left 12 rfl) rfl h
  rw [if_neg hc] at h
  refine hq_iload_n (pm_d rk_X9_left 2 rfl) rfl 1 rfl ?_
  show hp_go _ _ _ _ _ 5 _ _ _
  refine hq_aload_n (pm_d rk_X9_left 3 rfl) rfl 0 rfl ?_
  refine hq_getI 5 (pm_d rk_X9_left 4 rfl) fl_X9_27 rfl rfl ?_
  refine hq_icmp_ge 21 (pm_d rk_X9_left 5 rfl) (by decide) (fun hc => ?_) (fun hc => ?_)
  · rw [if_pos hc] at h
    refine hq_iconst (v := (-1 : Int32)) (pm_d rk_X9_left 11 rfl) (by decide) ?_
    exact hq_iret (pm_d rk_X9_left 12 rfl) rfl h
  rw [if_neg hc] at h
  refine hq_aload_n (pm_d rk_X9_left 6 rfl) rfl 0 rfl ?_
  show hp_go _ _ _ _ _ 13 _ _ _
  refine hq_getR (h := 33) 1 (pm_d rk_X9_left 7 rfl) fl_X9_15 rfl rfl ?_
  refine hq_iload_n (pm_d rk_X9_left 8 rfl) rfl 1 rfl ?_
  obtain ⟨hg, h⟩ := pm_gd_i h
  refine hq_iaload (pm_d rk_X9_left 9 rfl) rfl hg ?_
  refine hq_goto 22 (pm_d rk_X9_left 10 rfl) (by decide) ?_
  exact hq_iret (pm_d rk_X9_left 12 rfl) rfl h
def l_C_X9_rootOf_31_4 : Nat → Int32 → Int32 → hp_S → Option (Int32 × hp_S)
  | 0, _, _, _ => none
  | n + 1, y2, y3, s =>
    if (10002 : Int32) ≤ y3 then
      some (y2, s)
    else
      pm_bd (f_C_X9_kind_31 y2 s) (fun x2 t1 =>
      if x2 = (1 : Int32) then
        pm_bd (f_C_X9_left_31 y2 t1) (fun x4 t3 =>
        pm_bd (f_C_X9_kind_31 x4 t3) (fun x6 t5 =>
        pm_let (fun (z49_3 : Int32) (z49_4 : Int32) (s : hp_S) =>
          pm_let (z49_3 + (1 : Int32)) (fun x7 =>
          l_C_X9_rootOf_31_4 n z49_4 x7 s)) (fun j49 =>
        if x6 = (1 : Int32) then
          pm_bd (f_C_X9_left_31 x4 t5) (fun x9 t8 =>
          pm_gd1 (pm_ib y2 10002) (
          pm_let (hs_pA t8 33 y2.toNatClampNeg x9) (fun t10 =>
          j49 y3 x4 t10)))
        else
          j49 y3 x4 t5)))
      else
        some (y2, t1))
set_option maxRecDepth 100000 in
set_option maxHeartbeats 400000 in
theorem wl_C_X9_rootOf_31_4 (d : Nat) (s1 : hp_S) (x0 : Int32)  : ∀ (n : Nat) (y2 : Int32) (y3 : Int32) (s : hp_S), l_C_X9_rootOf_31_4 n y2 y3 s = some (x0, s1) → hp_go sh_C me_X9_rootOf (d + 1) (some (.int x0)) s1 4 [(0, .ref 31), (2, .int y2), (3, .int y3)] [] s := by
  intro n
  induction n with
  | zero =>
    intro y2 y3 s h
    cases h
  | succ n ih =>
    intro y2 y3 s h
    rw [l_C_X9_rootOf_31_4.eq_2] at h
    refine hq_iload_n (pm_d rk_X9_rootOf 4 rfl) rfl 2 rfl ?_
    show hp_go _ _ _ _ _ 5 _ _ _
    refine hq_sipush (v := (10002 : Int32)) (pm_d rk_X9_rootOf 5 rfl) (by decide) ?_
    refine hq_icmp_ge 58 (pm_d rk_X9_rootOf 6 rfl) (by decide) (fun hc => ?_) (fun hc => ?_)
    · rw [if_pos hc] at h
      refine hq_iload_n (pm_d rk_X9_rootOf 32 rfl) rfl 1 rfl ?_
      exact hq_iret (pm_d rk_X9_rootOf 33 rfl) rfl h
    rw [if_neg hc] at h
    refine hq_aload_n (pm_d rk_X9_rootOf 7 rfl) rfl 0 rfl ?_
    refine hq_iload_n (pm_d rk_X9_rootOf 8 rfl) rfl 1 rfl ?_
    show hp_go _ _ _ _ _ 13 _ _ _
    obtain ⟨x2, t1, hq, h⟩ := pm_bd_i h
    have hM := w_C_X9_kind_31 (d := d + 0) (h := hq)
    refine hq_callVi (a := 31) (ci := 9) [.int y2] [] (pm_d rk_X9_rootOf 9 rfl) ml_X9_52 iv_X9_kind rfl rfl rfl rfl rfl (Nat.le_of_ble_eq_true rfl) hM ?_
    refine hq_iconst (v := (1 : Int32)) (pm_d rk_X9_rootOf 10 rfl) (by decide) ?_
    refine hq_icmp_ne 58 (pm_d rk_X9_rootOf 11 rfl) (by decide) (fun hc => ?_) (fun hc => ?_)
    · rw [if_neg hc] at h
      refine hq_iload_n (pm_d rk_X9_rootOf 32 rfl) rfl 1 rfl ?_
      exact hq_iret (pm_d rk_X9_rootOf 33 rfl) rfl h
    rw [if_pos hc] at h
    refine hq_aload_n (pm_d rk_X9_rootOf 12 rfl) rfl 0 rfl ?_
    show hp_go _ _ _ _ _ 21 _ _ _
    refine hq_iload_n (pm_d rk_X9_rootOf 13 rfl) rfl 1 rfl ?_
    obtain ⟨x4, t3, hq, h⟩ := pm_bd_i h
    have hM := w_C_X9_left_31 (d := d + 0) (h := hq)
    refine hq_callVi (a := 31) (ci := 9) [.int y2] [] (pm_d rk_X9_rootOf 14 rfl) ml_X9_56 iv_X9_left rfl rfl rfl rfl rfl (Nat.le_of_ble_eq_true rfl) hM ?_
    refine hq_istore (L1 := [(4, .int x4), (0, .ref 31), (2, .int y2), (3, .int y3)]) (pm_d rk_X9_rootOf 15 rfl) (by decide) rfl ?_
    refine hq_aload_n (pm_d rk_X9_rootOf 16 rfl) rfl 1 rfl ?_
    refine hq_iload (pm_d rk_X9_rootOf 17 rfl) 0 rfl ?_
    obtain ⟨x6, t5, hq, h⟩ := pm_bd_i h
    have hM := w_C_X9_kind_31 (d := d + 0) (h := hq)
    refine hq_callVi (a := 31) (ci := 9) [.int x4] [] (pm_d rk_X9_rootOf 18 rfl) ml_X9_52 iv_X9_kind rfl rfl rfl rfl rfl (Nat.le_of_ble_eq_true rfl) hM ?_
    show hp_go _ _ _ _ _ 33 _ _ _
    refine hq_iconst (v := (1 : Int32)) (pm_d rk_X9_rootOf 19 rfl) (by decide) ?_
    refine pm_jn (P := fun j49 => ∀ (z49_3 : Int32) (z49_4 : Int32) (s : hp_S), j49 z49_3 z49_4 s = some (x0, s1) → hp_go sh_C me_X9_rootOf (d + 1) (some (.int x0)) s1 49 [(0, .ref 31), (3, .int z49_3), (4, .int z49_4)] [] s) h ?_ (fun j49 hj49 h => ?_)
    · intro z49_3 z49_4 s h
      dsimp only at h
      refine hq_iload (pm_d rk_X9_rootOf 28 rfl) 2 rfl ?_
      refine hq_istore_n (L1 := [(2, .int z49_4), (0, .ref 31), (3, .int z49_3), (4, .int z49_4)]) (pm_d rk_X9_rootOf 29 rfl) rfl (by decide) rfl ?_
      refine hq_iinc (v := z49_3 + (1 : Int32)) (L1 := [(3, .int (z49_3 + (1 : Int32))), (2, .int z49_4), (0, .ref 31), (4, .int z49_4)]) (pm_d rk_X9_rootOf 30 rfl) 2 rfl (by rw [show Int32.ofInt (1) = (1 : Int32) by decide]) (by decide) rfl ?_
      refine pm_nm (G := fun x7 => hp_go sh_C me_X9_rootOf (d + 1) (some (.int x0)) s1 55 [(3, .int x7), (2, .int z49_4), (0, .ref 31), (4, .int z49_4)] [] s) h (fun x7 h => ?_)
      refine hq_goto 4 (pm_d rk_X9_rootOf 31 rfl) (by decide) ?_
      refine hq_drop [2, 1, 0] rfl ?_
      exact ih _ _ _ h
    refine hq_icmp_ne 49 (pm_d rk_X9_rootOf 20 rfl) (by decide) (fun hc => ?_) (fun hc => ?_)
    · rw [if_neg hc] at h
      refine hq_drop [1, 3, 0] rfl ?_
      exact hj49 _ _ _ h
    rw [if_pos hc] at h
    show hp_go _ _ _ _ _ 37 _ _ _
    refine hq_aload_n (pm_d rk_X9_rootOf 21 rfl) rfl 1 rfl ?_
    refine hq_getR (h := 33) 1 (pm_d rk_X9_rootOf 22 rfl) fl_X9_15 rfl rfl ?_
    refine hq_iload_n (pm_d rk_X9_rootOf 23 rfl) rfl 2 rfl ?_
    refine hq_aload_n (pm_d rk_X9_rootOf 24 rfl) rfl 1 rfl ?_
    refine hq_iload (pm_d rk_X9_rootOf 25 rfl) 0 rfl ?_
    obtain ⟨x9, t8, hq, h⟩ := pm_bd_i h
    have hM := w_C_X9_left_31 (d := d + 0) (h := hq)
    refine hq_callVi (a := 31) (ci := 9) [.int x4] [.int y2, .ref 33] (pm_d rk_X9_rootOf 26 rfl) ml_X9_56 iv_X9_left rfl rfl rfl rfl rfl (Nat.le_of_ble_eq_true rfl) hM ?_
    show hp_go _ _ _ _ _ 48 _ _ _
    obtain ⟨hg, h⟩ := pm_gd_i h
    refine hq_iastore (pm_d rk_X9_rootOf 27 rfl) rfl hg ?_
    refine pm_nm (G := fun t10 => hp_go sh_C me_X9_rootOf (d + 1) (some (.int x0)) s1 49 [(4, .int x4), (0, .ref 31), (2, .int y2), (3, .int y3)] [] t10) h (fun t10 h => ?_)
    refine hq_drop [1, 3, 0] rfl ?_
    exact hj49 _ _ _ h
def f_C_X9_rootOf_31 (n : Nat) (a1 : Int32) (s : hp_S) : Option (Int32 × hp_S) :=
  l_C_X9_rootOf_31_4 n a1 (0 : Int32) s
set_option maxRecDepth 100000 in
set_option maxHeartbeats 400000 in
theorem w_C_X9_rootOf_31 (d : Nat) (n : Nat) (a1 : Int32) (s s1 : hp_S) (x0 : Int32) (h : f_C_X9_rootOf_31 n a1 s = some (x0, s1)) : hp_is sh_C me_X9_rootOf (d + 1) [.ref 31, .int a1] s (some (.int x0)) s1 := by
  refine hp_ofF [(0, .ref 31), (1, .int a1)] (by decide +kernel) (Nat.le_of_ble_eq_true rfl) rfl ?_
  unfold f_C_X9_rootOf_31 at h
  refine hq_iload_n (pm_d rk_X9_rootOf 0 rfl) rfl 1 rfl ?_
  refine hq_istore_n (L1 := [(2, .int a1), (0, .ref 31), (1, .int a1)]) (pm_d rk_X9_rootOf 1 rfl) rfl (by decide) rfl ?_
  refine hq_iconst (v := (0 : Int32)) (pm_d rk_X9_rootOf 2 rfl) (by decide) ?_
  refine hq_istore_n (L1 := [(3, .int (0 : Int32)), (2, .int a1), (0, .ref 31), (1, .int a1)]) (pm_d rk_X9_rootOf 3 rfl) rfl (by decide) rfl ?_
  refine hq_drop [2, 1, 0] rfl ?_
  exact wl_C_X9_rootOf_31_4 d _ _   _ _ _ _ h
def f_C_X9_mark_31 (a1 : Int32) (s : hp_S) : Option (Int32 × hp_S) :=
  if a1 < 0 then
    some ((0 : Int32), s)
  else
    if (hs_I s 31 5) ≤ a1 then
      some ((0 : Int32), s)
    else
      pm_gd1 (pm_ib a1 10002) (
      some ((hs_A s 35 a1.toNatClampNeg), s))
set_option maxRecDepth 100000 in
set_option maxHeartbeats 400000 in
theorem w_C_X9_mark_31 (d : Nat) (a1 : Int32) (s s1 : hp_S) (x0 : Int32) (h : f_C_X9_mark_31 a1 s = some (x0, s1)) : hp_is sh_C me_X9_mark (d + 0) [.ref 31, .int a1] s (some (.int x0)) s1 := by
  refine hp_ofF [(0, .ref 31), (1, .int a1)] (by decide +kernel) (Nat.le_of_ble_eq_true rfl) rfl ?_
  unfold f_C_X9_mark_31 at h
  refine hq_iload_n (pm_d rk_X9_mark 0 rfl) rfl 1 rfl ?_
  refine hq_if_lt 21 (pm_d rk_X9_mark 1 rfl) (by decide) (fun hc => ?_) (fun hc => ?_)
  · rw [if_pos hc] at h
    refine hq_iconst (v := (0 : Int32)) (pm_d rk_X9_mark 11 rfl) (by decide) ?_
    exact hq_iret (pm_d rk_X9_mark 12 rfl) rfl h
  rw [if_neg hc] at h
  refine hq_iload_n (pm_d rk_X9_mark 2 rfl) rfl 1 rfl ?_
  show hp_go _ _ _ _ _ 5 _ _ _
  refine hq_aload_n (pm_d rk_X9_mark 3 rfl) rfl 0 rfl ?_
  refine hq_getI 5 (pm_d rk_X9_mark 4 rfl) fl_X9_27 rfl rfl ?_
  refine hq_icmp_ge 21 (pm_d rk_X9_mark 5 rfl) (by decide) (fun hc => ?_) (fun hc => ?_)
  · rw [if_pos hc] at h
    refine hq_iconst (v := (0 : Int32)) (pm_d rk_X9_mark 11 rfl) (by decide) ?_
    exact hq_iret (pm_d rk_X9_mark 12 rfl) rfl h
  rw [if_neg hc] at h
  refine hq_aload_n (pm_d rk_X9_mark 6 rfl) rfl 0 rfl ?_
  show hp_go _ _ _ _ _ 13 _ _ _
  refine hq_getR (h := 35) 3 (pm_d rk_X9_mark 7 rfl) fl_X9_21 rfl rfl ?_
  refine hq_iload_n (pm_d rk_X9_mark 8 rfl) rfl 1 rfl ?_
  obtain ⟨hg, h⟩ := pm_gd_i h
  refine hq_iaload (pm_d rk_X9_mark 9 rfl) rfl hg ?_
  refine hq_goto 22 (pm_d rk_X9_mark 10 rfl) (by decide) ?_
  exact hq_iret (pm_d rk_X9_mark 12 rfl) rfl h
def f_C_X9_setMark_31 (a1 : Int32) (a2 : Int32) (s : hp_S) : Option hp_S :=
  if a1 < 0 then
    some s
  else
    if (hs_I s 31 5) ≤ a1 then
      some s
    else
      pm_gd1 (pm_ib a1 10002) (
      pm_let (hs_pA s 35 a1.toNatClampNeg a2) (fun t1 =>
      some t1))
set_option maxRecDepth 100000 in
set_option maxHeartbeats 400000 in
theorem w_C_X9_setMark_31 (d : Nat) (a1 : Int32) (a2 : Int32) (s s1 : hp_S) (h : f_C_X9_setMark_31 a1 a2 s = some s1) : hp_is sh_C me_X9_setMark (d + 0) [.ref 31, .int a1, .int a2] s none s1 := by
  refine hp_ofF [(0, .ref 31), (1, .int a1), (2, .int a2)] (by decide +kernel) (Nat.le_of_ble_eq_true rfl) rfl ?_
  unfold f_C_X9_setMark_31 at h
  refine hq_iload_n (pm_d rk_X9_setMark 0 rfl) rfl 1 rfl ?_
  refine hq_if_lt 19 (pm_d rk_X9_setMark 1 rfl) (by decide) (fun hc => ?_) (fun hc => ?_)
  · rw [if_pos hc] at h
    exact hq_vret (pm_d rk_X9_setMark 11 rfl) rfl h
  rw [if_neg hc] at h
  refine hq_iload_n (pm_d rk_X9_setMark 2 rfl) rfl 1 rfl ?_
  refine hq_aload_n (pm_d rk_X9_setMark 3 rfl) rfl 0 rfl ?_
  show hp_go _ _ _ _ _ 6 _ _ _
  refine hq_getI 5 (pm_d rk_X9_setMark 4 rfl) fl_X9_27 rfl rfl ?_
  refine hq_icmp_ge 19 (pm_d rk_X9_setMark 5 rfl) (by decide) (fun hc => ?_) (fun hc => ?_)
  · rw [if_pos hc] at h
    exact hq_vret (pm_d rk_X9_setMark 11 rfl) rfl h
  rw [if_neg hc] at h
  refine hq_aload_n (pm_d rk_X9_setMark 6 rfl) rfl 0 rfl ?_
  refine hq_getR (h := 35) 3 (pm_d rk_X9_setMark 7 rfl) fl_X9_21 rfl rfl ?_
  refine hq_iload_n (pm_d rk_X9_setMark 8 rfl) rfl 1 rfl ?_
  show hp_go _ _ _ _ _ 17 _ _ _
  refine hq_iload_n (pm_d rk_X9_setMark 9 rfl) rfl 2 rfl ?_
  obtain ⟨hg, h⟩ := pm_gd_i h
  refine hq_iastore (pm_d rk_X9_setMark 10 rfl) rfl hg ?_
  refine pm_nm (G := fun t1 => hp_go sh_C me_X9_setMark (d + 0) none s1 19 [(0, .ref 31), (1, .int a1), (2, .int a2)] [] t1) h (fun t1 h => ?_)
  exact hq_vret (pm_d rk_X9_setMark 11 rfl) rfl h
def l_C_X9_countUses_31_8 : Nat → Int32 → Int32 → hp_S → Option (Int32 × hp_S)
  | 0, _, _, _ => none
  | n + 1, y1, y2, s =>
    if (hs_I s 31 5) ≤ y2 then
      some (y1, s)
    else
      if (10002 : Int32) ≤ y2 then
        some (y1, s)
      else
        pm_gd1 (pm_ib y2 10002) (
        pm_bd (f_C_X9_hasParts (hs_A s 32 y2.toNatClampNeg) s) (fun x3 t2 =>
        pm_let (fun (z87_1 : Int32) (z87_2 : Int32) (s : hp_S) =>
          pm_let (z87_2 + (1 : Int32)) (fun x4 =>
          l_C_X9_countUses_31_8 n z87_1 x4 s)) (fun j87 =>
        if x3 = 0 then
          j87 y1 y2 t2
        else
          pm_let (y1 + (1 : Int32)) (fun x5 =>
          pm_gd1 (pm_ib y2 10002) (
          pm_bd (f_C_X9_rootOf_31 n (hs_A t2 33 y2.toNatClampNeg) t2) (fun x7 t6 =>
          pm_bd (f_C_X9_mark_31 x7 t6) (fun x9 t8 =>
          pm_b1 (f_C_X9_setMark_31 x7 (x9 + (1 : Int32)) t8) (fun t10 =>
          pm_gd1 (pm_ib y2 10002) (
          pm_bd (f_C_X9_rootOf_31 n (hs_A t10 34 y2.toNatClampNeg) t10) (fun x12 t11 =>
          pm_bd (f_C_X9_mark_31 x12 t11) (fun x14 t13 =>
          pm_b1 (f_C_X9_setMark_31 x12 (x14 + (1 : Int32)) t13) (fun t15 =>
          j87 x5 y2 t15))))))))))))
set_option maxRecDepth 100000 in
set_option maxHeartbeats 400000 in
theorem wl_C_X9_countUses_31_8 (d : Nat) (s1 : hp_S) (x0 : Int32)  : ∀ (n : Nat) (y1 : Int32) (y2 : Int32) (s : hp_S), l_C_X9_countUses_31_8 n y1 y2 s = some (x0, s1) → hp_go sh_C me_X9_countUses (d + 2) (some (.int x0)) s1 8 [(0, .ref 31), (1, .int y1), (2, .int y2)] [] s := by
  intro n
  induction n with
  | zero =>
    intro y1 y2 s h
    cases h
  | succ n ih =>
    intro y1 y2 s h
    rw [l_C_X9_countUses_31_8.eq_2] at h
    refine hq_iload_n (pm_d rk_X9_countUses 6 rfl) rfl 2 rfl ?_
    refine hq_aload_n (pm_d rk_X9_countUses 7 rfl) rfl 0 rfl ?_
    refine hq_getI 5 (pm_d rk_X9_countUses 8 rfl) fl_X9_27 rfl rfl ?_
    refine hq_icmp_ge 93 (pm_d rk_X9_countUses 9 rfl) (by decide) (fun hc => ?_) (fun hc => ?_)
    · rw [if_pos hc] at h
      refine hq_iload_n (pm_d rk_X9_countUses 52 rfl) rfl 1 rfl ?_
      show hp_go _ _ _ _ _ 94 _ _ _
      exact hq_iret (pm_d rk_X9_countUses 53 rfl) rfl h
    rw [if_neg hc] at h
    refine hq_iload_n (pm_d rk_X9_countUses 10 rfl) rfl 2 rfl ?_
    refine hq_sipush (v := (10002 : Int32)) (pm_d rk_X9_countUses 11 rfl) (by decide) ?_
    refine hq_icmp_ge 93 (pm_d rk_X9_countUses 12 rfl) (by decide) (fun hc => ?_) (fun hc => ?_)
    · rw [if_pos hc] at h
      refine hq_iload_n (pm_d rk_X9_countUses 52 rfl) rfl 1 rfl ?_
      exact hq_iret (pm_d rk_X9_countUses 53 rfl) rfl h
    rw [if_neg hc] at h
    show hp_go _ _ _ _ _ 23 _ _ _
    refine hq_aload_n (pm_d rk_X9_countUses 13 rfl) rfl 0 rfl ?_
    refine hq_getR (h := 32) 0 (pm_d rk_X9_countUses 14 rfl) fl_X9_11 rfl rfl ?_
    refine hq_iload_n (pm_d rk_X9_countUses 15 rfl) rfl 2 rfl ?_
    obtain ⟨hg, h⟩ := pm_gd_i h
    refine hq_iaload (pm_d rk_X9_countUses 16 rfl) rfl hg ?_
    obtain ⟨x3, t2, hq, h⟩ := pm_bd_i h
    have hM := w_C_X9_hasParts (d := d + 1) (h := hq)
    refine hq_callSi [.int (hs_A s 32 y2.toNatClampNeg)] [] (pm_d rk_X9_countUses 17 rfl) ml_X9_76 iv_X9_hasParts rfl rfl (Nat.le_of_ble_eq_true rfl) hM ?_
    refine pm_jn (P := fun j87 => ∀ (z87_1 : Int32) (z87_2 : Int32) (s : hp_S), j87 z87_1 z87_2 s = some (x0, s1) → hp_go sh_C me_X9_countUses (d + 2) (some (.int x0)) s1 87 [(0, .ref 31), (1, .int z87_1), (2, .int z87_2)] [] s) h ?_ (fun j87 hj87 h => ?_)
    · intro z87_1 z87_2 s h
      dsimp only at h
      refine hq_iinc (v := z87_2 + (1 : Int32)) (L1 := [(2, .int (z87_2 + (1 : Int32))), (0, .ref 31), (1, .int z87_1)]) (pm_d rk_X9_countUses 50 rfl) 2 rfl (by rw [show Int32.ofInt (1) = (1 : Int32) by decide]) (by decide) rfl ?_
      refine pm_nm (G := fun x4 => hp_go sh_C me_X9_countUses (d + 2) (some (.int x0)) s1 90 [(2, .int x4), (0, .ref 31), (1, .int z87_1)] [] s) h (fun x4 h => ?_)
      show hp_go _ _ _ _ _ 90 _ _ _
      refine hq_goto 8 (pm_d rk_X9_countUses 51 rfl) (by decide) ?_
      refine hq_drop [1, 2, 0] rfl ?_
      exact ih _ _ _ h
    refine hq_if_eq 87 (pm_d rk_X9_countUses 18 rfl) (by decide) (fun hc => ?_) (fun hc => ?_)
    · rw [if_pos hc] at h
      refine hq_drop [0, 1, 2] rfl ?_
      exact hj87 _ _ _ h
    rw [if_neg hc] at h
    refine hq_iinc (v := y1 + (1 : Int32)) (L1 := [(1, .int (y1 + (1 : Int32))), (0, .ref 31), (2, .int y2)]) (pm_d rk_X9_countUses 19 rfl) 1 rfl (by rw [show Int32.ofInt (1) = (1 : Int32) by decide]) (by decide) rfl ?_
    refine pm_nm (G := fun x5 => hp_go sh_C me_X9_countUses (d + 2) (some (.int x0)) s1 38 [(1, .int x5), (0, .ref 31), (2, .int y2)] [] t2) h (fun x5 h => ?_)
    refine hq_aload_n (pm_d rk_X9_countUses 20 rfl) rfl 1 rfl ?_
    refine hq_aload_n (pm_d rk_X9_countUses 21 rfl) rfl 1 rfl ?_
    refine hq_getR (h := 33) 1 (pm_d rk_X9_countUses 22 rfl) fl_X9_15 rfl rfl ?_
    show hp_go _ _ _ _ _ 43 _ _ _
    refine hq_iload_n (pm_d rk_X9_countUses 23 rfl) rfl 2 rfl ?_
    obtain ⟨hg, h⟩ := pm_gd_i h
    refine hq_iaload (pm_d rk_X9_countUses 24 rfl) rfl hg ?_
    obtain ⟨x7, t6, hq, h⟩ := pm_bd_i h
    have hM := w_C_X9_rootOf_31 (d := d + 0) (h := hq)
    refine hq_callVi (a := 31) (ci := 9) [.int (hs_A t2 33 y2.toNatClampNeg)] [] (pm_d rk_X9_countUses 25 rfl) ml_X9_63 iv_X9_rootOf rfl rfl rfl rfl rfl (Nat.le_of_ble_eq_true rfl) hM ?_
    refine hq_istore_n (L1 := [(3, .int x7), (1, .int x5), (0, .ref 31), (2, .int y2)]) (pm_d rk_X9_countUses 26 rfl) rfl (by decide) rfl ?_
    refine hq_aload_n (pm_d rk_X9_countUses 27 rfl) rfl 2 rfl ?_
    refine hq_iload_n (pm_d rk_X9_countUses 28 rfl) rfl 0 rfl ?_
    show hp_go _ _ _ _ _ 51 _ _ _
    refine hq_aload_n (pm_d rk_X9_countUses 29 rfl) rfl 2 rfl ?_
    refine hq_iload_n (pm_d rk_X9_countUses 30 rfl) rfl 0 rfl ?_
    obtain ⟨x9, t8, hq, h⟩ := pm_bd_i h
    have hM := w_C_X9_mark_31 (d := d + 1) (h := hq)
    refine hq_callVi (a := 31) (ci := 9) [.int x7] [.int x7, .ref 31] (pm_d rk_X9_countUses 31 rfl) ml_X9_89 iv_X9_mark rfl rfl rfl rfl rfl (Nat.le_of_ble_eq_true rfl) hM ?_
    refine hq_iconst (v := (1 : Int32)) (pm_d rk_X9_countUses 32 rfl) (by decide) ?_
    refine hq_iadd (pm_d rk_X9_countUses 33 rfl) ?_
    obtain ⟨t10, hq, h⟩ := pm_b1_i h
    have hM := w_C_X9_setMark_31 (d := d + 1) (h := hq)
    refine hq_callVv (a := 31) (ci := 9) [.int x7, .int (x9 + (1 : Int32))] [] (pm_d rk_X9_countUses 34 rfl) ml_X9_92 iv_X9_setMark rfl rfl rfl rfl rfl (Nat.le_of_ble_eq_true rfl) hM ?_
    show hp_go _ _ _ _ _ 61 _ _ _
    refine hq_aload_n (pm_d rk_X9_countUses 35 rfl) rfl 2 rfl ?_
    refine hq_aload_n (pm_d rk_X9_countUses 36 rfl) rfl 2 rfl ?_
    refine hq_getR (h := 34) 2 (pm_d rk_X9_countUses 37 rfl) fl_X9_18 rfl rfl ?_
    refine hq_iload_n (pm_d rk_X9_countUses 38 rfl) rfl 3 rfl ?_
    obtain ⟨hg, h⟩ := pm_gd_i h
    refine hq_iaload (pm_d rk_X9_countUses 39 rfl) rfl hg ?_
    obtain ⟨x12, t11, hq, h⟩ := pm_bd_i h
    have hM := w_C_X9_rootOf_31 (d := d + 0) (h := hq)
    refine hq_callVi (a := 31) (ci := 9) [.int (hs_A t10 34 y2.toNatClampNeg)] [] (pm_d rk_X9_countUses 40 rfl) ml_X9_63 iv_X9_rootOf rfl rfl rfl rfl rfl (Nat.le_of_ble_eq_true rfl) hM ?_
    show hp_go _ _ _ _ _ 71 _ _ _
    refine hq_istore (L1 := [(4, .int x12), (3, .int x7), (1, .int x5), (0, .ref 31), (2, .int y2)]) (pm_d rk_X9_countUses 41 rfl) (by decide) rfl ?_
    refine hq_aload_n (pm_d rk_X9_countUses 42 rfl) rfl 3 rfl ?_
    refine hq_iload (pm_d rk_X9_countUses 43 rfl) 0 rfl ?_
    refine hq_aload_n (pm_d rk_X9_countUses 44 rfl) rfl 3 rfl ?_
    refine hq_iload (pm_d rk_X9_countUses 45 rfl) 0 rfl ?_
    obtain ⟨x14, t13, hq, h⟩ := pm_bd_i h
    have hM := w_C_X9_mark_31 (d := d + 1) (h := hq)
    refine hq_callVi (a := 31) (ci := 9) [.int x12] [.int x12, .ref 31] (pm_d rk_X9_countUses 46 rfl) ml_X9_89 iv_X9_mark rfl rfl rfl rfl rfl (Nat.le_of_ble_eq_true rfl) hM ?_
    show hp_go _ _ _ _ _ 82 _ _ _
    refine hq_iconst (v := (1 : Int32)) (pm_d rk_X9_countUses 47 rfl) (by decide) ?_
    refine hq_iadd (pm_d rk_X9_countUses 48 rfl) ?_
    obtain ⟨t15, hq, h⟩ := pm_b1_i h
    have hM := w_C_X9_setMark_31 (d := d + 1) (h := hq)
    refine hq_callVv (a := 31) (ci := 9) [.int x12, .int (x14 + (1 : Int32))] [] (pm_d rk_X9_countUses 49 rfl) ml_X9_92 iv_X9_setMark rfl rfl rfl rfl rfl (Nat.le_of_ble_eq_true rfl) hM ?_
    refine hq_drop [3, 2, 4] rfl ?_
    exact hj87 _ _ _ h
def f_C_X9_countUses_31 (n : Nat) (s : hp_S) : Option (Int32 × hp_S) :=
  pm_b1 (f_C_X9_clearMarks_31 n s) (fun t1 =>
  l_C_X9_countUses_31_8 n (0 : Int32) (0 : Int32) t1)
set_option maxRecDepth 100000 in
set_option maxHeartbeats 400000 in
theorem w_C_X9_countUses_31 (d : Nat) (n : Nat) (s s1 : hp_S) (x0 : Int32) (h : f_C_X9_countUses_31 n s = some (x0, s1)) : hp_is sh_C me_X9_countUses (d + 2) [.ref 31] s (some (.int x0)) s1 := by
  refine hp_ofF [(0, .ref 31)] (by decide +kernel) (Nat.le_of_ble_eq_true rfl) rfl ?_
  unfold f_C_X9_countUses_31 at h
  refine hq_aload_n (pm_d rk_X9_countUses 0 rfl) rfl 0 rfl ?_
  obtain ⟨t1, hq, h⟩ := pm_b1_i h
  have hM := w_C_X9_clearMarks_31 (d := d + 1) (h := hq)
  refine hq_callVv (a := 31) (ci := 9) [] [] (pm_d rk_X9_countUses 1 rfl) ml_X9_86 iv_X9_clearMarks rfl rfl rfl rfl rfl (Nat.le_of_ble_eq_true rfl) hM ?_
  refine hq_iconst (v := (0 : Int32)) (pm_d rk_X9_countUses 2 rfl) (by decide) ?_
  refine hq_istore_n (L1 := [(1, .int (0 : Int32)), (0, .ref 31)]) (pm_d rk_X9_countUses 3 rfl) rfl (by decide) rfl ?_
  refine hq_iconst (v := (0 : Int32)) (pm_d rk_X9_countUses 4 rfl) (by decide) ?_
  show hp_go _ _ _ _ _ 7 _ _ _
  refine hq_istore_n (L1 := [(2, .int (0 : Int32)), (1, .int (0 : Int32)), (0, .ref 31)]) (pm_d rk_X9_countUses 5 rfl) rfl (by decide) rfl ?_
  refine hq_drop [2, 1, 0] rfl ?_
  exact wl_C_X9_countUses_31_8 d _ _   _ _ _ _ h
def f_C_X9_loseUse_31 (a1 : Int32) (a2 : Int32) (s : hp_S) : Option (Int32 × hp_S) :=
  pm_bd (f_C_X9_mark_31 a1 s) (fun x2 t1 =>
  pm_b1 (f_C_X9_setMark_31 a1 (x2 - (1 : Int32)) t1) (fun t3 =>
  pm_bd (f_C_X9_kind_31 a1 t3) (fun x5 t4 =>
  pm_bd (f_C_X9_hasParts x5 t4) (fun x7 t6 =>
  if x7 = 0 then
    some (a2, t6)
  else
    pm_bd (f_C_X9_mark_31 a1 t6) (fun x9 t8 =>
    if x9 = 0 then
      if a2 < (10002 : Int32) then
        pm_gd1 (pm_ib a2 10002) (
        pm_let (hs_pA t8 36 a2.toNatClampNeg a1) (fun t10 =>
        some ((a2 + (1 : Int32)), t10)))
      else
        some (a2, t8)
    else
      some (a2, t8))))))
set_option maxRecDepth 100000 in
set_option maxHeartbeats 400000 in
theorem w_C_X9_loseUse_31 (d : Nat) (a1 : Int32) (a2 : Int32) (s s1 : hp_S) (x0 : Int32) (h : f_C_X9_loseUse_31 a1 a2 s = some (x0, s1)) : hp_is sh_C me_X9_loseUse (d + 1) [.ref 31, .int a1, .int a2] s (some (.int x0)) s1 := by
  refine hp_ofF [(0, .ref 31), (1, .int a1), (2, .int a2)] (by decide +kernel) (Nat.le_of_ble_eq_true rfl) rfl ?_
  unfold f_C_X9_loseUse_31 at h
  refine hq_aload_n (pm_d rk_X9_loseUse 0 rfl) rfl 0 rfl ?_
  refine hq_iload_n (pm_d rk_X9_loseUse 1 rfl) rfl 1 rfl ?_
  refine hq_aload_n (pm_d rk_X9_loseUse 2 rfl) rfl 0 rfl ?_
  refine hq_iload_n (pm_d rk_X9_loseUse 3 rfl) rfl 1 rfl ?_
  obtain ⟨x2, t1, hq, h⟩ := pm_bd_i h
  have hM := w_C_X9_mark_31 (d := d + 0) (h := hq)
  refine hq_callVi (a := 31) (ci := 9) [.int a1] [.int a1, .ref 31] (pm_d rk_X9_loseUse 4 rfl) ml_X9_89 iv_X9_mark rfl rfl rfl rfl rfl (Nat.le_of_ble_eq_true rfl) hM ?_
  show hp_go _ _ _ _ _ 7 _ _ _
  refine hq_iconst (v := (1 : Int32)) (pm_d rk_X9_loseUse 5 rfl) (by decide) ?_
  refine hq_isub (pm_d rk_X9_loseUse 6 rfl) ?_
  obtain ⟨t3, hq, h⟩ := pm_b1_i h
  have hM := w_C_X9_setMark_31 (d := d + 0) (h := hq)
  refine hq_callVv (a := 31) (ci := 9) [.int a1, .int (x2 - (1 : Int32))] [] (pm_d rk_X9_loseUse 7 rfl) ml_X9_92 iv_X9_setMark rfl rfl rfl rfl rfl (Nat.le_of_ble_eq_true rfl) hM ?_
  refine hq_aload_n (pm_d rk_X9_loseUse 8 rfl) rfl 0 rfl ?_
  refine hq_iload_n (pm_d rk_X9_loseUse 9 rfl) rfl 1 rfl ?_
  obtain ⟨x5, t4, hq, h⟩ := pm_bd_i h
  have hM := w_C_X9_kind_31 (d := d + 0) (h := hq)
  refine hq_callVi (a := 31) (ci := 9) [.int a1] [] (pm_d rk_X9_loseUse 10 rfl) ml_X9_52 iv_X9_kind rfl rfl rfl rfl rfl (Nat.le_of_ble_eq_true rfl) hM ?_
  show hp_go _ _ _ _ _ 17 _ _ _
  obtain ⟨x7, t6, hq, h⟩ := pm_bd_i h
  have hM := w_C_X9_hasParts (d := d + 0) (h := hq)
  refine hq_callSi [.int x5] [] (pm_d rk_X9_loseUse 11 rfl) ml_X9_76 iv_X9_hasParts rfl rfl (Nat.le_of_ble_eq_true rfl) hM ?_
  refine hq_if_eq 38 (pm_d rk_X9_loseUse 12 rfl) (by decide) (fun hc => ?_) (fun hc => ?_)
  · rw [if_pos hc] at h
    refine hq_iload_n (pm_d rk_X9_loseUse 20 rfl) rfl 2 rfl ?_
    exact hq_iret (pm_d rk_X9_loseUse 21 rfl) rfl h
  rw [if_neg hc] at h
  refine hq_aload_n (pm_d rk_X9_loseUse 13 rfl) rfl 0 rfl ?_
  refine hq_iload_n (pm_d rk_X9_loseUse 14 rfl) rfl 1 rfl ?_
  show hp_go _ _ _ _ _ 25 _ _ _
  obtain ⟨x9, t8, hq, h⟩ := pm_bd_i h
  have hM := w_C_X9_mark_31 (d := d + 0) (h := hq)
  refine hq_callVi (a := 31) (ci := 9) [.int a1] [] (pm_d rk_X9_loseUse 15 rfl) ml_X9_89 iv_X9_mark rfl rfl rfl rfl rfl (Nat.le_of_ble_eq_true rfl) hM ?_
  refine hq_if_ne 38 (pm_d rk_X9_loseUse 16 rfl) (by decide) (fun hc => ?_) (fun hc => ?_)
  · rw [if_neg hc] at h
    refine hq_iload_n (pm_d rk_X9_loseUse 20 rfl) rfl 2 rfl ?_
    exact hq_iret (pm_d rk_X9_loseUse 21 rfl) rfl h
  rw [if_pos hc] at h
  refine hq_iload_n (pm_d rk_X9_loseUse 17 rfl) rfl 2 rfl ?_
  refine hq_sipush (v := (10002 : Int32)) (pm_d rk_X9_loseUse 18 rfl) (by decide) ?_
  show hp_go _ _ _ _ _ 35 _ _ _
  refine hq_icmp_lt 40 (pm_d rk_X9_loseUse 19 rfl) (by decide) (fun hc => ?_) (fun hc => ?_)
  · rw [if_pos hc] at h
    refine hq_aload_n (pm_d rk_X9_loseUse 22 rfl) rfl 0 rfl ?_
    refine hq_getR (h := 36) 4 (pm_d rk_X9_loseUse 23 rfl) fl_X9_24 rfl rfl ?_
    refine hq_iload_n (pm_d rk_X9_loseUse 24 rfl) rfl 2 rfl ?_
    refine hq_iload_n (pm_d rk_X9_loseUse 25 rfl) rfl 1 rfl ?_
    obtain ⟨hg, h⟩ := pm_gd_i h
    refine hq_iastore (pm_d rk_X9_loseUse 26 rfl) rfl hg ?_
    refine pm_nm (G := fun t10 => hp_go sh_C me_X9_loseUse (d + 1) (some (.int x0)) s1 47 [(0, .ref 31), (1, .int a1), (2, .int a2)] [] t10) h (fun t10 h => ?_)
    show hp_go _ _ _ _ _ 47 _ _ _
    refine hq_iload_n (pm_d rk_X9_loseUse 27 rfl) rfl 2 rfl ?_
    refine hq_iconst (v := (1 : Int32)) (pm_d rk_X9_loseUse 28 rfl) (by decide) ?_
    refine hq_iadd (pm_d rk_X9_loseUse 29 rfl) ?_
    exact hq_iret (pm_d rk_X9_loseUse 30 rfl) rfl h
  rw [if_neg hc] at h
  refine hq_iload_n (pm_d rk_X9_loseUse 20 rfl) rfl 2 rfl ?_
  exact hq_iret (pm_d rk_X9_loseUse 21 rfl) rfl h
def f_C_X9_right_31 (a1 : Int32) (s : hp_S) : Option (Int32 × hp_S) :=
  if a1 < 0 then
    some ((-1 : Int32), s)
  else
    if (hs_I s 31 5) ≤ a1 then
      some ((-1 : Int32), s)
    else
      pm_gd1 (pm_ib a1 10002) (
      some ((hs_A s 34 a1.toNatClampNeg), s))
set_option maxRecDepth 100000 in
set_option maxHeartbeats 400000 in
theorem w_C_X9_right_31 (d : Nat) (a1 : Int32) (s s1 : hp_S) (x0 : Int32) (h : f_C_X9_right_31 a1 s = some (x0, s1)) : hp_is sh_C me_X9_right (d + 0) [.ref 31, .int a1] s (some (.int x0)) s1 := by
  refine hp_ofF [(0, .ref 31), (1, .int a1)] (by decide +kernel) (Nat.le_of_ble_eq_true rfl) rfl ?_
  unfold f_C_X9_right_31 at h
  refine hq_iload_n (pm_d rk_X9_right 0 rfl) rfl 1 rfl ?_
  refine hq_if_lt 21 (pm_d rk_X9_right 1 rfl) (by decide) (fun hc => ?_) (fun hc => ?_)
  · rw [if_pos hc] at h
    refine hq_iconst (v := (-1 : Int32)) (pm_d rk_X9_right 11 rfl) (by decide) ?_
    exact hq_iret (pm_d rk_X9_right 12 rfl) rfl h
  rw [if_neg hc] at h
  refine hq_iload_n (pm_d rk_X9_right 2 rfl) rfl 1 rfl ?_
  show hp_go _ _ _ _ _ 5 _ _ _
  refine hq_aload_n (pm_d rk_X9_right 3 rfl) rfl 0 rfl ?_
  refine hq_getI 5 (pm_d rk_X9_right 4 rfl) fl_X9_27 rfl rfl ?_
  refine hq_icmp_ge 21 (pm_d rk_X9_right 5 rfl) (by decide) (fun hc => ?_) (fun hc => ?_)
  · rw [if_pos hc] at h
    refine hq_iconst (v := (-1 : Int32)) (pm_d rk_X9_right 11 rfl) (by decide) ?_
    exact hq_iret (pm_d rk_X9_right 12 rfl) rfl h
  rw [if_neg hc] at h
  refine hq_aload_n (pm_d rk_X9_right 6 rfl) rfl 0 rfl ?_
  show hp_go _ _ _ _ _ 13 _ _ _
  refine hq_getR (h := 34) 2 (pm_d rk_X9_right 7 rfl) fl_X9_18 rfl rfl ?_
  refine hq_iload_n (pm_d rk_X9_right 8 rfl) rfl 1 rfl ?_
  obtain ⟨hg, h⟩ := pm_gd_i h
  refine hq_iaload (pm_d rk_X9_right 9 rfl) rfl hg ?_
  refine hq_goto 22 (pm_d rk_X9_right 10 rfl) (by decide) ?_
  exact hq_iret (pm_d rk_X9_right 12 rfl) rfl h
def l_C_X9_areFinite_31_76 : Nat → Int32 → Int32 → Int32 → hp_S → Option (Int32 × hp_S)
  | 0, _, _, _, _ => none
  | n + 1, y1, y2, y3, s =>
    pm_let (fun (z134_1 : Int32) (z134_2 : Int32) (s : hp_S) =>
      if z134_2 = z134_1 then
        some ((1 : Int32), s)
      else
        some ((0 : Int32), s)) (fun j134 =>
    if y3 ≤ y2 then
      j134 y1 y2 s
    else
      if (10002 : Int32) ≤ y2 then
        j134 y1 y2 s
      else
        pm_gd1 (pm_ib y2 10002) (
        pm_let (hs_A s 36 y2.toNatClampNeg) (fun x3 =>
        pm_let (y2 + (1 : Int32)) (fun x4 =>
        pm_bd (f_C_X9_left_31 x3 s) (fun x6 t5 =>
        pm_bd (f_C_X9_rootOf_31 n x6 t5) (fun x8 t7 =>
        pm_bd (f_C_X9_loseUse_31 x8 y3 t7) (fun x10 t9 =>
        pm_bd (f_C_X9_right_31 x3 t9) (fun x12 t11 =>
        pm_bd (f_C_X9_rootOf_31 n x12 t11) (fun x14 t13 =>
        pm_bd (f_C_X9_loseUse_31 x14 x10 t13) (fun x16 t15 =>
        l_C_X9_areFinite_31_76 n y1 x4 x16 t15))))))))))
set_option maxRecDepth 100000 in
set_option maxHeartbeats 400000 in
theorem wl_C_X9_areFinite_31_76 (d : Nat) (s1 : hp_S) (x0 : Int32)  : ∀ (n : Nat) (y1 : Int32) (y2 : Int32) (y3 : Int32) (s : hp_S), l_C_X9_areFinite_31_76 n y1 y2 y3 s = some (x0, s1) → hp_go sh_C me_X9_areFinite (d + 3) (some (.int x0)) s1 76 [(0, .ref 31), (1, .int y1), (2, .int y2), (3, .int y3)] [] s := by
  intro n
  induction n with
  | zero =>
    intro y1 y2 y3 s h
    cases h
  | succ n ih =>
    intro y1 y2 y3 s h
    rw [l_C_X9_areFinite_31_76.eq_2] at h
    refine hq_iload_n (pm_d rk_X9_areFinite 38 rfl) rfl 2 rfl ?_
    refine hq_iload_n (pm_d rk_X9_areFinite 39 rfl) rfl 3 rfl ?_
    refine pm_jn (P := fun j134 => ∀ (z134_1 : Int32) (z134_2 : Int32) (s : hp_S), j134 z134_1 z134_2 s = some (x0, s1) → hp_go sh_C me_X9_areFinite (d + 3) (some (.int x0)) s1 134 [(1, .int z134_1), (2, .int z134_2)] [] s) h ?_ (fun j134 hj134 h => ?_)
    · intro z134_1 z134_2 s h
      dsimp only at h
      refine hq_iload_n (pm_d rk_X9_areFinite 69 rfl) rfl 1 rfl ?_
      refine hq_iload_n (pm_d rk_X9_areFinite 70 rfl) rfl 0 rfl ?_
      show hp_go _ _ _ _ _ 136 _ _ _
      refine hq_icmp_ne 143 (pm_d rk_X9_areFinite 71 rfl) (by decide) (fun hc => ?_) (fun hc => ?_)
      · rw [if_neg hc] at h
        refine hq_iconst (v := (0 : Int32)) (pm_d rk_X9_areFinite 74 rfl) (by decide) ?_
        exact hq_zret (pm_d rk_X9_areFinite 75 rfl) rfl rfl h
      rw [if_pos hc] at h
      refine hq_iconst (v := (1 : Int32)) (pm_d rk_X9_areFinite 72 rfl) (by decide) ?_
      refine hq_goto 144 (pm_d rk_X9_areFinite 73 rfl) (by decide) ?_
      exact hq_zret (pm_d rk_X9_areFinite 75 rfl) rfl rfl h
    show hp_go _ _ _ _ _ 78 _ _ _
    refine hq_icmp_ge 134 (pm_d rk_X9_areFinite 40 rfl) (by decide) (fun hc => ?_) (fun hc => ?_)
    · rw [if_pos hc] at h
      refine hq_drop [1, 2] rfl ?_
      exact hj134 _ _ _ h
    rw [if_neg hc] at h
    refine hq_iload_n (pm_d rk_X9_areFinite 41 rfl) rfl 2 rfl ?_
    refine hq_sipush (v := (10002 : Int32)) (pm_d rk_X9_areFinite 42 rfl) (by decide) ?_
    refine hq_icmp_ge 134 (pm_d rk_X9_areFinite 43 rfl) (by decide) (fun hc => ?_) (fun hc => ?_)
    · rw [if_pos hc] at h
      refine hq_drop [1, 2] rfl ?_
      exact hj134 _ _ _ h
    rw [if_neg hc] at h
    refine hq_aload_n (pm_d rk_X9_areFinite 44 rfl) rfl 0 rfl ?_
    refine hq_getR (h := 36) 4 (pm_d rk_X9_areFinite 45 rfl) fl_X9_24 rfl rfl ?_
    show hp_go _ _ _ _ _ 92 _ _ _
    refine hq_iload_n (pm_d rk_X9_areFinite 46 rfl) rfl 2 rfl ?_
    obtain ⟨hg, h⟩ := pm_gd_i h
    refine hq_iaload (pm_d rk_X9_areFinite 47 rfl) rfl hg ?_
    refine pm_nm (G := fun x3 => hp_go sh_C me_X9_areFinite (d + 3) (some (.int x0)) s1 94 [(0, .ref 31), (1, .int y1), (2, .int y2), (3, .int y3)] [.int x3] s) h (fun x3 h => ?_)
    refine hq_istore (L1 := [(4, .int x3), (0, .ref 31), (1, .int y1), (2, .int y2), (3, .int y3)]) (pm_d rk_X9_areFinite 48 rfl) (by decide) rfl ?_
    refine hq_iinc (v := y2 + (1 : Int32)) (L1 := [(2, .int (y2 + (1 : Int32))), (4, .int x3), (0, .ref 31), (1, .int y1), (3, .int y3)]) (pm_d rk_X9_areFinite 49 rfl) 3 rfl (by rw [show Int32.ofInt (1) = (1 : Int32) by decide]) (by decide) rfl ?_
    refine pm_nm (G := fun x4 => hp_go sh_C me_X9_areFinite (d + 3) (some (.int x0)) s1 99 [(2, .int x4), (4, .int x3), (0, .ref 31), (1, .int y1), (3, .int y3)] [] s) h (fun x4 h => ?_)
    refine hq_aload_n (pm_d rk_X9_areFinite 50 rfl) rfl 2 rfl ?_
    refine hq_aload_n (pm_d rk_X9_areFinite 51 rfl) rfl 2 rfl ?_
    show hp_go _ _ _ _ _ 101 _ _ _
    refine hq_aload_n (pm_d rk_X9_areFinite 52 rfl) rfl 2 rfl ?_
    refine hq_iload (pm_d rk_X9_areFinite 53 rfl) 1 rfl ?_
    obtain ⟨x6, t5, hq, h⟩ := pm_bd_i h
    have hM := w_C_X9_left_31 (d := d + 2) (h := hq)
    refine hq_callVi (a := 31) (ci := 9) [.int x3] [.ref 31, .ref 31] (pm_d rk_X9_areFinite 54 rfl) ml_X9_56 iv_X9_left rfl rfl rfl rfl rfl (Nat.le_of_ble_eq_true rfl) hM ?_
    obtain ⟨x8, t7, hq, h⟩ := pm_bd_i h
    have hM := w_C_X9_rootOf_31 (d := d + 1) (h := hq)
    refine hq_callVi (a := 31) (ci := 9) [.int x6] [.ref 31] (pm_d rk_X9_areFinite 55 rfl) ml_X9_63 iv_X9_rootOf rfl rfl rfl rfl rfl (Nat.le_of_ble_eq_true rfl) hM ?_
    refine hq_iload_n (pm_d rk_X9_areFinite 56 rfl) rfl 4 rfl ?_
    obtain ⟨x10, t9, hq, h⟩ := pm_bd_i h
    have hM := w_C_X9_loseUse_31 (d := d + 1) (h := hq)
    refine hq_callVi (a := 31) (ci := 9) [.int x8, .int y3] [] (pm_d rk_X9_areFinite 57 rfl) ml_X9_80 iv_X9_loseUse rfl rfl rfl rfl rfl (Nat.le_of_ble_eq_true rfl) hM ?_
    show hp_go _ _ _ _ _ 114 _ _ _
    refine hq_istore_n (L1 := [(3, .int x10), (2, .int x4), (4, .int x3), (0, .ref 31), (1, .int y1)]) (pm_d rk_X9_areFinite 58 rfl) rfl (by decide) rfl ?_
    refine hq_aload_n (pm_d rk_X9_areFinite 59 rfl) rfl 3 rfl ?_
    refine hq_aload_n (pm_d rk_X9_areFinite 60 rfl) rfl 3 rfl ?_
    refine hq_aload_n (pm_d rk_X9_areFinite 61 rfl) rfl 3 rfl ?_
    refine hq_iload (pm_d rk_X9_areFinite 62 rfl) 2 rfl ?_
    obtain ⟨x12, t11, hq, h⟩ := pm_bd_i h
    have hM := w_C_X9_right_31 (d := d + 2) (h := hq)
    refine hq_callVi (a := 31) (ci := 9) [.int x3] [.ref 31, .ref 31] (pm_d rk_X9_areFinite 63 rfl) ml_X9_83 iv_X9_right rfl rfl rfl rfl rfl (Nat.le_of_ble_eq_true rfl) hM ?_
    show hp_go _ _ _ _ _ 123 _ _ _
    obtain ⟨x14, t13, hq, h⟩ := pm_bd_i h
    have hM := w_C_X9_rootOf_31 (d := d + 1) (h := hq)
    refine hq_callVi (a := 31) (ci := 9) [.int x12] [.ref 31] (pm_d rk_X9_areFinite 64 rfl) ml_X9_63 iv_X9_rootOf rfl rfl rfl rfl rfl (Nat.le_of_ble_eq_true rfl) hM ?_
    refine hq_iload_n (pm_d rk_X9_areFinite 65 rfl) rfl 0 rfl ?_
    obtain ⟨x16, t15, hq, h⟩ := pm_bd_i h
    have hM := w_C_X9_loseUse_31 (d := d + 1) (h := hq)
    refine hq_callVi (a := 31) (ci := 9) [.int x14, .int x10] [] (pm_d rk_X9_areFinite 66 rfl) ml_X9_80 iv_X9_loseUse rfl rfl rfl rfl rfl (Nat.le_of_ble_eq_true rfl) hM ?_
    refine hq_istore_n (L1 := [(3, .int x16), (2, .int x4), (4, .int x3), (0, .ref 31), (1, .int y1)]) (pm_d rk_X9_areFinite 67 rfl) rfl (by decide) rfl ?_
    refine hq_goto 76 (pm_d rk_X9_areFinite 68 rfl) (by decide) ?_
    refine hq_drop [3, 4, 1, 0] rfl ?_
    exact ih _ _ _ _ h
def l_C_X9_areFinite_31_12 : Nat → Int32 → Int32 → Int32 → Int32 → hp_S → Option (Int32 × hp_S)
  | 0, _, _, _, _, _ => none
  | n + 1, y1, y2, y3, y4, s =>
    if (hs_I s 31 5) ≤ y4 then
      l_C_X9_areFinite_31_76 n y1 y2 y3 s
    else
      if (10002 : Int32) ≤ y4 then
        l_C_X9_areFinite_31_76 n y1 y2 y3 s
      else
        pm_gd1 (pm_ib y4 10002) (
        pm_bd (f_C_X9_hasParts (hs_A s 32 y4.toNatClampNeg) s) (fun x32 t31 =>
        pm_let (fun (z70_1 : Int32) (z70_2 : Int32) (z70_3 : Int32) (z70_4 : Int32) (s : hp_S) =>
          pm_let (z70_4 + (1 : Int32)) (fun x33 =>
          l_C_X9_areFinite_31_12 n z70_1 z70_2 z70_3 x33 s)) (fun j70 =>
        if x32 = 0 then
          j70 y1 y2 y3 y4 t31
        else
          pm_gd1 (pm_ib y4 10002) (
          if (hs_A t31 35 y4.toNatClampNeg) = 0 then
            if (10002 : Int32) ≤ y3 then
              j70 y1 y2 y3 y4 t31
            else
              pm_gd1 (pm_ib y3 10002) (
              pm_let (hs_pA t31 36 y3.toNatClampNeg y4) (fun t34 =>
              pm_let (y3 + (1 : Int32)) (fun x35 =>
              j70 y1 y2 x35 y4 t34)))
          else
            j70 y1 y2 y3 y4 t31))))
set_option maxRecDepth 100000 in
set_option maxHeartbeats 400000 in
theorem wl_C_X9_areFinite_31_12 (d : Nat) (s1 : hp_S) (x0 : Int32)  : ∀ (n : Nat) (y1 : Int32) (y2 : Int32) (y3 : Int32) (y4 : Int32) (s : hp_S), l_C_X9_areFinite_31_12 n y1 y2 y3 y4 s = some (x0, s1) → hp_go sh_C me_X9_areFinite (d + 3) (some (.int x0)) s1 12 [(0, .ref 31), (1, .int y1), (2, .int y2), (3, .int y3), (4, .int y4)] [] s := by
  intro n
  induction n with
  | zero =>
    intro y1 y2 y3 y4 s h
    cases h
  | succ n ih =>
    intro y1 y2 y3 y4 s h
    rw [l_C_X9_areFinite_31_12.eq_2] at h
    refine hq_iload (pm_d rk_X9_areFinite 9 rfl) 4 rfl ?_
    refine hq_aload_n (pm_d rk_X9_areFinite 10 rfl) rfl 0 rfl ?_
    show hp_go _ _ _ _ _ 15 _ _ _
    refine hq_getI 5 (pm_d rk_X9_areFinite 11 rfl) fl_X9_27 rfl rfl ?_
    refine hq_icmp_ge 76 (pm_d rk_X9_areFinite 12 rfl) (by decide) (fun hc => ?_) (fun hc => ?_)
    · rw [if_pos hc] at h
      refine hq_drop [0, 1, 2, 3] rfl ?_
      exact wl_C_X9_areFinite_31_76 d _ _   _ _ _ _ _ h
    rw [if_neg hc] at h
    refine hq_iload (pm_d rk_X9_areFinite 13 rfl) 4 rfl ?_
    show hp_go _ _ _ _ _ 23 _ _ _
    refine hq_sipush (v := (10002 : Int32)) (pm_d rk_X9_areFinite 14 rfl) (by decide) ?_
    refine hq_icmp_ge 76 (pm_d rk_X9_areFinite 15 rfl) (by decide) (fun hc => ?_) (fun hc => ?_)
    · rw [if_pos hc] at h
      refine hq_drop [0, 1, 2, 3] rfl ?_
      exact wl_C_X9_areFinite_31_76 d _ _   _ _ _ _ _ h
    rw [if_neg hc] at h
    refine hq_aload_n (pm_d rk_X9_areFinite 16 rfl) rfl 0 rfl ?_
    show hp_go _ _ _ _ _ 30 _ _ _
    refine hq_getR (h := 32) 0 (pm_d rk_X9_areFinite 17 rfl) fl_X9_11 rfl rfl ?_
    refine hq_iload (pm_d rk_X9_areFinite 18 rfl) 4 rfl ?_
    obtain ⟨hg, h⟩ := pm_gd_i h
    refine hq_iaload (pm_d rk_X9_areFinite 19 rfl) rfl hg ?_
    obtain ⟨x32, t31, hq, h⟩ := pm_bd_i h
    have hM := w_C_X9_hasParts (d := d + 2) (h := hq)
    refine hq_callSi [.int (hs_A s 32 y4.toNatClampNeg)] [] (pm_d rk_X9_areFinite 20 rfl) ml_X9_76 iv_X9_hasParts rfl rfl (Nat.le_of_ble_eq_true rfl) hM ?_
    refine pm_jn (P := fun j70 => ∀ (z70_1 : Int32) (z70_2 : Int32) (z70_3 : Int32) (z70_4 : Int32) (s : hp_S), j70 z70_1 z70_2 z70_3 z70_4 s = some (x0, s1) → hp_go sh_C me_X9_areFinite (d + 3) (some (.int x0)) s1 70 [(0, .ref 31), (1, .int z70_1), (2, .int z70_2), (3, .int z70_3), (4, .int z70_4)] [] s) h ?_ (fun j70 hj70 h => ?_)
    · intro z70_1 z70_2 z70_3 z70_4 s h
      dsimp only at h
      refine hq_iinc (v := z70_4 + (1 : Int32)) (L1 := [(4, .int (z70_4 + (1 : Int32))), (0, .ref 31), (1, .int z70_1), (2, .int z70_2), (3, .int z70_3)]) (pm_d rk_X9_areFinite 36 rfl) 4 rfl (by rw [show Int32.ofInt (1) = (1 : Int32) by decide]) (by decide) rfl ?_
      refine pm_nm (G := fun x33 => hp_go sh_C me_X9_areFinite (d + 3) (some (.int x0)) s1 73 [(4, .int x33), (0, .ref 31), (1, .int z70_1), (2, .int z70_2), (3, .int z70_3)] [] s) h (fun x33 h => ?_)
      refine hq_goto 12 (pm_d rk_X9_areFinite 37 rfl) (by decide) ?_
      refine hq_drop [1, 2, 3, 4, 0] rfl ?_
      exact ih _ _ _ _ _ h
    show hp_go _ _ _ _ _ 39 _ _ _
    refine hq_if_eq 70 (pm_d rk_X9_areFinite 21 rfl) (by decide) (fun hc => ?_) (fun hc => ?_)
    · rw [if_pos hc] at h
      refine hq_drop [0, 1, 2, 3, 4] rfl ?_
      exact hj70 _ _ _ _ _ h
    rw [if_neg hc] at h
    refine hq_aload_n (pm_d rk_X9_areFinite 22 rfl) rfl 0 rfl ?_
    refine hq_getR (h := 35) 3 (pm_d rk_X9_areFinite 23 rfl) fl_X9_21 rfl rfl ?_
    refine hq_iload (pm_d rk_X9_areFinite 24 rfl) 4 rfl ?_
    obtain ⟨hg, h⟩ := pm_gd_i h
    refine hq_iaload (pm_d rk_X9_areFinite 25 rfl) rfl hg ?_
    refine hq_if_ne 70 (pm_d rk_X9_areFinite 26 rfl) (by decide) (fun hc => ?_) (fun hc => ?_)
    · rw [if_neg hc] at h
      refine hq_drop [0, 1, 2, 3, 4] rfl ?_
      exact hj70 _ _ _ _ _ h
    rw [if_pos hc] at h
    show hp_go _ _ _ _ _ 52 _ _ _
    refine hq_iload_n (pm_d rk_X9_areFinite 27 rfl) rfl 3 rfl ?_
    refine hq_sipush (v := (10002 : Int32)) (pm_d rk_X9_areFinite 28 rfl) (by decide) ?_
    refine hq_icmp_ge 70 (pm_d rk_X9_areFinite 29 rfl) (by decide) (fun hc => ?_) (fun hc => ?_)
    · rw [if_pos hc] at h
      refine hq_drop [0, 1, 2, 3, 4] rfl ?_
      exact hj70 _ _ _ _ _ h
    rw [if_neg hc] at h
    refine hq_aload_n (pm_d rk_X9_areFinite 30 rfl) rfl 0 rfl ?_
    refine hq_getR (h := 36) 4 (pm_d rk_X9_areFinite 31 rfl) fl_X9_24 rfl rfl ?_
    refine hq_iload_n (pm_d rk_X9_areFinite 32 rfl) rfl 3 rfl ?_
    show hp_go _ _ _ _ _ 64 _ _ _
    refine hq_iload (pm_d rk_X9_areFinite 33 rfl) 4 rfl ?_
    obtain ⟨hg, h⟩ := pm_gd_i h
    refine hq_iastore (pm_d rk_X9_areFinite 34 rfl) rfl hg ?_
    refine pm_nm (G := fun t34 => hp_go sh_C me_X9_areFinite (d + 3) (some (.int x0)) s1 67 [(0, .ref 31), (1, .int y1), (2, .int y2), (3, .int y3), (4, .int y4)] [] t34) h (fun t34 h => ?_)
    refine hq_iinc (v := y3 + (1 : Int32)) (L1 := [(3, .int (y3 + (1 : Int32))), (0, .ref 31), (1, .int y1), (2, .int y2), (4, .int y4)]) (pm_d rk_X9_areFinite 35 rfl) 3 rfl (by rw [show Int32.ofInt (1) = (1 : Int32) by decide]) (by decide) rfl ?_
    refine pm_nm (G := fun x35 => hp_go sh_C me_X9_areFinite (d + 3) (some (.int x0)) s1 70 [(3, .int x35), (0, .ref 31), (1, .int y1), (2, .int y2), (4, .int y4)] [] t34) h (fun x35 h => ?_)
    refine hq_drop [1, 2, 3, 0, 4] rfl ?_
    exact hj70 _ _ _ _ _ h
def f_C_X9_areFinite_31 (n : Nat) (s : hp_S) : Option (Int32 × hp_S) :=
  pm_bd (f_C_X9_countUses_31 n s) (fun x2 t1 =>
  l_C_X9_areFinite_31_12 n x2 (0 : Int32) (0 : Int32) (0 : Int32) t1)
set_option maxRecDepth 100000 in
set_option maxHeartbeats 400000 in
theorem w_C_X9_areFinite_31 (d : Nat) (n : Nat) (s s1 : hp_S) (x0 : Int32) (h : f_C_X9_areFinite_31 n s = some (x0, s1)) : hp_is sh_C me_X9_areFinite (d + 3) [.ref 31] s (some (.int x0)) s1 := by
  refine hp_ofF [(0, .ref 31)] (by decide +kernel) (Nat.le_of_ble_eq_true rfl) rfl ?_
  unfold f_C_X9_areFinite_31 at h
  refine hq_aload_n (pm_d rk_X9_areFinite 0 rfl) rfl 0 rfl ?_
  obtain ⟨x2, t1, hq, h⟩ := pm_bd_i h
  have hM := w_C_X9_countUses_31 (d := d + 0) (h := hq)
  refine hq_callVi (a := 31) (ci := 9) [] [] (pm_d rk_X9_areFinite 1 rfl) ml_X9_73 iv_X9_countUses rfl rfl rfl rfl rfl (Nat.le_of_ble_eq_true rfl) hM ?_
  refine hq_istore_n (L1 := [(1, .int x2), (0, .ref 31)]) (pm_d rk_X9_areFinite 2 rfl) rfl (by decide) rfl ?_
  refine hq_iconst (v := (0 : Int32)) (pm_d rk_X9_areFinite 3 rfl) (by decide) ?_
  refine hq_istore_n (L1 := [(2, .int (0 : Int32)), (1, .int x2), (0, .ref 31)]) (pm_d rk_X9_areFinite 4 rfl) rfl (by decide) rfl ?_
  show hp_go _ _ _ _ _ 7 _ _ _
  refine hq_iconst (v := (0 : Int32)) (pm_d rk_X9_areFinite 5 rfl) (by decide) ?_
  refine hq_istore_n (L1 := [(3, .int (0 : Int32)), (2, .int (0 : Int32)), (1, .int x2), (0, .ref 31)]) (pm_d rk_X9_areFinite 6 rfl) rfl (by decide) rfl ?_
  refine hq_iconst (v := (0 : Int32)) (pm_d rk_X9_areFinite 7 rfl) (by decide) ?_
  refine hq_istore (L1 := [(4, .int (0 : Int32)), (3, .int (0 : Int32)), (2, .int (0 : Int32)), (1, .int x2), (0, .ref 31)]) (pm_d rk_X9_areFinite 8 rfl) (by decide) rfl ?_
  refine hq_drop [4, 3, 2, 1, 0] rfl ?_
  exact wl_C_X9_areFinite_31_12 d _ _   _ _ _ _ _ _ h
def f_C_X2_second_17 (a1 : Int32) (s : hp_S) : Option (Int32 × hp_S) :=
  pm_bd (f_C_X2_holds_17 a1 s) (fun x2 t1 =>
  if x2 = 0 then
    some ((-1 : Int32), t1)
  else
    pm_gd1 (pm_ib a1 100) (
    some ((hs_A t1 20 a1.toNatClampNeg), t1)))
set_option maxRecDepth 100000 in
set_option maxHeartbeats 400000 in
theorem w_C_X2_second_17 (d : Nat) (a1 : Int32) (s s1 : hp_S) (x0 : Int32) (h : f_C_X2_second_17 a1 s = some (x0, s1)) : hp_is sh_C me_X2_second (d + 1) [.ref 17, .int a1] s (some (.int x0)) s1 := by
  refine hp_ofF [(0, .ref 17), (1, .int a1)] (by decide +kernel) (Nat.le_of_ble_eq_true rfl) rfl ?_
  unfold f_C_X2_second_17 at h
  refine hq_aload_n (pm_d rk_X2_second 0 rfl) rfl 0 rfl ?_
  refine hq_iload_n (pm_d rk_X2_second 1 rfl) rfl 1 rfl ?_
  obtain ⟨x2, t1, hq, h⟩ := pm_bd_i h
  have hM := w_C_X2_holds_17 (d := d + 0) (h := hq)
  refine hq_callVi (a := 17) (ci := 2) [.int a1] [] (pm_d rk_X2_second 2 rfl) ml_X2_33 iv_X2_holds rfl rfl rfl rfl rfl (Nat.le_of_ble_eq_true rfl) hM ?_
  refine hq_if_eq 17 (pm_d rk_X2_second 3 rfl) (by decide) (fun hc => ?_) (fun hc => ?_)
  · rw [if_pos hc] at h
    refine hq_iconst (v := (-1 : Int32)) (pm_d rk_X2_second 9 rfl) (by decide) ?_
    show hp_go _ _ _ _ _ 18 _ _ _
    exact hq_iret (pm_d rk_X2_second 10 rfl) rfl h
  rw [if_neg hc] at h
  refine hq_aload_n (pm_d rk_X2_second 4 rfl) rfl 0 rfl ?_
  refine hq_getR (h := 20) 2 (pm_d rk_X2_second 5 rfl) fl_X2_24 rfl rfl ?_
  refine hq_iload_n (pm_d rk_X2_second 6 rfl) rfl 1 rfl ?_
  obtain ⟨hg, h⟩ := pm_gd_i h
  refine hq_iaload (pm_d rk_X2_second 7 rfl) rfl hg ?_
  refine hq_goto 18 (pm_d rk_X2_second 8 rfl) (by decide) ?_
  show hp_go _ _ _ _ _ 18 _ _ _
  exact hq_iret (pm_d rk_X2_second 10 rfl) rfl h
def f_C_X1_target_26 (a1 : Int32) (s : hp_S) : Option (Int32 × hp_S) :=
  if a1 < 0 then
    some ((-1 : Int32), s)
  else
    if (2000 : Int32) ≤ a1 then
      some ((-1 : Int32), s)
    else
      pm_gd1 (pm_ib a1 2000) (
      some ((hs_A s 30 a1.toNatClampNeg), s))
set_option maxRecDepth 100000 in
set_option maxHeartbeats 400000 in
theorem w_C_X1_target_26 (d : Nat) (a1 : Int32) (s s1 : hp_S) (x0 : Int32) (h : f_C_X1_target_26 a1 s = some (x0, s1)) : hp_is sh_C me_X1_target (d + 0) [.ref 26, .int a1] s (some (.int x0)) s1 := by
  refine hp_ofF [(0, .ref 26), (1, .int a1)] (by decide +kernel) (Nat.le_of_ble_eq_true rfl) rfl ?_
  unfold f_C_X1_target_26 at h
  refine hq_iload_n (pm_d rk_X1_target 0 rfl) rfl 1 rfl ?_
  refine hq_if_lt 20 (pm_d rk_X1_target 1 rfl) (by decide) (fun hc => ?_) (fun hc => ?_)
  · rw [if_pos hc] at h
    refine hq_iconst (v := (-1 : Int32)) (pm_d rk_X1_target 10 rfl) (by decide) ?_
    exact hq_iret (pm_d rk_X1_target 11 rfl) rfl h
  rw [if_neg hc] at h
  refine hq_iload_n (pm_d rk_X1_target 2 rfl) rfl 1 rfl ?_
  show hp_go _ _ _ _ _ 5 _ _ _
  refine hq_sipush (v := (2000 : Int32)) (pm_d rk_X1_target 3 rfl) (by decide) ?_
  refine hq_icmp_ge 20 (pm_d rk_X1_target 4 rfl) (by decide) (fun hc => ?_) (fun hc => ?_)
  · rw [if_pos hc] at h
    refine hq_iconst (v := (-1 : Int32)) (pm_d rk_X1_target 10 rfl) (by decide) ?_
    exact hq_iret (pm_d rk_X1_target 11 rfl) rfl h
  rw [if_neg hc] at h
  refine hq_aload_n (pm_d rk_X1_target 5 rfl) rfl 0 rfl ?_
  refine hq_getR (h := 30) 5 (pm_d rk_X1_target 6 rfl) fl_X1_21 rfl rfl ?_
  show hp_go _ _ _ _ _ 15 _ _ _
  refine hq_iload_n (pm_d rk_X1_target 7 rfl) rfl 1 rfl ?_
  obtain ⟨hg, h⟩ := pm_gd_i h
  refine hq_iaload (pm_d rk_X1_target 8 rfl) rfl hg ?_
  refine hq_goto 21 (pm_d rk_X1_target 9 rfl) (by decide) ?_
  exact hq_iret (pm_d rk_X1_target 11 rfl) rfl h
def f_C_X9_push_31 (a1 : Int32) (a2 : Int32) (a3 : Int32) (s : hp_S) : Option (Int32 × hp_S) :=
  if a3 < 0 then
    some (a3, s)
  else
    if (a3 + (2 : Int32)) ≤ (10002 : Int32) then
      pm_gd1 (pm_ib a3 10002) (
      pm_let (hs_pA s 36 a3.toNatClampNeg a1) (fun t1 =>
      pm_gd1 (pm_ib (a3 + (1 : Int32)) 10002) (
      pm_let (hs_pA t1 36 (a3 + (1 : Int32)).toNatClampNeg a2) (fun t2 =>
      some ((a3 + (2 : Int32)), t2)))))
    else
      some (a3, s)
set_option maxRecDepth 100000 in
set_option maxHeartbeats 400000 in
theorem w_C_X9_push_31 (d : Nat) (a1 : Int32) (a2 : Int32) (a3 : Int32) (s s1 : hp_S) (x0 : Int32) (h : f_C_X9_push_31 a1 a2 a3 s = some (x0, s1)) : hp_is sh_C me_X9_push (d + 0) [.ref 31, .int a1, .int a2, .int a3] s (some (.int x0)) s1 := by
  refine hp_ofF [(0, .ref 31), (1, .int a1), (2, .int a2), (3, .int a3)] (by decide +kernel) (Nat.le_of_ble_eq_true rfl) rfl ?_
  unfold f_C_X9_push_31 at h
  refine hq_iload_n (pm_d rk_X9_push 0 rfl) rfl 3 rfl ?_
  refine hq_if_lt 13 (pm_d rk_X9_push 1 rfl) (by decide) (fun hc => ?_) (fun hc => ?_)
  · rw [if_pos hc] at h
    refine hq_iload_n (pm_d rk_X9_push 7 rfl) rfl 3 rfl ?_
    exact hq_iret (pm_d rk_X9_push 8 rfl) rfl h
  rw [if_neg hc] at h
  refine hq_iload_n (pm_d rk_X9_push 2 rfl) rfl 3 rfl ?_
  show hp_go _ _ _ _ _ 5 _ _ _
  refine hq_iconst (v := (2 : Int32)) (pm_d rk_X9_push 3 rfl) (by decide) ?_
  refine hq_iadd (pm_d rk_X9_push 4 rfl) ?_
  refine hq_sipush (v := (10002 : Int32)) (pm_d rk_X9_push 5 rfl) (by decide) ?_
  refine hq_icmp_le 15 (pm_d rk_X9_push 6 rfl) (by decide) (fun hc => ?_) (fun hc => ?_)
  · rw [if_pos hc] at h
    refine hq_aload_n (pm_d rk_X9_push 9 rfl) rfl 0 rfl ?_
    refine hq_getR (h := 36) 4 (pm_d rk_X9_push 10 rfl) fl_X9_24 rfl rfl ?_
    show hp_go _ _ _ _ _ 19 _ _ _
    refine hq_iload_n (pm_d rk_X9_push 11 rfl) rfl 3 rfl ?_
    refine hq_iload_n (pm_d rk_X9_push 12 rfl) rfl 1 rfl ?_
    obtain ⟨hg, h⟩ := pm_gd_i h
    refine hq_iastore (pm_d rk_X9_push 13 rfl) rfl hg ?_
    refine pm_nm (G := fun t1 => hp_go sh_C me_X9_push (d + 0) (some (.int x0)) s1 22 [(0, .ref 31), (1, .int a1), (2, .int a2), (3, .int a3)] [] t1) h (fun t1 h => ?_)
    refine hq_aload_n (pm_d rk_X9_push 14 rfl) rfl 0 rfl ?_
    refine hq_getR (h := 36) 4 (pm_d rk_X9_push 15 rfl) fl_X9_24 rfl rfl ?_
    refine hq_iload_n (pm_d rk_X9_push 16 rfl) rfl 3 rfl ?_
    show hp_go _ _ _ _ _ 27 _ _ _
    refine hq_iconst (v := (1 : Int32)) (pm_d rk_X9_push 17 rfl) (by decide) ?_
    refine hq_iadd (pm_d rk_X9_push 18 rfl) ?_
    refine hq_iload_n (pm_d rk_X9_push 19 rfl) rfl 2 rfl ?_
    obtain ⟨hg, h⟩ := pm_gd_i h
    refine hq_iastore (pm_d rk_X9_push 20 rfl) rfl hg ?_
    refine pm_nm (G := fun t2 => hp_go sh_C me_X9_push (d + 0) (some (.int x0)) s1 31 [(0, .ref 31), (1, .int a1), (2, .int a2), (3, .int a3)] [] t2) h (fun t2 h => ?_)
    refine hq_iload_n (pm_d rk_X9_push 21 rfl) rfl 3 rfl ?_
    refine hq_iconst (v := (2 : Int32)) (pm_d rk_X9_push 22 rfl) (by decide) ?_
    show hp_go _ _ _ _ _ 33 _ _ _
    refine hq_iadd (pm_d rk_X9_push 23 rfl) ?_
    exact hq_iret (pm_d rk_X9_push 24 rfl) rfl h
  rw [if_neg hc] at h
  refine hq_iload_n (pm_d rk_X9_push 7 rfl) rfl 3 rfl ?_
  exact hq_iret (pm_d rk_X9_push 8 rfl) rfl h
def f_C_X9_link_31 (a1 : Int32) (a2 : Int32) (s : hp_S) : Option hp_S :=
  if a1 < 0 then
    some s
  else
    if (hs_I s 31 5) ≤ a1 then
      some s
    else
      pm_gd1 (pm_ib a1 10002) (
      pm_let (hs_pA s 32 a1.toNatClampNeg (1 : Int32)) (fun t1 =>
      pm_gd1 (pm_ib a1 10002) (
      pm_let (hs_pA t1 33 a1.toNatClampNeg a2) (fun t2 =>
      some t2))))
set_option maxRecDepth 100000 in
set_option maxHeartbeats 400000 in
theorem w_C_X9_link_31 (d : Nat) (a1 : Int32) (a2 : Int32) (s s1 : hp_S) (h : f_C_X9_link_31 a1 a2 s = some s1) : hp_is sh_C me_X9_link (d + 0) [.ref 31, .int a1, .int a2] s none s1 := by
  refine hp_ofF [(0, .ref 31), (1, .int a1), (2, .int a2)] (by decide +kernel) (Nat.le_of_ble_eq_true rfl) rfl ?_
  unfold f_C_X9_link_31 at h
  refine hq_iload_n (pm_d rk_X9_link 0 rfl) rfl 1 rfl ?_
  refine hq_if_lt 26 (pm_d rk_X9_link 1 rfl) (by decide) (fun hc => ?_) (fun hc => ?_)
  · rw [if_pos hc] at h
    exact hq_vret (pm_d rk_X9_link 16 rfl) rfl h
  rw [if_neg hc] at h
  refine hq_iload_n (pm_d rk_X9_link 2 rfl) rfl 1 rfl ?_
  refine hq_aload_n (pm_d rk_X9_link 3 rfl) rfl 0 rfl ?_
  show hp_go _ _ _ _ _ 6 _ _ _
  refine hq_getI 5 (pm_d rk_X9_link 4 rfl) fl_X9_27 rfl rfl ?_
  refine hq_icmp_ge 26 (pm_d rk_X9_link 5 rfl) (by decide) (fun hc => ?_) (fun hc => ?_)
  · rw [if_pos hc] at h
    exact hq_vret (pm_d rk_X9_link 16 rfl) rfl h
  rw [if_neg hc] at h
  refine hq_aload_n (pm_d rk_X9_link 6 rfl) rfl 0 rfl ?_
  refine hq_getR (h := 32) 0 (pm_d rk_X9_link 7 rfl) fl_X9_11 rfl rfl ?_
  refine hq_iload_n (pm_d rk_X9_link 8 rfl) rfl 1 rfl ?_
  show hp_go _ _ _ _ _ 17 _ _ _
  refine hq_iconst (v := (1 : Int32)) (pm_d rk_X9_link 9 rfl) (by decide) ?_
  obtain ⟨hg, h⟩ := pm_gd_i h
  refine hq_iastore (pm_d rk_X9_link 10 rfl) rfl hg ?_
  refine pm_nm (G := fun t1 => hp_go sh_C me_X9_link (d + 0) none s1 19 [(0, .ref 31), (1, .int a1), (2, .int a2)] [] t1) h (fun t1 h => ?_)
  refine hq_aload_n (pm_d rk_X9_link 11 rfl) rfl 0 rfl ?_
  refine hq_getR (h := 33) 1 (pm_d rk_X9_link 12 rfl) fl_X9_15 rfl rfl ?_
  refine hq_iload_n (pm_d rk_X9_link 13 rfl) rfl 1 rfl ?_
  refine hq_iload_n (pm_d rk_X9_link 14 rfl) rfl 2 rfl ?_
  show hp_go _ _ _ _ _ 25 _ _ _
  obtain ⟨hg, h⟩ := pm_gd_i h
  refine hq_iastore (pm_d rk_X9_link 15 rfl) rfl hg ?_
  refine pm_nm (G := fun t2 => hp_go sh_C me_X9_link (d + 0) none s1 26 [(0, .ref 31), (1, .int a1), (2, .int a2)] [] t2) h (fun t2 h => ?_)
  exact hq_vret (pm_d rk_X9_link 16 rfl) rfl h
def f_C_X9_unifyParts_31 (a1 : Int32) (a2 : Int32) (a3 : Int32) (s : hp_S) : Option (Int32 × hp_S) :=
  pm_bd (f_C_X9_kind_31 a1 s) (fun x2 t1 =>
  pm_bd (f_C_X9_hasParts x2 t1) (fun x4 t3 =>
  if x4 = 0 then
    pm_b1 (f_C_X9_link_31 a1 a2 t3) (fun t18 =>
    some (a3, t18))
  else
    pm_bd (f_C_X9_left_31 a1 t3) (fun x6 t5 =>
    pm_bd (f_C_X9_right_31 a1 t5) (fun x8 t7 =>
    pm_b1 (f_C_X9_link_31 a1 a2 t7) (fun t9 =>
    pm_bd (f_C_X9_left_31 a2 t9) (fun x11 t10 =>
    pm_bd (f_C_X9_right_31 a2 t10) (fun x13 t12 =>
    pm_bd (f_C_X9_push_31 x8 x13 a3 t12) (fun x15 t14 =>
    pm_bd (f_C_X9_push_31 x6 x11 x15 t14) (fun x17 t16 =>
    some (x17, t16))))))))))
set_option maxRecDepth 100000 in
set_option maxHeartbeats 400000 in
theorem w_C_X9_unifyParts_31 (d : Nat) (a1 : Int32) (a2 : Int32) (a3 : Int32) (s s1 : hp_S) (x0 : Int32) (h : f_C_X9_unifyParts_31 a1 a2 a3 s = some (x0, s1)) : hp_is sh_C me_X9_unifyParts (d + 1) [.ref 31, .int a1, .int a2, .int a3] s (some (.int x0)) s1 := by
  refine hp_ofF [(0, .ref 31), (1, .int a1), (2, .int a2), (3, .int a3)] (by decide +kernel) (Nat.le_of_ble_eq_true rfl) rfl ?_
  unfold f_C_X9_unifyParts_31 at h
  refine hq_aload_n (pm_d rk_X9_unifyParts 0 rfl) rfl 0 rfl ?_
  refine hq_iload_n (pm_d rk_X9_unifyParts 1 rfl) rfl 1 rfl ?_
  obtain ⟨x2, t1, hq, h⟩ := pm_bd_i h
  have hM := w_C_X9_kind_31 (d := d + 0) (h := hq)
  refine hq_callVi (a := 31) (ci := 9) [.int a1] [] (pm_d rk_X9_unifyParts 2 rfl) ml_X9_52 iv_X9_kind rfl rfl rfl rfl rfl (Nat.le_of_ble_eq_true rfl) hM ?_
  obtain ⟨x4, t3, hq, h⟩ := pm_bd_i h
  have hM := w_C_X9_hasParts (d := d + 0) (h := hq)
  refine hq_callSi [.int x2] [] (pm_d rk_X9_unifyParts 3 rfl) ml_X9_76 iv_X9_hasParts rfl rfl (Nat.le_of_ble_eq_true rfl) hM ?_
  refine hq_if_ne 19 (pm_d rk_X9_unifyParts 4 rfl) (by decide) (fun hc => ?_) (fun hc => ?_)
  · rw [if_neg hc] at h
    show hp_go _ _ _ _ _ 19 _ _ _
    refine hq_aload_n (pm_d rk_X9_unifyParts 11 rfl) rfl 0 rfl ?_
    refine hq_iload_n (pm_d rk_X9_unifyParts 12 rfl) rfl 1 rfl ?_
    obtain ⟨x6, t5, hq, h⟩ := pm_bd_i h
    have hM := w_C_X9_left_31 (d := d + 0) (h := hq)
    refine hq_callVi (a := 31) (ci := 9) [.int a1] [] (pm_d rk_X9_unifyParts 13 rfl) ml_X9_56 iv_X9_left rfl rfl rfl rfl rfl (Nat.le_of_ble_eq_true rfl) hM ?_
    refine hq_istore (L1 := [(4, .int x6), (0, .ref 31), (1, .int a1), (2, .int a2), (3, .int a3)]) (pm_d rk_X9_unifyParts 14 rfl) (by decide) rfl ?_
    refine hq_aload_n (pm_d rk_X9_unifyParts 15 rfl) rfl 1 rfl ?_
    refine hq_iload_n (pm_d rk_X9_unifyParts 16 rfl) rfl 2 rfl ?_
    show hp_go _ _ _ _ _ 28 _ _ _
    obtain ⟨x8, t7, hq, h⟩ := pm_bd_i h
    have hM := w_C_X9_right_31 (d := d + 0) (h := hq)
    refine hq_callVi (a := 31) (ci := 9) [.int a1] [] (pm_d rk_X9_unifyParts 17 rfl) ml_X9_83 iv_X9_right rfl rfl rfl rfl rfl (Nat.le_of_ble_eq_true rfl) hM ?_
    refine hq_istore (L1 := [(5, .int x8), (4, .int x6), (0, .ref 31), (1, .int a1), (2, .int a2), (3, .int a3)]) (pm_d rk_X9_unifyParts 18 rfl) (by decide) rfl ?_
    refine hq_aload_n (pm_d rk_X9_unifyParts 19 rfl) rfl 2 rfl ?_
    refine hq_iload_n (pm_d rk_X9_unifyParts 20 rfl) rfl 3 rfl ?_
    refine hq_iload_n (pm_d rk_X9_unifyParts 21 rfl) rfl 4 rfl ?_
    obtain ⟨t9, hq, h⟩ := pm_b1_i h
    have hM := w_C_X9_link_31 (d := d + 0) (h := hq)
    refine hq_callVv (a := 31) (ci := 9) [.int a1, .int a2] [] (pm_d rk_X9_unifyParts 22 rfl) ml_X9_66 iv_X9_link rfl rfl rfl rfl rfl (Nat.le_of_ble_eq_true rfl) hM ?_
    show hp_go _ _ _ _ _ 39 _ _ _
    refine hq_aload_n (pm_d rk_X9_unifyParts 23 rfl) rfl 2 rfl ?_
    refine hq_iload (pm_d rk_X9_unifyParts 24 rfl) 1 rfl ?_
    refine hq_aload_n (pm_d rk_X9_unifyParts 25 rfl) rfl 2 rfl ?_
    refine hq_iload_n (pm_d rk_X9_unifyParts 26 rfl) rfl 4 rfl ?_
    obtain ⟨x11, t10, hq, h⟩ := pm_bd_i h
    have hM := w_C_X9_left_31 (d := d + 0) (h := hq)
    refine hq_callVi (a := 31) (ci := 9) [.int a2] [.int x6, .ref 31] (pm_d rk_X9_unifyParts 27 rfl) ml_X9_56 iv_X9_left rfl rfl rfl rfl rfl (Nat.le_of_ble_eq_true rfl) hM ?_
    refine hq_aload_n (pm_d rk_X9_unifyParts 28 rfl) rfl 2 rfl ?_
    show hp_go _ _ _ _ _ 48 _ _ _
    refine hq_iload (pm_d rk_X9_unifyParts 29 rfl) 0 rfl ?_
    refine hq_aload_n (pm_d rk_X9_unifyParts 30 rfl) rfl 2 rfl ?_
    refine hq_iload_n (pm_d rk_X9_unifyParts 31 rfl) rfl 4 rfl ?_
    obtain ⟨x13, t12, hq, h⟩ := pm_bd_i h
    have hM := w_C_X9_right_31 (d := d + 0) (h := hq)
    refine hq_callVi (a := 31) (ci := 9) [.int a2] [.int x8, .ref 31, .int x11, .int x6, .ref 31] (pm_d rk_X9_unifyParts 32 rfl) ml_X9_83 iv_X9_right rfl rfl rfl rfl rfl (Nat.le_of_ble_eq_true rfl) hM ?_
    refine hq_iload_n (pm_d rk_X9_unifyParts 33 rfl) rfl 5 rfl ?_
    obtain ⟨x15, t14, hq, h⟩ := pm_bd_i h
    have hM := w_C_X9_push_31 (d := d + 0) (h := hq)
    refine hq_callVi (a := 31) (ci := 9) [.int x8, .int x13, .int a3] [.int x11, .int x6, .ref 31] (pm_d rk_X9_unifyParts 34 rfl) ml_X9_59 iv_X9_push rfl rfl rfl rfl rfl (Nat.le_of_ble_eq_true rfl) hM ?_
    show hp_go _ _ _ _ _ 59 _ _ _
    obtain ⟨x17, t16, hq, h⟩ := pm_bd_i h
    have hM := w_C_X9_push_31 (d := d + 0) (h := hq)
    refine hq_callVi (a := 31) (ci := 9) [.int x6, .int x11, .int x15] [] (pm_d rk_X9_unifyParts 35 rfl) ml_X9_59 iv_X9_push rfl rfl rfl rfl rfl (Nat.le_of_ble_eq_true rfl) hM ?_
    exact hq_iret (pm_d rk_X9_unifyParts 36 rfl) rfl h
  rw [if_pos hc] at h
  refine hq_aload_n (pm_d rk_X9_unifyParts 5 rfl) rfl 0 rfl ?_
  refine hq_iload_n (pm_d rk_X9_unifyParts 6 rfl) rfl 1 rfl ?_
  refine hq_iload_n (pm_d rk_X9_unifyParts 7 rfl) rfl 2 rfl ?_
  obtain ⟨t18, hq, h⟩ := pm_b1_i h
  have hM := w_C_X9_link_31 (d := d + 0) (h := hq)
  refine hq_callVv (a := 31) (ci := 9) [.int a1, .int a2] [] (pm_d rk_X9_unifyParts 8 rfl) ml_X9_66 iv_X9_link rfl rfl rfl rfl rfl (Nat.le_of_ble_eq_true rfl) hM ?_
  show hp_go _ _ _ _ _ 17 _ _ _
  refine hq_iload_n (pm_d rk_X9_unifyParts 9 rfl) rfl 3 rfl ?_
  exact hq_iret (pm_d rk_X9_unifyParts 10 rfl) rfl h
def l_C_X9_unify_31_11 : Nat → Int32 → Int32 → hp_S → Option (Int32 × hp_S)
  | 0, _, _, _ => none
  | n + 1, y3, y4, s =>
    if (1000000 : Int32) ≤ y4 then
      some ((1 : Int32), s)
    else
      if y3 < (2 : Int32) then
        some ((1 : Int32), s)
      else
        if (10002 : Int32) < y3 then
          some ((1 : Int32), s)
        else
          pm_let (y3 + (-2 : Int32)) (fun x3 =>
          pm_gd1 (pm_ib x3 10002) (
          pm_bd (f_C_X9_rootOf_31 n (hs_A s 36 x3.toNatClampNeg) s) (fun x5 t4 =>
          pm_gd1 (pm_ib (x3 + (1 : Int32)) 10002) (
          pm_bd (f_C_X9_rootOf_31 n (hs_A t4 36 (x3 + (1 : Int32)).toNatClampNeg) t4) (fun x7 t6 =>
          pm_let (fun (z136_3 : Int32) (z136_4 : Int32) (s : hp_S) =>
            pm_let (z136_4 + (1 : Int32)) (fun x8 =>
            l_C_X9_unify_31_11 n z136_3 x8 s)) (fun j136 =>
          if x5 = x7 then
            j136 x3 y4 t6
          else
            pm_bd (f_C_X9_kind_31 x5 t6) (fun x10 t9 =>
            if x10 = 0 then
              pm_b1 (f_C_X9_link_31 x5 x7 t9) (fun t20 =>
              j136 x3 y4 t20)
            else
              pm_bd (f_C_X9_kind_31 x7 t9) (fun x12 t11 =>
              if x12 = 0 then
                pm_b1 (f_C_X9_link_31 x7 x5 t11) (fun t19 =>
                j136 x3 y4 t19)
              else
                pm_bd (f_C_X9_kind_31 x5 t11) (fun x14 t13 =>
                pm_bd (f_C_X9_kind_31 x7 t13) (fun x16 t15 =>
                if x14 = x16 then
                  pm_bd (f_C_X9_unifyParts_31 x5 x7 x3 t15) (fun x18 t17 =>
                  j136 x18 y4 t17)
                else
                  some ((0 : Int32), t15)))))))))))
set_option maxRecDepth 100000 in
set_option maxHeartbeats 400000 in
theorem wl_C_X9_unify_31_11 (d : Nat) (s1 : hp_S) (x0 : Int32)  : ∀ (n : Nat) (y3 : Int32) (y4 : Int32) (s : hp_S), l_C_X9_unify_31_11 n y3 y4 s = some (x0, s1) → hp_go sh_C me_X9_unify (d + 2) (some (.int x0)) s1 11 [(0, .ref 31), (3, .int y3), (4, .int y4)] [] s := by
  intro n
  induction n with
  | zero =>
    intro y3 y4 s h
    cases h
  | succ n ih =>
    intro y3 y4 s h
    rw [l_C_X9_unify_31_11.eq_2] at h
    refine hq_iload (pm_d rk_X9_unify 8 rfl) 2 rfl ?_
    refine hq_ldc (pm_d rk_X9_unify 9 rfl) (pm_i4 43 rfl rfl) ?_
    refine hq_icmp_ge 142 (pm_d rk_X9_unify 10 rfl) (by decide) (fun hc => ?_) (fun hc => ?_)
    · rw [if_pos hc] at h
      show hp_go _ _ _ _ _ 142 _ _ _
      refine hq_iconst (v := (1 : Int32)) (pm_d rk_X9_unify 73 rfl) (by decide) ?_
      exact hq_zret (pm_d rk_X9_unify 74 rfl) rfl rfl h
    rw [if_neg hc] at h
    refine hq_iload_n (pm_d rk_X9_unify 11 rfl) rfl 1 rfl ?_
    refine hq_iconst (v := (2 : Int32)) (pm_d rk_X9_unify 12 rfl) (by decide) ?_
    refine hq_icmp_lt 142 (pm_d rk_X9_unify 13 rfl) (by decide) (fun hc => ?_) (fun hc => ?_)
    · rw [if_pos hc] at h
      refine hq_iconst (v := (1 : Int32)) (pm_d rk_X9_unify 73 rfl) (by decide) ?_
      show hp_go _ _ _ _ _ 143 _ _ _
      exact hq_zret (pm_d rk_X9_unify 74 rfl) rfl rfl h
    rw [if_neg hc] at h
    refine hq_iload_n (pm_d rk_X9_unify 14 rfl) rfl 1 rfl ?_
    refine hq_sipush (v := (10002 : Int32)) (pm_d rk_X9_unify 15 rfl) (by decide) ?_
    refine hq_icmp_gt 142 (pm_d rk_X9_unify 16 rfl) (by decide) (fun hc => ?_) (fun hc => ?_)
    · rw [if_pos hc] at h
      refine hq_iconst (v := (1 : Int32)) (pm_d rk_X9_unify 73 rfl) (by decide) ?_
      exact hq_zret (pm_d rk_X9_unify 74 rfl) rfl rfl h
    rw [if_neg hc] at h
    show hp_go _ _ _ _ _ 30 _ _ _
    refine hq_iinc (v := y3 + (-2 : Int32)) (L1 := [(3, .int (y3 + (-2 : Int32))), (0, .ref 31), (4, .int y4)]) (pm_d rk_X9_unify 17 rfl) 1 rfl (by rw [show Int32.ofInt (-2) = (-2 : Int32) by decide]) (by decide) rfl ?_
    refine pm_nm (G := fun x3 => hp_go sh_C me_X9_unify (d + 2) (some (.int x0)) s1 33 [(3, .int x3), (0, .ref 31), (4, .int y4)] [] s) h (fun x3 h => ?_)
    refine hq_aload_n (pm_d rk_X9_unify 18 rfl) rfl 1 rfl ?_
    refine hq_aload_n (pm_d rk_X9_unify 19 rfl) rfl 1 rfl ?_
    refine hq_getR (h := 36) 4 (pm_d rk_X9_unify 20 rfl) fl_X9_24 rfl rfl ?_
    refine hq_iload_n (pm_d rk_X9_unify 21 rfl) rfl 0 rfl ?_
    obtain ⟨hg, h⟩ := pm_gd_i h
    refine hq_iaload (pm_d rk_X9_unify 22 rfl) rfl hg ?_
    show hp_go _ _ _ _ _ 40 _ _ _
    obtain ⟨x5, t4, hq, h⟩ := pm_bd_i h
    have hM := w_C_X9_rootOf_31 (d := d + 0) (h := hq)
    refine hq_callVi (a := 31) (ci := 9) [.int (hs_A s 36 x3.toNatClampNeg)] [] (pm_d rk_X9_unify 23 rfl) ml_X9_63 iv_X9_rootOf rfl rfl rfl rfl rfl (Nat.le_of_ble_eq_true rfl) hM ?_
    refine hq_istore (L1 := [(5, .int x5), (3, .int x3), (0, .ref 31), (4, .int y4)]) (pm_d rk_X9_unify 24 rfl) (by decide) rfl ?_
    refine hq_aload_n (pm_d rk_X9_unify 25 rfl) rfl 2 rfl ?_
    refine hq_aload_n (pm_d rk_X9_unify 26 rfl) rfl 2 rfl ?_
    refine hq_getR (h := 36) 4 (pm_d rk_X9_unify 27 rfl) fl_X9_24 rfl rfl ?_
    refine hq_iload_n (pm_d rk_X9_unify 28 rfl) rfl 1 rfl ?_
    show hp_go _ _ _ _ _ 51 _ _ _
    refine hq_iconst (v := (1 : Int32)) (pm_d rk_X9_unify 29 rfl) (by decide) ?_
    refine hq_iadd (pm_d rk_X9_unify 30 rfl) ?_
    obtain ⟨hg, h⟩ := pm_gd_i h
    refine hq_iaload (pm_d rk_X9_unify 31 rfl) rfl hg ?_
    obtain ⟨x7, t6, hq, h⟩ := pm_bd_i h
    have hM := w_C_X9_rootOf_31 (d := d + 0) (h := hq)
    refine hq_callVi (a := 31) (ci := 9) [.int (hs_A t4 36 (x3 + (1 : Int32)).toNatClampNeg)] [] (pm_d rk_X9_unify 32 rfl) ml_X9_63 iv_X9_rootOf rfl rfl rfl rfl rfl (Nat.le_of_ble_eq_true rfl) hM ?_
    refine hq_istore (L1 := [(6, .int x7), (5, .int x5), (3, .int x3), (0, .ref 31), (4, .int y4)]) (pm_d rk_X9_unify 33 rfl) (by decide) rfl ?_
    refine hq_iload (pm_d rk_X9_unify 34 rfl) 1 rfl ?_
    show hp_go _ _ _ _ _ 61 _ _ _
    refine hq_iload (pm_d rk_X9_unify 35 rfl) 0 rfl ?_
    refine pm_jn (P := fun j136 => ∀ (z136_3 : Int32) (z136_4 : Int32) (s : hp_S), j136 z136_3 z136_4 s = some (x0, s1) → hp_go sh_C me_X9_unify (d + 2) (some (.int x0)) s1 136 [(0, .ref 31), (3, .int z136_3), (4, .int z136_4)] [] s) h ?_ (fun j136 hj136 h => ?_)
    · intro z136_3 z136_4 s h
      dsimp only at h
      refine hq_iinc (v := z136_4 + (1 : Int32)) (L1 := [(4, .int (z136_4 + (1 : Int32))), (0, .ref 31), (3, .int z136_3)]) (pm_d rk_X9_unify 71 rfl) 2 rfl (by rw [show Int32.ofInt (1) = (1 : Int32) by decide]) (by decide) rfl ?_
      refine pm_nm (G := fun x8 => hp_go sh_C me_X9_unify (d + 2) (some (.int x0)) s1 139 [(4, .int x8), (0, .ref 31), (3, .int z136_3)] [] s) h (fun x8 h => ?_)
      refine hq_goto 11 (pm_d rk_X9_unify 72 rfl) (by decide) ?_
      refine hq_drop [1, 2, 0] rfl ?_
      exact ih _ _ _ h
    refine hq_icmp_ne 69 (pm_d rk_X9_unify 36 rfl) (by decide) (fun hc => ?_) (fun hc => ?_)
    · rw [if_neg hc] at h
      refine hq_aload_n (pm_d rk_X9_unify 38 rfl) rfl 3 rfl ?_
      refine hq_iload (pm_d rk_X9_unify 39 rfl) 1 rfl ?_
      show hp_go _ _ _ _ _ 72 _ _ _
      obtain ⟨x10, t9, hq, h⟩ := pm_bd_i h
      have hM := w_C_X9_kind_31 (d := d + 1) (h := hq)
      refine hq_callVi (a := 31) (ci := 9) [.int x5] [] (pm_d rk_X9_unify 40 rfl) ml_X9_52 iv_X9_kind rfl rfl rfl rfl rfl (Nat.le_of_ble_eq_true rfl) hM ?_
      refine hq_if_ne 89 (pm_d rk_X9_unify 41 rfl) (by decide) (fun hc => ?_) (fun hc => ?_)
      · rw [if_neg hc] at h
        refine hq_aload_n (pm_d rk_X9_unify 47 rfl) rfl 3 rfl ?_
        refine hq_iload (pm_d rk_X9_unify 48 rfl) 0 rfl ?_
        obtain ⟨x12, t11, hq, h⟩ := pm_bd_i h
        have hM := w_C_X9_kind_31 (d := d + 1) (h := hq)
        refine hq_callVi (a := 31) (ci := 9) [.int x7] [] (pm_d rk_X9_unify 49 rfl) ml_X9_52 iv_X9_kind rfl rfl rfl rfl rfl (Nat.le_of_ble_eq_true rfl) hM ?_
        refine hq_if_ne 109 (pm_d rk_X9_unify 50 rfl) (by decide) (fun hc => ?_) (fun hc => ?_)
        · rw [if_neg hc] at h
          show hp_go _ _ _ _ _ 109 _ _ _
          refine hq_aload_n (pm_d rk_X9_unify 56 rfl) rfl 3 rfl ?_
          refine hq_iload (pm_d rk_X9_unify 57 rfl) 1 rfl ?_
          obtain ⟨x14, t13, hq, h⟩ := pm_bd_i h
          have hM := w_C_X9_kind_31 (d := d + 1) (h := hq)
          refine hq_callVi (a := 31) (ci := 9) [.int x5] [] (pm_d rk_X9_unify 58 rfl) ml_X9_52 iv_X9_kind rfl rfl rfl rfl rfl (Nat.le_of_ble_eq_true rfl) hM ?_
          refine hq_aload_n (pm_d rk_X9_unify 59 rfl) rfl 3 rfl ?_
          refine hq_iload (pm_d rk_X9_unify 60 rfl) 0 rfl ?_
          obtain ⟨x16, t15, hq, h⟩ := pm_bd_i h
          have hM := w_C_X9_kind_31 (d := d + 1) (h := hq)
          refine hq_callVi (a := 31) (ci := 9) [.int x7] [.int x14] (pm_d rk_X9_unify 61 rfl) ml_X9_52 iv_X9_kind rfl rfl rfl rfl rfl (Nat.le_of_ble_eq_true rfl) hM ?_
          show hp_go _ _ _ _ _ 121 _ _ _
          refine hq_icmp_eq 126 (pm_d rk_X9_unify 62 rfl) (by decide) (fun hc => ?_) (fun hc => ?_)
          · rw [if_pos hc] at h
            refine hq_aload_n (pm_d rk_X9_unify 65 rfl) rfl 3 rfl ?_
            refine hq_iload (pm_d rk_X9_unify 66 rfl) 1 rfl ?_
            refine hq_iload (pm_d rk_X9_unify 67 rfl) 0 rfl ?_
            refine hq_iload_n (pm_d rk_X9_unify 68 rfl) rfl 2 rfl ?_
            obtain ⟨x18, t17, hq, h⟩ := pm_bd_i h
            have hM := w_C_X9_unifyParts_31 (d := d + 0) (h := hq)
            refine hq_callVi (a := 31) (ci := 9) [.int x5, .int x7, .int x3] [] (pm_d rk_X9_unify 69 rfl) ml_X9_70 iv_X9_unifyParts rfl rfl rfl rfl rfl (Nat.le_of_ble_eq_true rfl) hM ?_
            show hp_go _ _ _ _ _ 135 _ _ _
            refine hq_istore_n (L1 := [(3, .int x18), (6, .int x7), (5, .int x5), (0, .ref 31), (4, .int y4)]) (pm_d rk_X9_unify 70 rfl) rfl (by decide) rfl ?_
            refine hq_drop [3, 0, 4] rfl ?_
            exact hj136 _ _ _ h
          rw [if_neg hc] at h
          refine hq_iconst (v := (0 : Int32)) (pm_d rk_X9_unify 63 rfl) (by decide) ?_
          exact hq_zret (pm_d rk_X9_unify 64 rfl) rfl rfl h
        rw [if_pos hc] at h
        refine hq_aload_n (pm_d rk_X9_unify 51 rfl) rfl 3 rfl ?_
        refine hq_iload (pm_d rk_X9_unify 52 rfl) 0 rfl ?_
        refine hq_iload (pm_d rk_X9_unify 53 rfl) 1 rfl ?_
        show hp_go _ _ _ _ _ 103 _ _ _
        obtain ⟨t19, hq, h⟩ := pm_b1_i h
        have hM := w_C_X9_link_31 (d := d + 1) (h := hq)
        refine hq_callVv (a := 31) (ci := 9) [.int x7, .int x5] [] (pm_d rk_X9_unify 54 rfl) ml_X9_66 iv_X9_link rfl rfl rfl rfl rfl (Nat.le_of_ble_eq_true rfl) hM ?_
        refine hq_goto 136 (pm_d rk_X9_unify 55 rfl) (by decide) ?_
        refine hq_drop [3, 2, 4] rfl ?_
        exact hj136 _ _ _ h
      rw [if_pos hc] at h
      refine hq_aload_n (pm_d rk_X9_unify 42 rfl) rfl 3 rfl ?_
      refine hq_iload (pm_d rk_X9_unify 43 rfl) 1 rfl ?_
      refine hq_iload (pm_d rk_X9_unify 44 rfl) 0 rfl ?_
      obtain ⟨t20, hq, h⟩ := pm_b1_i h
      have hM := w_C_X9_link_31 (d := d + 1) (h := hq)
      refine hq_callVv (a := 31) (ci := 9) [.int x5, .int x7] [] (pm_d rk_X9_unify 45 rfl) ml_X9_66 iv_X9_link rfl rfl rfl rfl rfl (Nat.le_of_ble_eq_true rfl) hM ?_
      show hp_go _ _ _ _ _ 86 _ _ _
      refine hq_goto 136 (pm_d rk_X9_unify 46 rfl) (by decide) ?_
      refine hq_drop [3, 2, 4] rfl ?_
      exact hj136 _ _ _ h
    rw [if_pos hc] at h
    refine hq_goto 136 (pm_d rk_X9_unify 37 rfl) (by decide) ?_
    refine hq_drop [3, 2, 4] rfl ?_
    exact hj136 _ _ _ h
def f_C_X9_unify_31 (n : Nat) (a1 : Int32) (a2 : Int32) (s : hp_S) : Option (Int32 × hp_S) :=
  pm_bd (f_C_X9_push_31 a1 a2 (0 : Int32) s) (fun x2 t1 =>
  l_C_X9_unify_31_11 n x2 (0 : Int32) t1)
set_option maxRecDepth 100000 in
set_option maxHeartbeats 400000 in
theorem w_C_X9_unify_31 (d : Nat) (n : Nat) (a1 : Int32) (a2 : Int32) (s s1 : hp_S) (x0 : Int32) (h : f_C_X9_unify_31 n a1 a2 s = some (x0, s1)) : hp_is sh_C me_X9_unify (d + 2) [.ref 31, .int a1, .int a2] s (some (.int x0)) s1 := by
  refine hp_ofF [(0, .ref 31), (1, .int a1), (2, .int a2)] (by decide +kernel) (Nat.le_of_ble_eq_true rfl) rfl ?_
  unfold f_C_X9_unify_31 at h
  refine hq_aload_n (pm_d rk_X9_unify 0 rfl) rfl 0 rfl ?_
  refine hq_iload_n (pm_d rk_X9_unify 1 rfl) rfl 1 rfl ?_
  refine hq_iload_n (pm_d rk_X9_unify 2 rfl) rfl 2 rfl ?_
  refine hq_iconst (v := (0 : Int32)) (pm_d rk_X9_unify 3 rfl) (by decide) ?_
  obtain ⟨x2, t1, hq, h⟩ := pm_bd_i h
  have hM := w_C_X9_push_31 (d := d + 1) (h := hq)
  refine hq_callVi (a := 31) (ci := 9) [.int a1, .int a2, .int (0 : Int32)] [] (pm_d rk_X9_unify 4 rfl) ml_X9_59 iv_X9_push rfl rfl rfl rfl rfl (Nat.le_of_ble_eq_true rfl) hM ?_
  show hp_go _ _ _ _ _ 7 _ _ _
  refine hq_istore_n (L1 := [(3, .int x2), (0, .ref 31), (1, .int a1), (2, .int a2)]) (pm_d rk_X9_unify 5 rfl) rfl (by decide) rfl ?_
  refine hq_iconst (v := (0 : Int32)) (pm_d rk_X9_unify 6 rfl) (by decide) ?_
  refine hq_istore (L1 := [(4, .int (0 : Int32)), (3, .int x2), (0, .ref 31), (1, .int a1), (2, .int a2)]) (pm_d rk_X9_unify 7 rfl) (by decide) rfl ?_
  refine hq_drop [2, 1, 0] rfl ?_
  exact wl_C_X9_unify_31_11 d _ _   _ _ _ _ h
def f_C_X9_intCell_31  (s : hp_S) : Option (Int32 × hp_S) :=
  some ((hs_I s 31 6), s)
set_option maxRecDepth 100000 in
set_option maxHeartbeats 400000 in
theorem w_C_X9_intCell_31 (d : Nat)  (s s1 : hp_S) (x0 : Int32) (h : f_C_X9_intCell_31 s = some (x0, s1)) : hp_is sh_C me_X9_intCell (d + 0) [.ref 31] s (some (.int x0)) s1 := by
  refine hp_ofF [(0, .ref 31)] (by decide +kernel) (Nat.le_of_ble_eq_true rfl) rfl ?_
  unfold f_C_X9_intCell_31 at h
  refine hq_aload_n (pm_d rk_X9_intCell 0 rfl) rfl 0 rfl ?_
  refine hq_getI 6 (pm_d rk_X9_intCell 1 rfl) fl_X9_31 rfl rfl ?_
  exact hq_iret (pm_d rk_X9_intCell 2 rfl) rfl h
def f_C_X9_function_31 (a1 : Int32) (a2 : Int32) (s : hp_S) : Option (Int32 × hp_S) :=
  pm_bd (f_C_X9_add_31 (4 : Int32) a1 a2 s) (fun x2 t1 =>
  some (x2, t1))
set_option maxRecDepth 100000 in
set_option maxHeartbeats 400000 in
theorem w_C_X9_function_31 (d : Nat) (a1 : Int32) (a2 : Int32) (s s1 : hp_S) (x0 : Int32) (h : f_C_X9_function_31 a1 a2 s = some (x0, s1)) : hp_is sh_C me_X9_function (d + 1) [.ref 31, .int a1, .int a2] s (some (.int x0)) s1 := by
  refine hp_ofF [(0, .ref 31), (1, .int a1), (2, .int a2)] (by decide +kernel) (Nat.le_of_ble_eq_true rfl) rfl ?_
  unfold f_C_X9_function_31 at h
  refine hq_aload_n (pm_d rk_X9_function 0 rfl) rfl 0 rfl ?_
  refine hq_iconst (v := (4 : Int32)) (pm_d rk_X9_function 1 rfl) (by decide) ?_
  refine hq_iload_n (pm_d rk_X9_function 2 rfl) rfl 1 rfl ?_
  refine hq_iload_n (pm_d rk_X9_function 3 rfl) rfl 2 rfl ?_
  obtain ⟨x2, t1, hq, h⟩ := pm_bd_i h
  have hM := w_C_X9_add_31 (d := d + 0) (h := hq)
  refine hq_callVi (a := 31) (ci := 9) [.int (4 : Int32), .int a1, .int a2] [] (pm_d rk_X9_function 4 rfl) ml_X9_41 iv_X9_add rfl rfl rfl rfl rfl (Nat.le_of_ble_eq_true rfl) hM ?_
  show hp_go _ _ _ _ _ 7 _ _ _
  exact hq_iret (pm_d rk_X9_function 5 rfl) rfl h
def f_C_X9_boolCell_31  (s : hp_S) : Option (Int32 × hp_S) :=
  some ((hs_I s 31 7), s)
set_option maxRecDepth 100000 in
set_option maxHeartbeats 400000 in
theorem w_C_X9_boolCell_31 (d : Nat)  (s s1 : hp_S) (x0 : Int32) (h : f_C_X9_boolCell_31 s = some (x0, s1)) : hp_is sh_C me_X9_boolCell (d + 0) [.ref 31] s (some (.int x0)) s1 := by
  refine hp_ofF [(0, .ref 31)] (by decide +kernel) (Nat.le_of_ble_eq_true rfl) rfl ?_
  unfold f_C_X9_boolCell_31 at h
  refine hq_aload_n (pm_d rk_X9_boolCell 0 rfl) rfl 0 rfl ?_
  refine hq_getI 7 (pm_d rk_X9_boolCell 1 rfl) fl_X9_34 rfl rfl ?_
  exact hq_iret (pm_d rk_X9_boolCell 2 rfl) rfl h
def f_C_X2_third_17 (a1 : Int32) (s : hp_S) : Option (Int32 × hp_S) :=
  pm_bd (f_C_X2_holds_17 a1 s) (fun x2 t1 =>
  if x2 = 0 then
    some ((-1 : Int32), t1)
  else
    pm_gd1 (pm_ib a1 100) (
    some ((hs_A t1 21 a1.toNatClampNeg), t1)))
set_option maxRecDepth 100000 in
set_option maxHeartbeats 400000 in
theorem w_C_X2_third_17 (d : Nat) (a1 : Int32) (s s1 : hp_S) (x0 : Int32) (h : f_C_X2_third_17 a1 s = some (x0, s1)) : hp_is sh_C me_X2_third (d + 1) [.ref 17, .int a1] s (some (.int x0)) s1 := by
  refine hp_ofF [(0, .ref 17), (1, .int a1)] (by decide +kernel) (Nat.le_of_ble_eq_true rfl) rfl ?_
  unfold f_C_X2_third_17 at h
  refine hq_aload_n (pm_d rk_X2_third 0 rfl) rfl 0 rfl ?_
  refine hq_iload_n (pm_d rk_X2_third 1 rfl) rfl 1 rfl ?_
  obtain ⟨x2, t1, hq, h⟩ := pm_bd_i h
  have hM := w_C_X2_holds_17 (d := d + 0) (h := hq)
  refine hq_callVi (a := 17) (ci := 2) [.int a1] [] (pm_d rk_X2_third 2 rfl) ml_X2_33 iv_X2_holds rfl rfl rfl rfl rfl (Nat.le_of_ble_eq_true rfl) hM ?_
  refine hq_if_eq 17 (pm_d rk_X2_third 3 rfl) (by decide) (fun hc => ?_) (fun hc => ?_)
  · rw [if_pos hc] at h
    refine hq_iconst (v := (-1 : Int32)) (pm_d rk_X2_third 9 rfl) (by decide) ?_
    show hp_go _ _ _ _ _ 18 _ _ _
    exact hq_iret (pm_d rk_X2_third 10 rfl) rfl h
  rw [if_neg hc] at h
  refine hq_aload_n (pm_d rk_X2_third 4 rfl) rfl 0 rfl ?_
  refine hq_getR (h := 21) 3 (pm_d rk_X2_third 5 rfl) fl_X2_27 rfl rfl ?_
  refine hq_iload_n (pm_d rk_X2_third 6 rfl) rfl 1 rfl ?_
  obtain ⟨hg, h⟩ := pm_gd_i h
  refine hq_iaload (pm_d rk_X2_third 7 rfl) rfl hg ?_
  refine hq_goto 18 (pm_d rk_X2_third 8 rfl) (by decide) ?_
  show hp_go _ _ _ _ _ 18 _ _ _
  exact hq_iret (pm_d rk_X2_third 10 rfl) rfl h
def f_C_X9_pair_31 (a1 : Int32) (a2 : Int32) (s : hp_S) : Option (Int32 × hp_S) :=
  pm_bd (f_C_X9_add_31 (5 : Int32) a1 a2 s) (fun x2 t1 =>
  some (x2, t1))
set_option maxRecDepth 100000 in
set_option maxHeartbeats 400000 in
theorem w_C_X9_pair_31 (d : Nat) (a1 : Int32) (a2 : Int32) (s s1 : hp_S) (x0 : Int32) (h : f_C_X9_pair_31 a1 a2 s = some (x0, s1)) : hp_is sh_C me_X9_pair (d + 1) [.ref 31, .int a1, .int a2] s (some (.int x0)) s1 := by
  refine hp_ofF [(0, .ref 31), (1, .int a1), (2, .int a2)] (by decide +kernel) (Nat.le_of_ble_eq_true rfl) rfl ?_
  unfold f_C_X9_pair_31 at h
  refine hq_aload_n (pm_d rk_X9_pair 0 rfl) rfl 0 rfl ?_
  refine hq_iconst (v := (5 : Int32)) (pm_d rk_X9_pair 1 rfl) (by decide) ?_
  refine hq_iload_n (pm_d rk_X9_pair 2 rfl) rfl 1 rfl ?_
  refine hq_iload_n (pm_d rk_X9_pair 3 rfl) rfl 2 rfl ?_
  obtain ⟨x2, t1, hq, h⟩ := pm_bd_i h
  have hM := w_C_X9_add_31 (d := d + 0) (h := hq)
  refine hq_callVi (a := 31) (ci := 9) [.int (5 : Int32), .int a1, .int a2] [] (pm_d rk_X9_pair 4 rfl) ml_X9_41 iv_X9_add rfl rfl rfl rfl rfl (Nat.le_of_ble_eq_true rfl) hM ?_
  show hp_go _ _ _ _ _ 7 _ _ _
  exact hq_iret (pm_d rk_X9_pair 5 rfl) rfl h
def f_C_X9_partFunction_31 (a1 : Int32) (s : hp_S) : Option (Int32 × hp_S) :=
  pm_bd (f_C_X9_free_31 s) (fun x2 t1 =>
  pm_bd (f_C_X9_free_31 t1) (fun x4 t3 =>
  pm_bd (f_C_X9_pair_31 x2 x4 t3) (fun x6 t5 =>
  pm_let (fun (z26_S0 : Int32) (z26_S1 : Int32) (s : hp_S) =>
    pm_bd (f_C_X9_function_31 z26_S1 z26_S0 s) (fun x8 t7 =>
    some (x8, t7))) (fun j26 =>
  if a1 = 0 then
    j26 x4 x6 t5
  else
    j26 x2 x6 t5))))
set_option maxRecDepth 100000 in
set_option maxHeartbeats 400000 in
theorem w_C_X9_partFunction_31 (d : Nat) (a1 : Int32) (s s1 : hp_S) (x0 : Int32) (h : f_C_X9_partFunction_31 a1 s = some (x0, s1)) : hp_is sh_C me_X9_partFunction (d + 2) [.ref 31, .int a1] s (some (.int x0)) s1 := by
  refine hp_ofF [(0, .ref 31), (1, .int a1)] (by decide +kernel) (Nat.le_of_ble_eq_true rfl) rfl ?_
  unfold f_C_X9_partFunction_31 at h
  refine hq_aload_n (pm_d rk_X9_partFunction 0 rfl) rfl 0 rfl ?_
  obtain ⟨x2, t1, hq, h⟩ := pm_bd_i h
  have hM := w_C_X9_free_31 (d := d + 0) (h := hq)
  refine hq_callVi (a := 31) (ci := 9) [] [] (pm_d rk_X9_partFunction 1 rfl) ml_X9_37 iv_X9_free rfl rfl rfl rfl rfl (Nat.le_of_ble_eq_true rfl) hM ?_
  refine hq_istore_n (L1 := [(2, .int x2), (0, .ref 31), (1, .int a1)]) (pm_d rk_X9_partFunction 2 rfl) rfl (by decide) rfl ?_
  refine hq_aload_n (pm_d rk_X9_partFunction 3 rfl) rfl 1 rfl ?_
  obtain ⟨x4, t3, hq, h⟩ := pm_bd_i h
  have hM := w_C_X9_free_31 (d := d + 0) (h := hq)
  refine hq_callVi (a := 31) (ci := 9) [] [] (pm_d rk_X9_partFunction 4 rfl) ml_X9_37 iv_X9_free rfl rfl rfl rfl rfl (Nat.le_of_ble_eq_true rfl) hM ?_
  show hp_go _ _ _ _ _ 9 _ _ _
  refine hq_istore_n (L1 := [(3, .int x4), (2, .int x2), (0, .ref 31), (1, .int a1)]) (pm_d rk_X9_partFunction 5 rfl) rfl (by decide) rfl ?_
  refine hq_aload_n (pm_d rk_X9_partFunction 6 rfl) rfl 2 rfl ?_
  refine hq_aload_n (pm_d rk_X9_partFunction 7 rfl) rfl 2 rfl ?_
  refine hq_iload_n (pm_d rk_X9_partFunction 8 rfl) rfl 1 rfl ?_
  refine hq_iload_n (pm_d rk_X9_partFunction 9 rfl) rfl 0 rfl ?_
  obtain ⟨x6, t5, hq, h⟩ := pm_bd_i h
  have hM := w_C_X9_pair_31 (d := d + 0) (h := hq)
  refine hq_callVi (a := 31) (ci := 9) [.int x2, .int x4] [.ref 31] (pm_d rk_X9_partFunction 10 rfl) ml_X9_45 iv_X9_pair rfl rfl rfl rfl rfl (Nat.le_of_ble_eq_true rfl) hM ?_
  show hp_go _ _ _ _ _ 17 _ _ _
  refine hq_iload_n (pm_d rk_X9_partFunction 11 rfl) rfl 3 rfl ?_
  refine pm_jn (P := fun j26 => ∀ (z26_S0 : Int32) (z26_S1 : Int32) (s : hp_S), j26 z26_S0 z26_S1 s = some (x0, s1) → hp_go sh_C me_X9_partFunction (d + 2) (some (.int x0)) s1 26 [] [.int z26_S0, .int z26_S1, .ref 31] s) h ?_ (fun j26 hj26 h => ?_)
  · intro z26_S0 z26_S1 s h
    dsimp only at h
    obtain ⟨x8, t7, hq, h⟩ := pm_bd_i h
    have hM := w_C_X9_function_31 (d := d + 0) (h := hq)
    refine hq_callVi (a := 31) (ci := 9) [.int z26_S1, .int z26_S0] [] (pm_d rk_X9_partFunction 16 rfl) ml_X9_49 iv_X9_function rfl rfl rfl rfl rfl (Nat.le_of_ble_eq_true rfl) hM ?_
    exact hq_iret (pm_d rk_X9_partFunction 17 rfl) rfl h
  refine hq_if_eq 25 (pm_d rk_X9_partFunction 12 rfl) (by decide) (fun hc => ?_) (fun hc => ?_)
  · rw [if_pos hc] at h
    refine hq_iload_n (pm_d rk_X9_partFunction 15 rfl) rfl 0 rfl ?_
    refine hq_drop [] rfl ?_
    exact hj26 _ _ _ h
  rw [if_neg hc] at h
  refine hq_iload_n (pm_d rk_X9_partFunction 13 rfl) rfl 1 rfl ?_
  show hp_go _ _ _ _ _ 22 _ _ _
  refine hq_goto 26 (pm_d rk_X9_partFunction 14 rfl) (by decide) ?_
  refine hq_drop [] rfl ?_
  exact hj26 _ _ _ h
def f_C_X0_ask_37 (n : Nat) (a1 : Int32) (a2 : Int32) (s : hp_S) : Option (Int32 × hp_S) :=
  pm_bd (f_C_X1_variable_26 a1 a2 s) (fun x2 t1 =>
  pm_bd (f_C_X2_first_17 a2 t1) (fun x4 t3 =>
  pm_bd (f_C_X1_variable_26 a1 x4 t3) (fun x6 t5 =>
  pm_bd (f_C_X2_second_17 a2 t5) (fun x8 t7 =>
  pm_bd (f_C_X1_variable_26 a1 x8 t7) (fun x10 t9 =>
  pm_bd (f_C_X2_kind_17 a2 t9) (fun x12 t11 =>
  if x12 = (2 : Int32) then
    pm_bd (f_C_X1_target_26 x2 t11) (fun x14 t13 =>
    pm_bd (f_C_X9_unify_31 n x2 x14 t13) (fun x16 t15 =>
    pm_gd1 (pm_bl x16) (some (x16, t15))))
  else
  if x12 = (3 : Int32) then
    pm_bd (f_C_X9_intCell_31 t11) (fun x18 t17 =>
    pm_bd (f_C_X9_unify_31 n x2 x18 t17) (fun x20 t19 =>
    pm_gd1 (pm_bl x20) (some (x20, t19))))
  else
  if x12 = (4 : Int32) then
    pm_bd (f_C_X9_function_31 (x2 + (1 : Int32)) x6 t11) (fun x22 t21 =>
    pm_bd (f_C_X9_unify_31 n x2 x22 t21) (fun x24 t23 =>
    pm_gd1 (pm_bl x24) (some (x24, t23))))
  else
  if x12 = (5 : Int32) then
    pm_bd (f_C_X9_unify_31 n x2 x10 t11) (fun x26 t25 =>
    pm_gd1 (pm_bl x26) (some (x26, t25)))
  else
  if x12 = (6 : Int32) then
    some ((1 : Int32), t11)
  else
  if x12 = (7 : Int32) then
    pm_bd (f_C_X9_boolCell_31 t11) (fun x28 t27 =>
    pm_bd (f_C_X9_unify_31 n x6 x28 t27) (fun x30 t29 =>
    if x30 = 0 then
      some ((0 : Int32), t29)
    else
      pm_bd (f_C_X9_unify_31 n x2 x10 t29) (fun x32 t31 =>
      if x32 = 0 then
        some ((0 : Int32), t31)
      else
        pm_bd (f_C_X2_third_17 a2 t31) (fun x34 t33 =>
        pm_bd (f_C_X1_variable_26 a1 x34 t33) (fun x36 t35 =>
        pm_bd (f_C_X9_unify_31 n x2 x36 t35) (fun x38 t37 =>
        if x38 = 0 then
          some ((0 : Int32), t37)
        else
          some ((1 : Int32), t37)))))))
  else
  if x12 = (8 : Int32) then
    some ((1 : Int32), t11)
  else
  if x12 = (9 : Int32) then
    some ((1 : Int32), t11)
  else
  if x12 = (10 : Int32) then
    pm_bd (f_C_X9_boolCell_31 t11) (fun x40 t39 =>
    pm_bd (f_C_X9_unify_31 n x2 x40 t39) (fun x42 t41 =>
    pm_gd1 (pm_bl x42) (some (x42, t41))))
  else
  if x12 = (11 : Int32) then
    pm_bd (f_C_X9_boolCell_31 t11) (fun x44 t43 =>
    pm_bd (f_C_X9_unify_31 n x2 x44 t43) (fun x46 t45 =>
    pm_gd1 (pm_bl x46) (some (x46, t45))))
  else
  if x12 = (12 : Int32) then
    pm_bd (f_C_X9_boolCell_31 t11) (fun x48 t47 =>
    pm_bd (f_C_X9_boolCell_31 t47) (fun x50 t49 =>
    pm_bd (f_C_X9_function_31 x48 x50 t49) (fun x52 t51 =>
    pm_bd (f_C_X9_unify_31 n x2 x52 t51) (fun x54 t53 =>
    pm_gd1 (pm_bl x54) (some (x54, t53))))))
  else
  if x12 = (13 : Int32) then
    pm_bd (f_C_X9_partFunction_31 (1 : Int32) t11) (fun x56 t55 =>
    pm_bd (f_C_X9_unify_31 n x2 x56 t55) (fun x58 t57 =>
    pm_gd1 (pm_bl x58) (some (x58, t57))))
  else
  if x12 = (14 : Int32) then
    pm_bd (f_C_X9_partFunction_31 (0 : Int32) t11) (fun x60 t59 =>
    pm_bd (f_C_X9_unify_31 n x2 x60 t59) (fun x62 t61 =>
    pm_gd1 (pm_bl x62) (some (x62, t61))))
  else
  if x12 = (15 : Int32) then
    some ((1 : Int32), t11)
  else
  if x12 = (16 : Int32) then
    some ((1 : Int32), t11)
  else
  if x12 = (17 : Int32) then
    pm_bd (f_C_X9_function_31 x10 x2 t11) (fun x64 t63 =>
    pm_bd (f_C_X9_unify_31 n x6 x64 t63) (fun x66 t65 =>
    pm_gd1 (pm_bl x66) (some (x66, t65))))
  else
  if x12 = (18 : Int32) then
    some ((1 : Int32), t11)
  else
  if x12 = (19 : Int32) then
    pm_bd (f_C_X9_pair_31 x6 x10 t11) (fun x68 t67 =>
    pm_bd (f_C_X9_unify_31 n x2 x68 t67) (fun x70 t69 =>
    pm_gd1 (pm_bl x70) (some (x70, t69))))
  else
  if x12 = (20 : Int32) then
    pm_bd (f_C_X9_intCell_31 t11) (fun x72 t71 =>
    pm_bd (f_C_X9_unify_31 n x6 x72 t71) (fun x74 t73 =>
    if x74 = 0 then
      some ((0 : Int32), t73)
    else
      pm_bd (f_C_X9_intCell_31 t73) (fun x76 t75 =>
      pm_bd (f_C_X9_unify_31 n x10 x76 t75) (fun x78 t77 =>
      if x78 = 0 then
        some ((0 : Int32), t77)
      else
        pm_bd (f_C_X9_intCell_31 t77) (fun x80 t79 =>
        pm_bd (f_C_X9_unify_31 n x2 x80 t79) (fun x82 t81 =>
        if x82 = 0 then
          some ((0 : Int32), t81)
        else
          some ((1 : Int32), t81)))))))
  else
  if x12 = (21 : Int32) then
    pm_bd (f_C_X9_intCell_31 t11) (fun x84 t83 =>
    pm_bd (f_C_X9_unify_31 n x6 x84 t83) (fun x86 t85 =>
    if x86 = 0 then
      some ((0 : Int32), t85)
    else
      pm_bd (f_C_X9_intCell_31 t85) (fun x88 t87 =>
      pm_bd (f_C_X9_unify_31 n x10 x88 t87) (fun x90 t89 =>
      if x90 = 0 then
        some ((0 : Int32), t89)
      else
        pm_bd (f_C_X9_boolCell_31 t89) (fun x92 t91 =>
        pm_bd (f_C_X9_unify_31 n x2 x92 t91) (fun x94 t93 =>
        if x94 = 0 then
          some ((0 : Int32), t93)
        else
          some ((1 : Int32), t93)))))))
  else
    some ((1 : Int32), t11)))))))
set_option maxRecDepth 100000 in
set_option maxHeartbeats 400000 in
theorem w_C_X0_ask_37 (d : Nat) (n : Nat) (a1 : Int32) (a2 : Int32) (s s1 : hp_S) (x0 : Int32) (h : f_C_X0_ask_37 n a1 a2 s = some (x0, s1)) : hp_is sh_C me_X0_ask (d + 3) [.ref 37, .int a1, .int a2] s (some (.int x0)) s1 := by
  refine hp_ofF [(0, .ref 37), (1, .int a1), (2, .int a2)] (by decide +kernel) (Nat.le_of_ble_eq_true rfl) rfl ?_
  unfold f_C_X0_ask_37 at h
  refine hq_aload_n (pm_d rk_X0_ask 0 rfl) rfl 0 rfl ?_
  refine hq_getR (h := 26) 2 (pm_d rk_X0_ask 1 rfl) fl_X0_28 rfl rfl ?_
  refine hq_iload_n (pm_d rk_X0_ask 2 rfl) rfl 1 rfl ?_
  refine hq_iload_n (pm_d rk_X0_ask 3 rfl) rfl 2 rfl ?_
  obtain ⟨x2, t1, hq, h⟩ := pm_bd_i h
  have hM := w_C_X1_variable_26 (d := d + 0) (h := hq)
  refine hq_callVi (a := 26) (ci := 1) [.int a1, .int a2] [] (pm_d rk_X0_ask 4 rfl) ml_X0_73 iv_X1_variable rfl rfl rfl rfl rfl (Nat.le_of_ble_eq_true rfl) hM ?_
  show hp_go _ _ _ _ _ 9 _ _ _
  refine hq_istore_n (L1 := [(3, .int x2), (0, .ref 37), (1, .int a1), (2, .int a2)]) (pm_d rk_X0_ask 5 rfl) rfl (by decide) rfl ?_
  refine hq_aload_n (pm_d rk_X0_ask 6 rfl) rfl 1 rfl ?_
  refine hq_getR (h := 26) 2 (pm_d rk_X0_ask 7 rfl) fl_X0_28 rfl rfl ?_
  refine hq_iload_n (pm_d rk_X0_ask 8 rfl) rfl 2 rfl ?_
  refine hq_aload_n (pm_d rk_X0_ask 9 rfl) rfl 1 rfl ?_
  refine hq_getR (h := 17) 1 (pm_d rk_X0_ask 10 rfl) fl_X0_25 rfl rfl ?_
  show hp_go _ _ _ _ _ 19 _ _ _
  refine hq_iload_n (pm_d rk_X0_ask 11 rfl) rfl 3 rfl ?_
  obtain ⟨x4, t3, hq, h⟩ := pm_bd_i h
  have hM := w_C_X2_first_17 (d := d + 1) (h := hq)
  refine hq_callVi (a := 17) (ci := 2) [.int a2] [.int a1, .ref 26] (pm_d rk_X0_ask 12 rfl) ml_X0_77 iv_X2_first rfl rfl rfl rfl rfl (Nat.le_of_ble_eq_true rfl) hM ?_
  obtain ⟨x6, t5, hq, h⟩ := pm_bd_i h
  have hM := w_C_X1_variable_26 (d := d + 0) (h := hq)
  refine hq_callVi (a := 26) (ci := 1) [.int a1, .int x4] [] (pm_d rk_X0_ask 13 rfl) ml_X0_73 iv_X1_variable rfl rfl rfl rfl rfl (Nat.le_of_ble_eq_true rfl) hM ?_
  refine hq_istore (L1 := [(4, .int x6), (3, .int x2), (0, .ref 37), (1, .int a1), (2, .int a2)]) (pm_d rk_X0_ask 14 rfl) (by decide) rfl ?_
  refine hq_aload_n (pm_d rk_X0_ask 15 rfl) rfl 2 rfl ?_
  refine hq_getR (h := 26) 2 (pm_d rk_X0_ask 16 rfl) fl_X0_28 rfl rfl ?_
  show hp_go _ _ _ _ _ 32 _ _ _
  refine hq_iload_n (pm_d rk_X0_ask 17 rfl) rfl 3 rfl ?_
  refine hq_aload_n (pm_d rk_X0_ask 18 rfl) rfl 2 rfl ?_
  refine hq_getR (h := 17) 1 (pm_d rk_X0_ask 19 rfl) fl_X0_25 rfl rfl ?_
  refine hq_iload_n (pm_d rk_X0_ask 20 rfl) rfl 4 rfl ?_
  obtain ⟨x8, t7, hq, h⟩ := pm_bd_i h
  have hM := w_C_X2_second_17 (d := d + 1) (h := hq)
  refine hq_callVi (a := 17) (ci := 2) [.int a2] [.int a1, .ref 26] (pm_d rk_X0_ask 21 rfl) ml_X0_82 iv_X2_second rfl rfl rfl rfl rfl (Nat.le_of_ble_eq_true rfl) hM ?_
  obtain ⟨x10, t9, hq, h⟩ := pm_bd_i h
  have hM := w_C_X1_variable_26 (d := d + 0) (h := hq)
  refine hq_callVi (a := 26) (ci := 1) [.int a1, .int x8] [] (pm_d rk_X0_ask 22 rfl) ml_X0_73 iv_X1_variable rfl rfl rfl rfl rfl (Nat.le_of_ble_eq_true rfl) hM ?_
  show hp_go _ _ _ _ _ 44 _ _ _
  refine hq_istore (L1 := [(5, .int x10), (4, .int x6), (3, .int x2), (0, .ref 37), (1, .int a1), (2, .int a2)]) (pm_d rk_X0_ask 23 rfl) (by decide) rfl ?_
  refine hq_aload_n (pm_d rk_X0_ask 24 rfl) rfl 3 rfl ?_
  refine hq_getR (h := 17) 1 (pm_d rk_X0_ask 25 rfl) fl_X0_25 rfl rfl ?_
  refine hq_iload_n (pm_d rk_X0_ask 26 rfl) rfl 5 rfl ?_
  obtain ⟨x12, t11, hq, h⟩ := pm_bd_i h
  have hM := w_C_X2_kind_17 (d := d + 1) (h := hq)
  refine hq_callVi (a := 17) (ci := 2) [.int a2] [] (pm_d rk_X0_ask 27 rfl) ml_X0_85 iv_X2_kind rfl rfl rfl rfl rfl (Nat.le_of_ble_eq_true rfl) hM ?_
  by_cases hc0 : x12 = (2 : Int32)
  · rw [if_pos hc0] at h
    refine hq_tableIn 148 (pm_d rk_X0_ask 28 rfl) (by rw [hc0]; decide) (by rw [hc0]; decide) (by rw [hc0] <;> rfl) (by decide) ?_
    show hp_go _ _ _ _ _ 148 _ _ _
    refine hq_aload_n (pm_d rk_X0_ask 29 rfl) rfl 3 rfl ?_
    refine hq_getR (h := 31) 3 (pm_d rk_X0_ask 30 rfl) fl_X0_32 rfl rfl ?_
    refine hq_iload_n (pm_d rk_X0_ask 31 rfl) rfl 2 rfl ?_
    refine hq_aload_n (pm_d rk_X0_ask 32 rfl) rfl 3 rfl ?_
    refine hq_getR (h := 26) 2 (pm_d rk_X0_ask 33 rfl) fl_X0_28 rfl rfl ?_
    refine hq_iload_n (pm_d rk_X0_ask 34 rfl) rfl 2 rfl ?_
    show hp_go _ _ _ _ _ 158 _ _ _
    obtain ⟨x14, t13, hq, h⟩ := pm_bd_i h
    have hM := w_C_X1_target_26 (d := d + 2) (h := hq)
    refine hq_callVi (a := 26) (ci := 1) [.int x2] [.int x2, .ref 31] (pm_d rk_X0_ask 35 rfl) ml_X0_88 iv_X1_target rfl rfl rfl rfl rfl (Nat.le_of_ble_eq_true rfl) hM ?_
    obtain ⟨x16, t15, hq, h⟩ := pm_bd_i h
    have hM := w_C_X9_unify_31 (d := d + 0) (h := hq)
    refine hq_callVi (a := 31) (ci := 9) [.int x2, .int x14] [] (pm_d rk_X0_ask 36 rfl) ml_X0_91 iv_X9_unify rfl rfl rfl rfl rfl (Nat.le_of_ble_eq_true rfl) hM ?_
    obtain ⟨hg, h⟩ := pm_gd_i h
    exact hq_zret (pm_d rk_X0_ask 37 rfl) rfl (pm_bl_n hg) h
  rw [if_neg hc0] at h
  by_cases hc1 : x12 = (3 : Int32)
  · rw [if_pos hc1] at h
    refine hq_tableIn 165 (pm_d rk_X0_ask 28 rfl) (by rw [hc1]; decide) (by rw [hc1]; decide) (by rw [hc1] <;> rfl) (by decide) ?_
    refine hq_aload_n (pm_d rk_X0_ask 38 rfl) rfl 3 rfl ?_
    refine hq_getR (h := 31) 3 (pm_d rk_X0_ask 39 rfl) fl_X0_32 rfl rfl ?_
    refine hq_iload_n (pm_d rk_X0_ask 40 rfl) rfl 2 rfl ?_
    show hp_go _ _ _ _ _ 170 _ _ _
    refine hq_aload_n (pm_d rk_X0_ask 41 rfl) rfl 3 rfl ?_
    refine hq_getR (h := 31) 3 (pm_d rk_X0_ask 42 rfl) fl_X0_32 rfl rfl ?_
    obtain ⟨x18, t17, hq, h⟩ := pm_bd_i h
    have hM := w_C_X9_intCell_31 (d := d + 2) (h := hq)
    refine hq_callVi (a := 31) (ci := 9) [] [.int x2, .ref 31] (pm_d rk_X0_ask 43 rfl) ml_X0_94 iv_X9_intCell rfl rfl rfl rfl rfl (Nat.le_of_ble_eq_true rfl) hM ?_
    obtain ⟨x20, t19, hq, h⟩ := pm_bd_i h
    have hM := w_C_X9_unify_31 (d := d + 0) (h := hq)
    refine hq_callVi (a := 31) (ci := 9) [.int x2, .int x18] [] (pm_d rk_X0_ask 44 rfl) ml_X0_91 iv_X9_unify rfl rfl rfl rfl rfl (Nat.le_of_ble_eq_true rfl) hM ?_
    obtain ⟨hg, h⟩ := pm_gd_i h
    exact hq_zret (pm_d rk_X0_ask 45 rfl) rfl (pm_bl_n hg) h
  rw [if_neg hc1] at h
  by_cases hc2 : x12 = (4 : Int32)
  · rw [if_pos hc2] at h
    refine hq_tableIn 261 (pm_d rk_X0_ask 28 rfl) (by rw [hc2]; decide) (by rw [hc2]; decide) (by rw [hc2] <;> rfl) (by decide) ?_
    refine hq_aload_n (pm_d rk_X0_ask 86 rfl) rfl 3 rfl ?_
    show hp_go _ _ _ _ _ 262 _ _ _
    refine hq_getR (h := 31) 3 (pm_d rk_X0_ask 87 rfl) fl_X0_32 rfl rfl ?_
    refine hq_iload_n (pm_d rk_X0_ask 88 rfl) rfl 2 rfl ?_
    refine hq_aload_n (pm_d rk_X0_ask 89 rfl) rfl 3 rfl ?_
    refine hq_getR (h := 31) 3 (pm_d rk_X0_ask 90 rfl) fl_X0_32 rfl rfl ?_
    refine hq_iload_n (pm_d rk_X0_ask 91 rfl) rfl 2 rfl ?_
    refine hq_iconst (v := (1 : Int32)) (pm_d rk_X0_ask 92 rfl) (by decide) ?_
    show hp_go _ _ _ _ _ 272 _ _ _
    refine hq_iadd (pm_d rk_X0_ask 93 rfl) ?_
    refine hq_iload (pm_d rk_X0_ask 94 rfl) 1 rfl ?_
    obtain ⟨x22, t21, hq, h⟩ := pm_bd_i h
    have hM := w_C_X9_function_31 (d := d + 1) (h := hq)
    refine hq_callVi (a := 31) (ci := 9) [.int (x2 + (1 : Int32)), .int x6] [.int x2, .ref 31] (pm_d rk_X0_ask 95 rfl) ml_X0_100 iv_X9_function rfl rfl rfl rfl rfl (Nat.le_of_ble_eq_true rfl) hM ?_
    obtain ⟨x24, t23, hq, h⟩ := pm_bd_i h
    have hM := w_C_X9_unify_31 (d := d + 0) (h := hq)
    refine hq_callVi (a := 31) (ci := 9) [.int x2, .int x22] [] (pm_d rk_X0_ask 96 rfl) ml_X0_91 iv_X9_unify rfl rfl rfl rfl rfl (Nat.le_of_ble_eq_true rfl) hM ?_
    obtain ⟨hg, h⟩ := pm_gd_i h
    exact hq_zret (pm_d rk_X0_ask 97 rfl) rfl (pm_bl_n hg) h
  rw [if_neg hc2] at h
  by_cases hc3 : x12 = (5 : Int32)
  · rw [if_pos hc3] at h
    refine hq_tableIn 282 (pm_d rk_X0_ask 28 rfl) (by rw [hc3]; decide) (by rw [hc3]; decide) (by rw [hc3] <;> rfl) (by decide) ?_
    refine hq_aload_n (pm_d rk_X0_ask 98 rfl) rfl 3 rfl ?_
    show hp_go _ _ _ _ _ 283 _ _ _
    refine hq_getR (h := 31) 3 (pm_d rk_X0_ask 99 rfl) fl_X0_32 rfl rfl ?_
    refine hq_iload_n (pm_d rk_X0_ask 100 rfl) rfl 2 rfl ?_
    refine hq_iload (pm_d rk_X0_ask 101 rfl) 0 rfl ?_
    obtain ⟨x26, t25, hq, h⟩ := pm_bd_i h
    have hM := w_C_X9_unify_31 (d := d + 0) (h := hq)
    refine hq_callVi (a := 31) (ci := 9) [.int x2, .int x10] [] (pm_d rk_X0_ask 102 rfl) ml_X0_91 iv_X9_unify rfl rfl rfl rfl rfl (Nat.le_of_ble_eq_true rfl) hM ?_
    obtain ⟨hg, h⟩ := pm_gd_i h
    exact hq_zret (pm_d rk_X0_ask 103 rfl) rfl (pm_bl_n hg) h
  rw [if_neg hc3] at h
  by_cases hc4 : x12 = (6 : Int32)
  · rw [if_pos hc4] at h
    refine hq_tableIn 522 (pm_d rk_X0_ask 28 rfl) (by rw [hc4]; decide) (by rw [hc4]; decide) (by rw [hc4] <;> rfl) (by decide) ?_
    refine hq_iconst (v := (1 : Int32)) (pm_d rk_X0_ask 211 rfl) (by decide) ?_
    show hp_go _ _ _ _ _ 523 _ _ _
    exact hq_zret (pm_d rk_X0_ask 212 rfl) rfl rfl h
  rw [if_neg hc4] at h
  by_cases hc5 : x12 = (7 : Int32)
  · rw [if_pos hc5] at h
    refine hq_tableIn 293 (pm_d rk_X0_ask 28 rfl) (by rw [hc5]; decide) (by rw [hc5]; decide) (by rw [hc5] <;> rfl) (by decide) ?_
    refine hq_aload_n (pm_d rk_X0_ask 104 rfl) rfl 3 rfl ?_
    refine hq_getR (h := 31) 3 (pm_d rk_X0_ask 105 rfl) fl_X0_32 rfl rfl ?_
    refine hq_iload (pm_d rk_X0_ask 106 rfl) 1 rfl ?_
    refine hq_aload_n (pm_d rk_X0_ask 107 rfl) rfl 3 rfl ?_
    refine hq_getR (h := 31) 3 (pm_d rk_X0_ask 108 rfl) fl_X0_32 rfl rfl ?_
    show hp_go _ _ _ _ _ 303 _ _ _
    obtain ⟨x28, t27, hq, h⟩ := pm_bd_i h
    have hM := w_C_X9_boolCell_31 (d := d + 2) (h := hq)
    refine hq_callVi (a := 31) (ci := 9) [] [.int x6, .ref 31] (pm_d rk_X0_ask 109 rfl) ml_X0_97 iv_X9_boolCell rfl rfl rfl rfl rfl (Nat.le_of_ble_eq_true rfl) hM ?_
    obtain ⟨x30, t29, hq, h⟩ := pm_bd_i h
    have hM := w_C_X9_unify_31 (d := d + 0) (h := hq)
    refine hq_callVi (a := 31) (ci := 9) [.int x6, .int x28] [] (pm_d rk_X0_ask 110 rfl) ml_X0_91 iv_X9_unify rfl rfl rfl rfl rfl (Nat.le_of_ble_eq_true rfl) hM ?_
    refine hq_if_eq 356 (pm_d rk_X0_ask 111 rfl) (by decide) (fun hc => ?_) (fun hc => ?_)
    · rw [if_pos hc] at h
      refine hq_iconst (v := (0 : Int32)) (pm_d rk_X0_ask 133 rfl) (by decide) ?_
      exact hq_zret (pm_d rk_X0_ask 134 rfl) rfl rfl h
    rw [if_neg hc] at h
    refine hq_aload_n (pm_d rk_X0_ask 112 rfl) rfl 3 rfl ?_
    show hp_go _ _ _ _ _ 313 _ _ _
    refine hq_getR (h := 31) 3 (pm_d rk_X0_ask 113 rfl) fl_X0_32 rfl rfl ?_
    refine hq_iload_n (pm_d rk_X0_ask 114 rfl) rfl 2 rfl ?_
    refine hq_iload (pm_d rk_X0_ask 115 rfl) 0 rfl ?_
    obtain ⟨x32, t31, hq, h⟩ := pm_bd_i h
    have hM := w_C_X9_unify_31 (d := d + 0) (h := hq)
    refine hq_callVi (a := 31) (ci := 9) [.int x2, .int x10] [] (pm_d rk_X0_ask 116 rfl) ml_X0_91 iv_X9_unify rfl rfl rfl rfl rfl (Nat.le_of_ble_eq_true rfl) hM ?_
    refine hq_if_eq 356 (pm_d rk_X0_ask 117 rfl) (by decide) (fun hc => ?_) (fun hc => ?_)
    · rw [if_pos hc] at h
      refine hq_iconst (v := (0 : Int32)) (pm_d rk_X0_ask 133 rfl) (by decide) ?_
      show hp_go _ _ _ _ _ 357 _ _ _
      exact hq_zret (pm_d rk_X0_ask 134 rfl) rfl rfl h
    rw [if_neg hc] at h
    refine hq_aload_n (pm_d rk_X0_ask 118 rfl) rfl 3 rfl ?_
    refine hq_getR (h := 31) 3 (pm_d rk_X0_ask 119 rfl) fl_X0_32 rfl rfl ?_
    refine hq_iload_n (pm_d rk_X0_ask 120 rfl) rfl 2 rfl ?_
    refine hq_aload_n (pm_d rk_X0_ask 121 rfl) rfl 3 rfl ?_
    refine hq_getR (h := 26) 2 (pm_d rk_X0_ask 122 rfl) fl_X0_28 rfl rfl ?_
    show hp_go _ _ _ _ _ 334 _ _ _
    refine hq_iload_n (pm_d rk_X0_ask 123 rfl) rfl 4 rfl ?_
    refine hq_aload_n (pm_d rk_X0_ask 124 rfl) rfl 3 rfl ?_
    refine hq_getR (h := 17) 1 (pm_d rk_X0_ask 125 rfl) fl_X0_25 rfl rfl ?_
    refine hq_iload_n (pm_d rk_X0_ask 126 rfl) rfl 5 rfl ?_
    obtain ⟨x34, t33, hq, h⟩ := pm_bd_i h
    have hM := w_C_X2_third_17 (d := d + 1) (h := hq)
    refine hq_callVi (a := 17) (ci := 2) [.int a2] [.int a1, .ref 26, .int x2, .ref 31] (pm_d rk_X0_ask 127 rfl) ml_X0_107 iv_X2_third rfl rfl rfl rfl rfl (Nat.le_of_ble_eq_true rfl) hM ?_
    obtain ⟨x36, t35, hq, h⟩ := pm_bd_i h
    have hM := w_C_X1_variable_26 (d := d + 0) (h := hq)
    refine hq_callVi (a := 26) (ci := 1) [.int a1, .int x34] [.int x2, .ref 31] (pm_d rk_X0_ask 128 rfl) ml_X0_73 iv_X1_variable rfl rfl rfl rfl rfl (Nat.le_of_ble_eq_true rfl) hM ?_
    show hp_go _ _ _ _ _ 346 _ _ _
    obtain ⟨x38, t37, hq, h⟩ := pm_bd_i h
    have hM := w_C_X9_unify_31 (d := d + 0) (h := hq)
    refine hq_callVi (a := 31) (ci := 9) [.int x2, .int x36] [] (pm_d rk_X0_ask 129 rfl) ml_X0_91 iv_X9_unify rfl rfl rfl rfl rfl (Nat.le_of_ble_eq_true rfl) hM ?_
    refine hq_if_eq 356 (pm_d rk_X0_ask 130 rfl) (by decide) (fun hc => ?_) (fun hc => ?_)
    · rw [if_pos hc] at h
      refine hq_iconst (v := (0 : Int32)) (pm_d rk_X0_ask 133 rfl) (by decide) ?_
      exact hq_zret (pm_d rk_X0_ask 134 rfl) rfl rfl h
    rw [if_neg hc] at h
    refine hq_iconst (v := (1 : Int32)) (pm_d rk_X0_ask 131 rfl) (by decide) ?_
    refine hq_goto 357 (pm_d rk_X0_ask 132 rfl) (by decide) ?_
    show hp_go _ _ _ _ _ 357 _ _ _
    exact hq_zret (pm_d rk_X0_ask 134 rfl) rfl rfl h
  rw [if_neg hc5] at h
  by_cases hc6 : x12 = (8 : Int32)
  · rw [if_pos hc6] at h
    refine hq_tableIn 522 (pm_d rk_X0_ask 28 rfl) (by rw [hc6]; decide) (by rw [hc6]; decide) (by rw [hc6] <;> rfl) (by decide) ?_
    refine hq_iconst (v := (1 : Int32)) (pm_d rk_X0_ask 211 rfl) (by decide) ?_
    exact hq_zret (pm_d rk_X0_ask 212 rfl) rfl rfl h
  rw [if_neg hc6] at h
  by_cases hc7 : x12 = (9 : Int32)
  · rw [if_pos hc7] at h
    refine hq_tableIn 522 (pm_d rk_X0_ask 28 rfl) (by rw [hc7]; decide) (by rw [hc7]; decide) (by rw [hc7] <;> rfl) (by decide) ?_
    refine hq_iconst (v := (1 : Int32)) (pm_d rk_X0_ask 211 rfl) (by decide) ?_
    exact hq_zret (pm_d rk_X0_ask 212 rfl) rfl rfl h
  rw [if_neg hc7] at h
  by_cases hc8 : x12 = (10 : Int32)
  · rw [if_pos hc8] at h
    refine hq_tableIn 181 (pm_d rk_X0_ask 28 rfl) (by rw [hc8]; decide) (by rw [hc8]; decide) (by rw [hc8] <;> rfl) (by decide) ?_
    refine hq_aload_n (pm_d rk_X0_ask 46 rfl) rfl 3 rfl ?_
    show hp_go _ _ _ _ _ 182 _ _ _
    refine hq_getR (h := 31) 3 (pm_d rk_X0_ask 47 rfl) fl_X0_32 rfl rfl ?_
    refine hq_iload_n (pm_d rk_X0_ask 48 rfl) rfl 2 rfl ?_
    refine hq_aload_n (pm_d rk_X0_ask 49 rfl) rfl 3 rfl ?_
    refine hq_getR (h := 31) 3 (pm_d rk_X0_ask 50 rfl) fl_X0_32 rfl rfl ?_
    obtain ⟨x40, t39, hq, h⟩ := pm_bd_i h
    have hM := w_C_X9_boolCell_31 (d := d + 2) (h := hq)
    refine hq_callVi (a := 31) (ci := 9) [] [.int x2, .ref 31] (pm_d rk_X0_ask 51 rfl) ml_X0_97 iv_X9_boolCell rfl rfl rfl rfl rfl (Nat.le_of_ble_eq_true rfl) hM ?_
    obtain ⟨x42, t41, hq, h⟩ := pm_bd_i h
    have hM := w_C_X9_unify_31 (d := d + 0) (h := hq)
    refine hq_callVi (a := 31) (ci := 9) [.int x2, .int x40] [] (pm_d rk_X0_ask 52 rfl) ml_X0_91 iv_X9_unify rfl rfl rfl rfl rfl (Nat.le_of_ble_eq_true rfl) hM ?_
    show hp_go _ _ _ _ _ 196 _ _ _
    obtain ⟨hg, h⟩ := pm_gd_i h
    exact hq_zret (pm_d rk_X0_ask 53 rfl) rfl (pm_bl_n hg) h
  rw [if_neg hc8] at h
  by_cases hc9 : x12 = (11 : Int32)
  · rw [if_pos hc9] at h
    refine hq_tableIn 181 (pm_d rk_X0_ask 28 rfl) (by rw [hc9]; decide) (by rw [hc9]; decide) (by rw [hc9] <;> rfl) (by decide) ?_
    refine hq_aload_n (pm_d rk_X0_ask 46 rfl) rfl 3 rfl ?_
    refine hq_getR (h := 31) 3 (pm_d rk_X0_ask 47 rfl) fl_X0_32 rfl rfl ?_
    refine hq_iload_n (pm_d rk_X0_ask 48 rfl) rfl 2 rfl ?_
    refine hq_aload_n (pm_d rk_X0_ask 49 rfl) rfl 3 rfl ?_
    refine hq_getR (h := 31) 3 (pm_d rk_X0_ask 50 rfl) fl_X0_32 rfl rfl ?_
    show hp_go _ _ _ _ _ 190 _ _ _
    obtain ⟨x44, t43, hq, h⟩ := pm_bd_i h
    have hM := w_C_X9_boolCell_31 (d := d + 2) (h := hq)
    refine hq_callVi (a := 31) (ci := 9) [] [.int x2, .ref 31] (pm_d rk_X0_ask 51 rfl) ml_X0_97 iv_X9_boolCell rfl rfl rfl rfl rfl (Nat.le_of_ble_eq_true rfl) hM ?_
    obtain ⟨x46, t45, hq, h⟩ := pm_bd_i h
    have hM := w_C_X9_unify_31 (d := d + 0) (h := hq)
    refine hq_callVi (a := 31) (ci := 9) [.int x2, .int x44] [] (pm_d rk_X0_ask 52 rfl) ml_X0_91 iv_X9_unify rfl rfl rfl rfl rfl (Nat.le_of_ble_eq_true rfl) hM ?_
    obtain ⟨hg, h⟩ := pm_gd_i h
    exact hq_zret (pm_d rk_X0_ask 53 rfl) rfl (pm_bl_n hg) h
  rw [if_neg hc9] at h
  by_cases hc10 : x12 = (12 : Int32)
  · rw [if_pos hc10] at h
    refine hq_tableIn 197 (pm_d rk_X0_ask 28 rfl) (by rw [hc10]; decide) (by rw [hc10]; decide) (by rw [hc10] <;> rfl) (by decide) ?_
    refine hq_aload_n (pm_d rk_X0_ask 54 rfl) rfl 3 rfl ?_
    refine hq_getR (h := 31) 3 (pm_d rk_X0_ask 55 rfl) fl_X0_32 rfl rfl ?_
    refine hq_iload_n (pm_d rk_X0_ask 56 rfl) rfl 2 rfl ?_
    show hp_go _ _ _ _ _ 202 _ _ _
    refine hq_aload_n (pm_d rk_X0_ask 57 rfl) rfl 3 rfl ?_
    refine hq_getR (h := 31) 3 (pm_d rk_X0_ask 58 rfl) fl_X0_32 rfl rfl ?_
    refine hq_aload_n (pm_d rk_X0_ask 59 rfl) rfl 3 rfl ?_
    refine hq_getR (h := 31) 3 (pm_d rk_X0_ask 60 rfl) fl_X0_32 rfl rfl ?_
    obtain ⟨x48, t47, hq, h⟩ := pm_bd_i h
    have hM := w_C_X9_boolCell_31 (d := d + 2) (h := hq)
    refine hq_callVi (a := 31) (ci := 9) [] [.ref 31, .int x2, .ref 31] (pm_d rk_X0_ask 61 rfl) ml_X0_97 iv_X9_boolCell rfl rfl rfl rfl rfl (Nat.le_of_ble_eq_true rfl) hM ?_
    refine hq_aload_n (pm_d rk_X0_ask 62 rfl) rfl 3 rfl ?_
    show hp_go _ _ _ _ _ 214 _ _ _
    refine hq_getR (h := 31) 3 (pm_d rk_X0_ask 63 rfl) fl_X0_32 rfl rfl ?_
    obtain ⟨x50, t49, hq, h⟩ := pm_bd_i h
    have hM := w_C_X9_boolCell_31 (d := d + 2) (h := hq)
    refine hq_callVi (a := 31) (ci := 9) [] [.int x48, .ref 31, .int x2, .ref 31] (pm_d rk_X0_ask 64 rfl) ml_X0_97 iv_X9_boolCell rfl rfl rfl rfl rfl (Nat.le_of_ble_eq_true rfl) hM ?_
    obtain ⟨x52, t51, hq, h⟩ := pm_bd_i h
    have hM := w_C_X9_function_31 (d := d + 1) (h := hq)
    refine hq_callVi (a := 31) (ci := 9) [.int x48, .int x50] [.int x2, .ref 31] (pm_d rk_X0_ask 65 rfl) ml_X0_100 iv_X9_function rfl rfl rfl rfl rfl (Nat.le_of_ble_eq_true rfl) hM ?_
    obtain ⟨x54, t53, hq, h⟩ := pm_bd_i h
    have hM := w_C_X9_unify_31 (d := d + 0) (h := hq)
    refine hq_callVi (a := 31) (ci := 9) [.int x2, .int x52] [] (pm_d rk_X0_ask 66 rfl) ml_X0_91 iv_X9_unify rfl rfl rfl rfl rfl (Nat.le_of_ble_eq_true rfl) hM ?_
    obtain ⟨hg, h⟩ := pm_gd_i h
    exact hq_zret (pm_d rk_X0_ask 67 rfl) rfl (pm_bl_n hg) h
  rw [if_neg hc10] at h
  by_cases hc11 : x12 = (13 : Int32)
  · rw [if_pos hc11] at h
    refine hq_tableIn 227 (pm_d rk_X0_ask 28 rfl) (by rw [hc11]; decide) (by rw [hc11]; decide) (by rw [hc11] <;> rfl) (by decide) ?_
    refine hq_aload_n (pm_d rk_X0_ask 68 rfl) rfl 3 rfl ?_
    show hp_go _ _ _ _ _ 228 _ _ _
    refine hq_getR (h := 31) 3 (pm_d rk_X0_ask 69 rfl) fl_X0_32 rfl rfl ?_
    refine hq_iload_n (pm_d rk_X0_ask 70 rfl) rfl 2 rfl ?_
    refine hq_aload_n (pm_d rk_X0_ask 71 rfl) rfl 3 rfl ?_
    refine hq_getR (h := 31) 3 (pm_d rk_X0_ask 72 rfl) fl_X0_32 rfl rfl ?_
    refine hq_iconst (v := (1 : Int32)) (pm_d rk_X0_ask 73 rfl) (by decide) ?_
    obtain ⟨x56, t55, hq, h⟩ := pm_bd_i h
    have hM := w_C_X9_partFunction_31 (d := d + 0) (h := hq)
    refine hq_callVi (a := 31) (ci := 9) [.int (1 : Int32)] [.int x2, .ref 31] (pm_d rk_X0_ask 74 rfl) ml_X0_103 iv_X9_partFunction rfl rfl rfl rfl rfl (Nat.le_of_ble_eq_true rfl) hM ?_
    show hp_go _ _ _ _ _ 240 _ _ _
    obtain ⟨x58, t57, hq, h⟩ := pm_bd_i h
    have hM := w_C_X9_unify_31 (d := d + 0) (h := hq)
    refine hq_callVi (a := 31) (ci := 9) [.int x2, .int x56] [] (pm_d rk_X0_ask 75 rfl) ml_X0_91 iv_X9_unify rfl rfl rfl rfl rfl (Nat.le_of_ble_eq_true rfl) hM ?_
    obtain ⟨hg, h⟩ := pm_gd_i h
    exact hq_zret (pm_d rk_X0_ask 76 rfl) rfl (pm_bl_n hg) h
  rw [if_neg hc11] at h
  by_cases hc12 : x12 = (14 : Int32)
  · rw [if_pos hc12] at h
    refine hq_tableIn 244 (pm_d rk_X0_ask 28 rfl) (by rw [hc12]; decide) (by rw [hc12]; decide) (by rw [hc12] <;> rfl) (by decide) ?_
    refine hq_aload_n (pm_d rk_X0_ask 77 rfl) rfl 3 rfl ?_
    refine hq_getR (h := 31) 3 (pm_d rk_X0_ask 78 rfl) fl_X0_32 rfl rfl ?_
    refine hq_iload_n (pm_d rk_X0_ask 79 rfl) rfl 2 rfl ?_
    refine hq_aload_n (pm_d rk_X0_ask 80 rfl) rfl 3 rfl ?_
    show hp_go _ _ _ _ _ 250 _ _ _
    refine hq_getR (h := 31) 3 (pm_d rk_X0_ask 81 rfl) fl_X0_32 rfl rfl ?_
    refine hq_iconst (v := (0 : Int32)) (pm_d rk_X0_ask 82 rfl) (by decide) ?_
    obtain ⟨x60, t59, hq, h⟩ := pm_bd_i h
    have hM := w_C_X9_partFunction_31 (d := d + 0) (h := hq)
    refine hq_callVi (a := 31) (ci := 9) [.int (0 : Int32)] [.int x2, .ref 31] (pm_d rk_X0_ask 83 rfl) ml_X0_103 iv_X9_partFunction rfl rfl rfl rfl rfl (Nat.le_of_ble_eq_true rfl) hM ?_
    obtain ⟨x62, t61, hq, h⟩ := pm_bd_i h
    have hM := w_C_X9_unify_31 (d := d + 0) (h := hq)
    refine hq_callVi (a := 31) (ci := 9) [.int x2, .int x60] [] (pm_d rk_X0_ask 84 rfl) ml_X0_91 iv_X9_unify rfl rfl rfl rfl rfl (Nat.le_of_ble_eq_true rfl) hM ?_
    obtain ⟨hg, h⟩ := pm_gd_i h
    exact hq_zret (pm_d rk_X0_ask 85 rfl) rfl (pm_bl_n hg) h
  rw [if_neg hc12] at h
  by_cases hc13 : x12 = (15 : Int32)
  · rw [if_pos hc13] at h
    refine hq_tableIn 522 (pm_d rk_X0_ask 28 rfl) (by rw [hc13]; decide) (by rw [hc13]; decide) (by rw [hc13] <;> rfl) (by decide) ?_
    refine hq_iconst (v := (1 : Int32)) (pm_d rk_X0_ask 211 rfl) (by decide) ?_
    show hp_go _ _ _ _ _ 523 _ _ _
    exact hq_zret (pm_d rk_X0_ask 212 rfl) rfl rfl h
  rw [if_neg hc13] at h
  by_cases hc14 : x12 = (16 : Int32)
  · rw [if_pos hc14] at h
    refine hq_tableIn 522 (pm_d rk_X0_ask 28 rfl) (by rw [hc14]; decide) (by rw [hc14]; decide) (by rw [hc14] <;> rfl) (by decide) ?_
    refine hq_iconst (v := (1 : Int32)) (pm_d rk_X0_ask 211 rfl) (by decide) ?_
    exact hq_zret (pm_d rk_X0_ask 212 rfl) rfl rfl h
  rw [if_neg hc14] at h
  by_cases hc15 : x12 = (17 : Int32)
  · rw [if_pos hc15] at h
    refine hq_tableIn 482 (pm_d rk_X0_ask 28 rfl) (by rw [hc15]; decide) (by rw [hc15]; decide) (by rw [hc15] <;> rfl) (by decide) ?_
    refine hq_aload_n (pm_d rk_X0_ask 191 rfl) rfl 3 rfl ?_
    refine hq_getR (h := 31) 3 (pm_d rk_X0_ask 192 rfl) fl_X0_32 rfl rfl ?_
    refine hq_iload (pm_d rk_X0_ask 193 rfl) 1 rfl ?_
    show hp_go _ _ _ _ _ 488 _ _ _
    refine hq_aload_n (pm_d rk_X0_ask 194 rfl) rfl 3 rfl ?_
    refine hq_getR (h := 31) 3 (pm_d rk_X0_ask 195 rfl) fl_X0_32 rfl rfl ?_
    refine hq_iload (pm_d rk_X0_ask 196 rfl) 0 rfl ?_
    refine hq_iload_n (pm_d rk_X0_ask 197 rfl) rfl 2 rfl ?_
    obtain ⟨x64, t63, hq, h⟩ := pm_bd_i h
    have hM := w_C_X9_function_31 (d := d + 1) (h := hq)
    refine hq_callVi (a := 31) (ci := 9) [.int x10, .int x2] [.int x6, .ref 31] (pm_d rk_X0_ask 198 rfl) ml_X0_100 iv_X9_function rfl rfl rfl rfl rfl (Nat.le_of_ble_eq_true rfl) hM ?_
    obtain ⟨x66, t65, hq, h⟩ := pm_bd_i h
    have hM := w_C_X9_unify_31 (d := d + 0) (h := hq)
    refine hq_callVi (a := 31) (ci := 9) [.int x6, .int x64] [] (pm_d rk_X0_ask 199 rfl) ml_X0_91 iv_X9_unify rfl rfl rfl rfl rfl (Nat.le_of_ble_eq_true rfl) hM ?_
    show hp_go _ _ _ _ _ 501 _ _ _
    obtain ⟨hg, h⟩ := pm_gd_i h
    exact hq_zret (pm_d rk_X0_ask 200 rfl) rfl (pm_bl_n hg) h
  rw [if_neg hc15] at h
  by_cases hc16 : x12 = (18 : Int32)
  · rw [if_pos hc16] at h
    refine hq_tableIn 522 (pm_d rk_X0_ask 28 rfl) (by rw [hc16]; decide) (by rw [hc16]; decide) (by rw [hc16] <;> rfl) (by decide) ?_
    refine hq_iconst (v := (1 : Int32)) (pm_d rk_X0_ask 211 rfl) (by decide) ?_
    exact hq_zret (pm_d rk_X0_ask 212 rfl) rfl rfl h
  rw [if_neg hc16] at h
  by_cases hc17 : x12 = (19 : Int32)
  · rw [if_pos hc17] at h
    refine hq_tableIn 502 (pm_d rk_X0_ask 28 rfl) (by rw [hc17]; decide) (by rw [hc17]; decide) (by rw [hc17] <;> rfl) (by decide) ?_
    refine hq_aload_n (pm_d rk_X0_ask 201 rfl) rfl 3 rfl ?_
    refine hq_getR (h := 31) 3 (pm_d rk_X0_ask 202 rfl) fl_X0_32 rfl rfl ?_
    refine hq_iload_n (pm_d rk_X0_ask 203 rfl) rfl 2 rfl ?_
    show hp_go _ _ _ _ _ 507 _ _ _
    refine hq_aload_n (pm_d rk_X0_ask 204 rfl) rfl 3 rfl ?_
    refine hq_getR (h := 31) 3 (pm_d rk_X0_ask 205 rfl) fl_X0_32 rfl rfl ?_
    refine hq_iload (pm_d rk_X0_ask 206 rfl) 1 rfl ?_
    refine hq_iload (pm_d rk_X0_ask 207 rfl) 0 rfl ?_
    obtain ⟨x68, t67, hq, h⟩ := pm_bd_i h
    have hM := w_C_X9_pair_31 (d := d + 1) (h := hq)
    refine hq_callVi (a := 31) (ci := 9) [.int x6, .int x10] [.int x2, .ref 31] (pm_d rk_X0_ask 208 rfl) ml_X0_110 iv_X9_pair rfl rfl rfl rfl rfl (Nat.le_of_ble_eq_true rfl) hM ?_
    obtain ⟨x70, t69, hq, h⟩ := pm_bd_i h
    have hM := w_C_X9_unify_31 (d := d + 0) (h := hq)
    refine hq_callVi (a := 31) (ci := 9) [.int x2, .int x68] [] (pm_d rk_X0_ask 209 rfl) ml_X0_91 iv_X9_unify rfl rfl rfl rfl rfl (Nat.le_of_ble_eq_true rfl) hM ?_
    show hp_go _ _ _ _ _ 521 _ _ _
    obtain ⟨hg, h⟩ := pm_gd_i h
    exact hq_zret (pm_d rk_X0_ask 210 rfl) rfl (pm_bl_n hg) h
  rw [if_neg hc17] at h
  by_cases hc18 : x12 = (20 : Int32)
  · rw [if_pos hc18] at h
    refine hq_tableIn 420 (pm_d rk_X0_ask 28 rfl) (by rw [hc18]; decide) (by rw [hc18]; decide) (by rw [hc18] <;> rfl) (by decide) ?_
    refine hq_aload_n (pm_d rk_X0_ask 163 rfl) rfl 3 rfl ?_
    refine hq_getR (h := 31) 3 (pm_d rk_X0_ask 164 rfl) fl_X0_32 rfl rfl ?_
    refine hq_iload (pm_d rk_X0_ask 165 rfl) 1 rfl ?_
    refine hq_aload_n (pm_d rk_X0_ask 166 rfl) rfl 3 rfl ?_
    refine hq_getR (h := 31) 3 (pm_d rk_X0_ask 167 rfl) fl_X0_32 rfl rfl ?_
    show hp_go _ _ _ _ _ 430 _ _ _
    obtain ⟨x72, t71, hq, h⟩ := pm_bd_i h
    have hM := w_C_X9_intCell_31 (d := d + 2) (h := hq)
    refine hq_callVi (a := 31) (ci := 9) [] [.int x6, .ref 31] (pm_d rk_X0_ask 168 rfl) ml_X0_94 iv_X9_intCell rfl rfl rfl rfl rfl (Nat.le_of_ble_eq_true rfl) hM ?_
    obtain ⟨x74, t73, hq, h⟩ := pm_bd_i h
    have hM := w_C_X9_unify_31 (d := d + 0) (h := hq)
    refine hq_callVi (a := 31) (ci := 9) [.int x6, .int x72] [] (pm_d rk_X0_ask 169 rfl) ml_X0_91 iv_X9_unify rfl rfl rfl rfl rfl (Nat.le_of_ble_eq_true rfl) hM ?_
    refine hq_if_eq 480 (pm_d rk_X0_ask 170 rfl) (by decide) (fun hc => ?_) (fun hc => ?_)
    · rw [if_pos hc] at h
      refine hq_iconst (v := (0 : Int32)) (pm_d rk_X0_ask 189 rfl) (by decide) ?_
      exact hq_zret (pm_d rk_X0_ask 190 rfl) rfl rfl h
    rw [if_neg hc] at h
    refine hq_aload_n (pm_d rk_X0_ask 171 rfl) rfl 3 rfl ?_
    show hp_go _ _ _ _ _ 440 _ _ _
    refine hq_getR (h := 31) 3 (pm_d rk_X0_ask 172 rfl) fl_X0_32 rfl rfl ?_
    refine hq_iload (pm_d rk_X0_ask 173 rfl) 0 rfl ?_
    refine hq_aload_n (pm_d rk_X0_ask 174 rfl) rfl 3 rfl ?_
    refine hq_getR (h := 31) 3 (pm_d rk_X0_ask 175 rfl) fl_X0_32 rfl rfl ?_
    obtain ⟨x76, t75, hq, h⟩ := pm_bd_i h
    have hM := w_C_X9_intCell_31 (d := d + 2) (h := hq)
    refine hq_callVi (a := 31) (ci := 9) [] [.int x10, .ref 31] (pm_d rk_X0_ask 176 rfl) ml_X0_94 iv_X9_intCell rfl rfl rfl rfl rfl (Nat.le_of_ble_eq_true rfl) hM ?_
    obtain ⟨x78, t77, hq, h⟩ := pm_bd_i h
    have hM := w_C_X9_unify_31 (d := d + 0) (h := hq)
    refine hq_callVi (a := 31) (ci := 9) [.int x10, .int x76] [] (pm_d rk_X0_ask 177 rfl) ml_X0_91 iv_X9_unify rfl rfl rfl rfl rfl (Nat.le_of_ble_eq_true rfl) hM ?_
    show hp_go _ _ _ _ _ 455 _ _ _
    refine hq_if_eq 480 (pm_d rk_X0_ask 178 rfl) (by decide) (fun hc => ?_) (fun hc => ?_)
    · rw [if_pos hc] at h
      refine hq_iconst (v := (0 : Int32)) (pm_d rk_X0_ask 189 rfl) (by decide) ?_
      exact hq_zret (pm_d rk_X0_ask 190 rfl) rfl rfl h
    rw [if_neg hc] at h
    refine hq_aload_n (pm_d rk_X0_ask 179 rfl) rfl 3 rfl ?_
    refine hq_getR (h := 31) 3 (pm_d rk_X0_ask 180 rfl) fl_X0_32 rfl rfl ?_
    refine hq_iload_n (pm_d rk_X0_ask 181 rfl) rfl 2 rfl ?_
    show hp_go _ _ _ _ _ 463 _ _ _
    refine hq_aload_n (pm_d rk_X0_ask 182 rfl) rfl 3 rfl ?_
    refine hq_getR (h := 31) 3 (pm_d rk_X0_ask 183 rfl) fl_X0_32 rfl rfl ?_
    obtain ⟨x80, t79, hq, h⟩ := pm_bd_i h
    have hM := w_C_X9_intCell_31 (d := d + 2) (h := hq)
    refine hq_callVi (a := 31) (ci := 9) [] [.int x2, .ref 31] (pm_d rk_X0_ask 184 rfl) ml_X0_94 iv_X9_intCell rfl rfl rfl rfl rfl (Nat.le_of_ble_eq_true rfl) hM ?_
    obtain ⟨x82, t81, hq, h⟩ := pm_bd_i h
    have hM := w_C_X9_unify_31 (d := d + 0) (h := hq)
    refine hq_callVi (a := 31) (ci := 9) [.int x2, .int x80] [] (pm_d rk_X0_ask 185 rfl) ml_X0_91 iv_X9_unify rfl rfl rfl rfl rfl (Nat.le_of_ble_eq_true rfl) hM ?_
    refine hq_if_eq 480 (pm_d rk_X0_ask 186 rfl) (by decide) (fun hc => ?_) (fun hc => ?_)
    · rw [if_pos hc] at h
      refine hq_iconst (v := (0 : Int32)) (pm_d rk_X0_ask 189 rfl) (by decide) ?_
      show hp_go _ _ _ _ _ 481 _ _ _
      exact hq_zret (pm_d rk_X0_ask 190 rfl) rfl rfl h
    rw [if_neg hc] at h
    refine hq_iconst (v := (1 : Int32)) (pm_d rk_X0_ask 187 rfl) (by decide) ?_
    refine hq_goto 481 (pm_d rk_X0_ask 188 rfl) (by decide) ?_
    exact hq_zret (pm_d rk_X0_ask 190 rfl) rfl rfl h
  rw [if_neg hc18] at h
  by_cases hc19 : x12 = (21 : Int32)
  · rw [if_pos hc19] at h
    refine hq_tableIn 358 (pm_d rk_X0_ask 28 rfl) (by rw [hc19]; decide) (by rw [hc19]; decide) (by rw [hc19] <;> rfl) (by decide) ?_
    refine hq_aload_n (pm_d rk_X0_ask 135 rfl) rfl 3 rfl ?_
    refine hq_getR (h := 31) 3 (pm_d rk_X0_ask 136 rfl) fl_X0_32 rfl rfl ?_
    show hp_go _ _ _ _ _ 362 _ _ _
    refine hq_iload (pm_d rk_X0_ask 137 rfl) 1 rfl ?_
    refine hq_aload_n (pm_d rk_X0_ask 138 rfl) rfl 3 rfl ?_
    refine hq_getR (h := 31) 3 (pm_d rk_X0_ask 139 rfl) fl_X0_32 rfl rfl ?_
    obtain ⟨x84, t83, hq, h⟩ := pm_bd_i h
    have hM := w_C_X9_intCell_31 (d := d + 2) (h := hq)
    refine hq_callVi (a := 31) (ci := 9) [] [.int x6, .ref 31] (pm_d rk_X0_ask 140 rfl) ml_X0_94 iv_X9_intCell rfl rfl rfl rfl rfl (Nat.le_of_ble_eq_true rfl) hM ?_
    obtain ⟨x86, t85, hq, h⟩ := pm_bd_i h
    have hM := w_C_X9_unify_31 (d := d + 0) (h := hq)
    refine hq_callVi (a := 31) (ci := 9) [.int x6, .int x84] [] (pm_d rk_X0_ask 141 rfl) ml_X0_91 iv_X9_unify rfl rfl rfl rfl rfl (Nat.le_of_ble_eq_true rfl) hM ?_
    refine hq_if_eq 418 (pm_d rk_X0_ask 142 rfl) (by decide) (fun hc => ?_) (fun hc => ?_)
    · rw [if_pos hc] at h
      show hp_go _ _ _ _ _ 418 _ _ _
      refine hq_iconst (v := (0 : Int32)) (pm_d rk_X0_ask 161 rfl) (by decide) ?_
      exact hq_zret (pm_d rk_X0_ask 162 rfl) rfl rfl h
    rw [if_neg hc] at h
    refine hq_aload_n (pm_d rk_X0_ask 143 rfl) rfl 3 rfl ?_
    refine hq_getR (h := 31) 3 (pm_d rk_X0_ask 144 rfl) fl_X0_32 rfl rfl ?_
    refine hq_iload (pm_d rk_X0_ask 145 rfl) 0 rfl ?_
    refine hq_aload_n (pm_d rk_X0_ask 146 rfl) rfl 3 rfl ?_
    show hp_go _ _ _ _ _ 384 _ _ _
    refine hq_getR (h := 31) 3 (pm_d rk_X0_ask 147 rfl) fl_X0_32 rfl rfl ?_
    obtain ⟨x88, t87, hq, h⟩ := pm_bd_i h
    have hM := w_C_X9_intCell_31 (d := d + 2) (h := hq)
    refine hq_callVi (a := 31) (ci := 9) [] [.int x10, .ref 31] (pm_d rk_X0_ask 148 rfl) ml_X0_94 iv_X9_intCell rfl rfl rfl rfl rfl (Nat.le_of_ble_eq_true rfl) hM ?_
    obtain ⟨x90, t89, hq, h⟩ := pm_bd_i h
    have hM := w_C_X9_unify_31 (d := d + 0) (h := hq)
    refine hq_callVi (a := 31) (ci := 9) [.int x10, .int x88] [] (pm_d rk_X0_ask 149 rfl) ml_X0_91 iv_X9_unify rfl rfl rfl rfl rfl (Nat.le_of_ble_eq_true rfl) hM ?_
    refine hq_if_eq 418 (pm_d rk_X0_ask 150 rfl) (by decide) (fun hc => ?_) (fun hc => ?_)
    · rw [if_pos hc] at h
      refine hq_iconst (v := (0 : Int32)) (pm_d rk_X0_ask 161 rfl) (by decide) ?_
      exact hq_zret (pm_d rk_X0_ask 162 rfl) rfl rfl h
    rw [if_neg hc] at h
    show hp_go _ _ _ _ _ 396 _ _ _
    refine hq_aload_n (pm_d rk_X0_ask 151 rfl) rfl 3 rfl ?_
    refine hq_getR (h := 31) 3 (pm_d rk_X0_ask 152 rfl) fl_X0_32 rfl rfl ?_
    refine hq_iload_n (pm_d rk_X0_ask 153 rfl) rfl 2 rfl ?_
    refine hq_aload_n (pm_d rk_X0_ask 154 rfl) rfl 3 rfl ?_
    refine hq_getR (h := 31) 3 (pm_d rk_X0_ask 155 rfl) fl_X0_32 rfl rfl ?_
    obtain ⟨x92, t91, hq, h⟩ := pm_bd_i h
    have hM := w_C_X9_boolCell_31 (d := d + 2) (h := hq)
    refine hq_callVi (a := 31) (ci := 9) [] [.int x2, .ref 31] (pm_d rk_X0_ask 156 rfl) ml_X0_97 iv_X9_boolCell rfl rfl rfl rfl rfl (Nat.le_of_ble_eq_true rfl) hM ?_
    show hp_go _ _ _ _ _ 408 _ _ _
    obtain ⟨x94, t93, hq, h⟩ := pm_bd_i h
    have hM := w_C_X9_unify_31 (d := d + 0) (h := hq)
    refine hq_callVi (a := 31) (ci := 9) [.int x2, .int x92] [] (pm_d rk_X0_ask 157 rfl) ml_X0_91 iv_X9_unify rfl rfl rfl rfl rfl (Nat.le_of_ble_eq_true rfl) hM ?_
    refine hq_if_eq 418 (pm_d rk_X0_ask 158 rfl) (by decide) (fun hc => ?_) (fun hc => ?_)
    · rw [if_pos hc] at h
      refine hq_iconst (v := (0 : Int32)) (pm_d rk_X0_ask 161 rfl) (by decide) ?_
      exact hq_zret (pm_d rk_X0_ask 162 rfl) rfl rfl h
    rw [if_neg hc] at h
    refine hq_iconst (v := (1 : Int32)) (pm_d rk_X0_ask 159 rfl) (by decide) ?_
    refine hq_goto 419 (pm_d rk_X0_ask 160 rfl) (by decide) ?_
    show hp_go _ _ _ _ _ 419 _ _ _
    exact hq_zret (pm_d rk_X0_ask 162 rfl) rfl rfl h
  rw [if_neg hc19] at h
  refine hq_tableOut 522 (pm_d rk_X0_ask 28 rfl) (by
      rcases tb_out (t := x12.toInt) (lo := 2) 20 (fun k hk => match k, hk with | 0, _ => tb_ne hc0 (by decide) | 1, _ => tb_ne hc1 (by decide) | 2, _ => tb_ne hc2 (by decide) | 3, _ => tb_ne hc3 (by decide) | 4, _ => tb_ne hc4 (by decide) | 5, _ => tb_ne hc5 (by decide) | 6, _ => tb_ne hc6 (by decide) | 7, _ => tb_ne hc7 (by decide) | 8, _ => tb_ne hc8 (by decide) | 9, _ => tb_ne hc9 (by decide) | 10, _ => tb_ne hc10 (by decide) | 11, _ => tb_ne hc11 (by decide) | 12, _ => tb_ne hc12 (by decide) | 13, _ => tb_ne hc13 (by decide) | 14, _ => tb_ne hc14 (by decide) | 15, _ => tb_ne hc15 (by decide) | 16, _ => tb_ne hc16 (by decide) | 17, _ => tb_ne hc17 (by decide) | 18, _ => tb_ne hc18 (by decide) | 19, _ => tb_ne hc19 (by decide) | k + 20, hk => absurd hk (by omega)) with q | q
      · exact Or.inl q
      · exact Or.inr (by omega)) (by decide) ?_
  refine hq_iconst (v := (1 : Int32)) (pm_d rk_X0_ask 211 rfl) (by decide) ?_
  exact hq_zret (pm_d rk_X0_ask 212 rfl) rfl rfl h
def l_C_X0_isFine_37_45 (k16 : Int32 → hp_S → Option (Int32 × hp_S)) : Nat → Int32 → Int32 → Int32 → hp_S → Option (Int32 × hp_S)
  | 0, _, _, _, _ => none
  | n + 1, y1, y2, y3, s =>
    pm_let (fun (z86_1 : Int32) (s : hp_S) =>
      pm_let (z86_1 + (1 : Int32)) (fun x12 =>
      k16 x12 s)) (fun j86 =>
    if y2 ≤ y3 then
      j86 y1 s
    else
      if (100 : Int32) ≤ y3 then
        j86 y1 s
      else
        pm_let (fun (z80_1 : Int32) (z80_2 : Int32) (z80_3 : Int32) (s : hp_S) =>
          pm_let (z80_3 + (1 : Int32)) (fun x13 =>
          l_C_X0_isFine_37_45 k16 n z80_1 z80_2 x13 s)) (fun j80 =>
        if y3 < 0 then
          j80 y1 y2 y3 s
        else
          pm_gd1 (pm_ib y3 100) (
          if (hs_A s 38 y3.toNatClampNeg) = 0 then
            j80 y1 y2 y3 s
          else
            pm_bd (f_C_X0_ask_37 n y1 y3 s) (fun x15 t14 =>
            if x15 = 0 then
              some ((0 : Int32), t14)
            else
              j80 y1 y2 y3 t14))))
set_option maxRecDepth 100000 in
set_option maxHeartbeats 400000 in
theorem wl_C_X0_isFine_37_45 (d : Nat) (k16 : Int32 → hp_S → Option (Int32 × hp_S)) (s1 : hp_S) (x0 : Int32) (hk16 : ∀ (y1 : Int32) (s : hp_S), k16 y1 s = some (x0, s1) → hp_go sh_C me_X0_isFine (d + 4) (some (.int x0)) s1 16 [(0, .ref 37), (1, .int y1)] [] s) : ∀ (n : Nat) (y1 : Int32) (y2 : Int32) (y3 : Int32) (s : hp_S), l_C_X0_isFine_37_45 k16 n y1 y2 y3 s = some (x0, s1) → hp_go sh_C me_X0_isFine (d + 4) (some (.int x0)) s1 45 [(0, .ref 37), (1, .int y1), (2, .int y2), (3, .int y3)] [] s := by
  intro n
  induction n with
  | zero =>
    intro y1 y2 y3 s h
    cases h
  | succ n ih =>
    intro y1 y2 y3 s h
    rw [l_C_X0_isFine_37_45.eq_2] at h
    refine hq_iload_n (pm_d rk_X0_isFine 23 rfl) rfl 3 rfl ?_
    refine hq_iload_n (pm_d rk_X0_isFine 24 rfl) rfl 2 rfl ?_
    refine pm_jn (P := fun j86 => ∀ (z86_1 : Int32) (s : hp_S), j86 z86_1 s = some (x0, s1) → hp_go sh_C me_X0_isFine (d + 4) (some (.int x0)) s1 86 [(0, .ref 37), (1, .int z86_1)] [] s) h ?_ (fun j86 hj86 h => ?_)
    · intro z86_1 s h
      dsimp only at h
      show hp_go _ _ _ _ _ 86 _ _ _
      refine hq_iinc (v := z86_1 + (1 : Int32)) (L1 := [(1, .int (z86_1 + (1 : Int32))), (0, .ref 37)]) (pm_d rk_X0_isFine 45 rfl) 1 rfl (by rw [show Int32.ofInt (1) = (1 : Int32) by decide]) (by decide) rfl ?_
      refine pm_nm (G := fun x12 => hp_go sh_C me_X0_isFine (d + 4) (some (.int x0)) s1 89 [(1, .int x12), (0, .ref 37)] [] s) h (fun x12 h => ?_)
      refine hq_goto 16 (pm_d rk_X0_isFine 46 rfl) (by decide) ?_
      refine hq_drop [1, 0] rfl ?_
      exact hk16 _ _ h
    refine hq_icmp_ge 86 (pm_d rk_X0_isFine 25 rfl) (by decide) (fun hc => ?_) (fun hc => ?_)
    · rw [if_pos hc] at h
      refine hq_drop [0, 1] rfl ?_
      exact hj86 _ _ h
    rw [if_neg hc] at h
    refine hq_iload_n (pm_d rk_X0_isFine 26 rfl) rfl 3 rfl ?_
    refine hq_bipush (v := (100 : Int32)) (pm_d rk_X0_isFine 27 rfl) (by decide) ?_
    refine hq_icmp_ge 86 (pm_d rk_X0_isFine 28 rfl) (by decide) (fun hc => ?_) (fun hc => ?_)
    · rw [if_pos hc] at h
      refine hq_drop [0, 1] rfl ?_
      exact hj86 _ _ h
    rw [if_neg hc] at h
    show hp_go _ _ _ _ _ 56 _ _ _
    refine hq_iload_n (pm_d rk_X0_isFine 29 rfl) rfl 3 rfl ?_
    refine pm_jn (P := fun j80 => ∀ (z80_1 : Int32) (z80_2 : Int32) (z80_3 : Int32) (s : hp_S), j80 z80_1 z80_2 z80_3 s = some (x0, s1) → hp_go sh_C me_X0_isFine (d + 4) (some (.int x0)) s1 80 [(0, .ref 37), (1, .int z80_1), (2, .int z80_2), (3, .int z80_3)] [] s) h ?_ (fun j80 hj80 h => ?_)
    · intro z80_1 z80_2 z80_3 s h
      dsimp only at h
      refine hq_iinc (v := z80_3 + (1 : Int32)) (L1 := [(3, .int (z80_3 + (1 : Int32))), (0, .ref 37), (1, .int z80_1), (2, .int z80_2)]) (pm_d rk_X0_isFine 43 rfl) 3 rfl (by rw [show Int32.ofInt (1) = (1 : Int32) by decide]) (by decide) rfl ?_
      refine pm_nm (G := fun x13 => hp_go sh_C me_X0_isFine (d + 4) (some (.int x0)) s1 83 [(3, .int x13), (0, .ref 37), (1, .int z80_1), (2, .int z80_2)] [] s) h (fun x13 h => ?_)
      refine hq_goto 45 (pm_d rk_X0_isFine 44 rfl) (by decide) ?_
      refine hq_drop [1, 2, 3, 0] rfl ?_
      exact ih _ _ _ _ h
    refine hq_if_lt 80 (pm_d rk_X0_isFine 30 rfl) (by decide) (fun hc => ?_) (fun hc => ?_)
    · rw [if_pos hc] at h
      refine hq_drop [0, 1, 2, 3] rfl ?_
      exact hj80 _ _ _ _ h
    rw [if_neg hc] at h
    refine hq_aload_n (pm_d rk_X0_isFine 31 rfl) rfl 0 rfl ?_
    refine hq_getR (h := 38) 4 (pm_d rk_X0_isFine 32 rfl) fl_X0_9 rfl rfl ?_
    show hp_go _ _ _ _ _ 64 _ _ _
    refine hq_iload_n (pm_d rk_X0_isFine 33 rfl) rfl 3 rfl ?_
    obtain ⟨hg, h⟩ := pm_gd_i h
    refine hq_zaload (pm_d rk_X0_isFine 34 rfl) rfl hg ?_
    refine hq_if_eq 80 (pm_d rk_X0_isFine 35 rfl) (by decide) (fun hc => ?_) (fun hc => ?_)
    · rw [if_pos hc] at h
      refine hq_drop [0, 1, 2, 3] rfl ?_
      exact hj80 _ _ _ _ h
    rw [if_neg hc] at h
    refine hq_aload_n (pm_d rk_X0_isFine 36 rfl) rfl 0 rfl ?_
    refine hq_iload_n (pm_d rk_X0_isFine 37 rfl) rfl 1 rfl ?_
    refine hq_iload_n (pm_d rk_X0_isFine 38 rfl) rfl 3 rfl ?_
    show hp_go _ _ _ _ _ 72 _ _ _
    obtain ⟨x15, t14, hq, h⟩ := pm_bd_i h
    have hM := w_C_X0_ask_37 (d := d + 0) (h := hq)
    refine hq_callVi (a := 37) (ci := 0) [.int y1, .int y3] [] (pm_d rk_X0_isFine 39 rfl) ml_X0_66 iv_X0_ask rfl rfl rfl rfl rfl (Nat.le_of_ble_eq_true rfl) hM ?_
    refine hq_if_ne 80 (pm_d rk_X0_isFine 40 rfl) (by decide) (fun hc => ?_) (fun hc => ?_)
    · rw [if_neg hc] at h
      refine hq_drop [0, 1, 2, 3] rfl ?_
      exact hj80 _ _ _ _ h
    rw [if_pos hc] at h
    refine hq_iconst (v := (0 : Int32)) (pm_d rk_X0_isFine 41 rfl) (by decide) ?_
    exact hq_zret (pm_d rk_X0_isFine 42 rfl) rfl rfl h
def l_C_X0_isFine_37_16 : Nat → Int32 → hp_S → Option (Int32 × hp_S)
  | 0, _, _ => none
  | n + 1, y1, s =>
    pm_bd (f_C_X1_size_26 s) (fun x5 t4 =>
    if x5 ≤ y1 then
      pm_bd (f_C_X9_areFinite_31 n t4) (fun x7 t6 =>
      pm_gd1 (pm_bl x7) (some (x7, t6)))
    else
      pm_bd (f_C_X1_endNode_26 y1 t4) (fun x9 t8 =>
      pm_bd (f_C_X1_firstNode_26 y1 t8) (fun x11 t10 =>
      l_C_X0_isFine_37_45 (l_C_X0_isFine_37_16 n) n y1 x9 x11 t10)))
set_option maxRecDepth 100000 in
set_option maxHeartbeats 400000 in
theorem wl_C_X0_isFine_37_16 (d : Nat) (s1 : hp_S) (x0 : Int32)  : ∀ (n : Nat) (y1 : Int32) (s : hp_S), l_C_X0_isFine_37_16 n y1 s = some (x0, s1) → hp_go sh_C me_X0_isFine (d + 4) (some (.int x0)) s1 16 [(0, .ref 37), (1, .int y1)] [] s := by
  intro n
  induction n with
  | zero =>
    intro y1 s h
    cases h
  | succ n ih =>
    intro y1 s h
    rw [l_C_X0_isFine_37_16.eq_2] at h
    refine hq_iload_n (pm_d rk_X0_isFine 8 rfl) rfl 1 rfl ?_
    refine hq_aload_n (pm_d rk_X0_isFine 9 rfl) rfl 0 rfl ?_
    refine hq_getR (h := 26) 2 (pm_d rk_X0_isFine 10 rfl) fl_X0_28 rfl rfl ?_
    show hp_go _ _ _ _ _ 21 _ _ _
    obtain ⟨x5, t4, hq, h⟩ := pm_bd_i h
    have hM := w_C_X1_size_26 (d := d + 3) (h := hq)
    refine hq_callVi (a := 26) (ci := 1) [] [.int y1] (pm_d rk_X0_isFine 11 rfl) ml_X0_58 iv_X1_size rfl rfl rfl rfl rfl (Nat.le_of_ble_eq_true rfl) hM ?_
    refine hq_icmp_ge 92 (pm_d rk_X0_isFine 12 rfl) (by decide) (fun hc => ?_) (fun hc => ?_)
    · rw [if_pos hc] at h
      refine hq_aload_n (pm_d rk_X0_isFine 47 rfl) rfl 0 rfl ?_
      refine hq_getR (h := 31) 3 (pm_d rk_X0_isFine 48 rfl) fl_X0_32 rfl rfl ?_
      obtain ⟨x7, t6, hq, h⟩ := pm_bd_i h
      have hM := w_C_X9_areFinite_31 (d := d + 0) (h := hq)
      refine hq_callVi (a := 31) (ci := 9) [] [] (pm_d rk_X0_isFine 49 rfl) ml_X0_70 iv_X9_areFinite rfl rfl rfl rfl rfl (Nat.le_of_ble_eq_true rfl) hM ?_
      obtain ⟨hg, h⟩ := pm_gd_i h
      exact hq_zret (pm_d rk_X0_isFine 50 rfl) rfl (pm_bl_n hg) h
    rw [if_neg hc] at h
    show hp_go _ _ _ _ _ 27 _ _ _
    refine hq_aload_n (pm_d rk_X0_isFine 13 rfl) rfl 0 rfl ?_
    refine hq_getR (h := 26) 2 (pm_d rk_X0_isFine 14 rfl) fl_X0_28 rfl rfl ?_
    refine hq_iload_n (pm_d rk_X0_isFine 15 rfl) rfl 1 rfl ?_
    obtain ⟨x9, t8, hq, h⟩ := pm_bd_i h
    have hM := w_C_X1_endNode_26 (d := d + 2) (h := hq)
    refine hq_callVi (a := 26) (ci := 1) [.int y1] [] (pm_d rk_X0_isFine 16 rfl) ml_X0_59 iv_X1_endNode rfl rfl rfl rfl rfl (Nat.le_of_ble_eq_true rfl) hM ?_
    refine hq_istore_n (L1 := [(2, .int x9), (0, .ref 37), (1, .int y1)]) (pm_d rk_X0_isFine 17 rfl) rfl (by decide) rfl ?_
    refine hq_aload_n (pm_d rk_X0_isFine 18 rfl) rfl 1 rfl ?_
    show hp_go _ _ _ _ _ 37 _ _ _
    refine hq_getR (h := 26) 2 (pm_d rk_X0_isFine 19 rfl) fl_X0_28 rfl rfl ?_
    refine hq_iload_n (pm_d rk_X0_isFine 20 rfl) rfl 2 rfl ?_
    obtain ⟨x11, t10, hq, h⟩ := pm_bd_i h
    have hM := w_C_X1_firstNode_26 (d := d + 2) (h := hq)
    refine hq_callVi (a := 26) (ci := 1) [.int y1] [] (pm_d rk_X0_isFine 21 rfl) ml_X0_63 iv_X1_firstNode rfl rfl rfl rfl rfl (Nat.le_of_ble_eq_true rfl) hM ?_
    refine hq_istore_n (L1 := [(3, .int x11), (2, .int x9), (0, .ref 37), (1, .int y1)]) (pm_d rk_X0_isFine 22 rfl) rfl (by decide) rfl ?_
    refine hq_drop [2, 3, 1, 0] rfl ?_
    exact wl_C_X0_isFine_37_45 d _ _ _  ih _ _ _ _ _ h
def f_C_X0_isFine_37 (n : Nat) (s : hp_S) : Option (Int32 × hp_S) :=
  pm_bd (f_C_X1_variables_26 s) (fun x2 t1 =>
  pm_b1 (f_C_X9_begin_31 n x2 t1) (fun t3 =>
  l_C_X0_isFine_37_16 n (0 : Int32) t3))
set_option maxRecDepth 100000 in
set_option maxHeartbeats 400000 in
theorem w_C_X0_isFine_37 (d : Nat) (n : Nat) (s s1 : hp_S) (x0 : Int32) (h : f_C_X0_isFine_37 n s = some (x0, s1)) : hp_is sh_C me_X0_isFine (d + 4) [.ref 37] s (some (.int x0)) s1 := by
  refine hp_ofF [(0, .ref 37)] (by decide +kernel) (Nat.le_of_ble_eq_true rfl) rfl ?_
  unfold f_C_X0_isFine_37 at h
  refine hq_aload_n (pm_d rk_X0_isFine 0 rfl) rfl 0 rfl ?_
  refine hq_getR (h := 31) 3 (pm_d rk_X0_isFine 1 rfl) fl_X0_32 rfl rfl ?_
  refine hq_aload_n (pm_d rk_X0_isFine 2 rfl) rfl 0 rfl ?_
  refine hq_getR (h := 26) 2 (pm_d rk_X0_isFine 3 rfl) fl_X0_28 rfl rfl ?_
  obtain ⟨x2, t1, hq, h⟩ := pm_bd_i h
  have hM := w_C_X1_variables_26 (d := d + 3) (h := hq)
  refine hq_callVi (a := 26) (ci := 1) [] [.ref 31] (pm_d rk_X0_isFine 4 rfl) ml_X0_47 iv_X1_variables rfl rfl rfl rfl rfl (Nat.le_of_ble_eq_true rfl) hM ?_
  show hp_go _ _ _ _ _ 11 _ _ _
  obtain ⟨t3, hq, h⟩ := pm_b1_i h
  have hM := w_C_X9_begin_31 (d := d + 1) (h := hq)
  refine hq_callVv (a := 31) (ci := 9) [.int x2] [] (pm_d rk_X0_isFine 5 rfl) ml_X0_52 iv_X9_begin rfl rfl rfl rfl rfl (Nat.le_of_ble_eq_true rfl) hM ?_
  refine hq_iconst (v := (0 : Int32)) (pm_d rk_X0_isFine 6 rfl) (by decide) ?_
  refine hq_istore_n (L1 := [(1, .int (0 : Int32)), (0, .ref 37)]) (pm_d rk_X0_isFine 7 rfl) rfl (by decide) rfl ?_
  refine hq_drop [1, 0] rfl ?_
  exact wl_C_X0_isFine_37_16 d _ _   _ _ _ h
def f_C_X0_allFine_37 (n : Nat) (s : hp_S) : Option (Int32 × hp_S) :=
  pm_b1 (f_C_X0_chooseAll_37 n s) (fun t1 =>
  pm_bd (f_C_X0_isFine_37 n t1) (fun x3 t2 =>
  pm_gd1 (pm_bl x3) (some (x3, t2))))
set_option maxRecDepth 100000 in
set_option maxHeartbeats 400000 in
theorem w_C_X0_allFine_37 (d : Nat) (n : Nat) (s s1 : hp_S) (x0 : Int32) (h : f_C_X0_allFine_37 n s = some (x0, s1)) : hp_is sh_C me_X0_allFine (d + 5) [.ref 37] s (some (.int x0)) s1 := by
  refine hp_ofF [(0, .ref 37)] (by decide +kernel) (Nat.le_of_ble_eq_true rfl) rfl ?_
  unfold f_C_X0_allFine_37 at h
  refine hq_aload_n (pm_d rk_X0_allFine 0 rfl) rfl 0 rfl ?_
  obtain ⟨t1, hq, h⟩ := pm_b1_i h
  have hM := w_C_X0_chooseAll_37 (d := d + 4) (h := hq)
  refine hq_callVv (a := 37) (ci := 0) [] [] (pm_d rk_X0_allFine 1 rfl) ml_X0_36 iv_X0_chooseAll rfl rfl rfl rfl rfl (Nat.le_of_ble_eq_true rfl) hM ?_
  refine hq_aload_n (pm_d rk_X0_allFine 2 rfl) rfl 0 rfl ?_
  obtain ⟨x3, t2, hq, h⟩ := pm_bd_i h
  have hM := w_C_X0_isFine_37 (d := d + 0) (h := hq)
  refine hq_callVi (a := 37) (ci := 0) [] [] (pm_d rk_X0_allFine 3 rfl) ml_X0_39 iv_X0_isFine rfl rfl rfl rfl rfl (Nat.le_of_ble_eq_true rfl) hM ?_
  obtain ⟨hg, h⟩ := pm_gd_i h
  exact hq_zret (pm_d rk_X0_allFine 4 rfl) rfl (pm_bl_n hg) h
def l_C_X0_cut_37_42_8 : Nat → Int32 → Int32 → hp_S → Option (Int32 × hp_S)
  | 0, _, _, _ => none
  | n + 1, y2, y3, s =>
    pm_bd (f_C_X7_size_16 s) (fun x3 t2 =>
    if x3 ≤ y3 then
      some (y2, t2)
    else
      if (100 : Int32) ≤ y3 then
        some (y2, t2)
      else
        if (100 : Int32) ≤ y3 then
          some (y2, t2)
        else
          pm_gd1 (pm_ib y3 100) (
          pm_let (hs_pA t2 38 y3.toNatClampNeg (vp_nar .boolean (0 : Int32))) (fun t4 =>
          pm_bd (f_C_X0_isFine_37 n t4) (fun x6 t5 =>
          pm_gd1 (pm_ib y3 100) (
          pm_let (hs_pA t5 38 y3.toNatClampNeg (vp_nar .boolean x6)) (fun t7 =>
          pm_gd1 (pm_ib y3 100) (
          pm_gd1 (pm_ib y3 100) (
          pm_let (hs_pA t7 42 y3.toNatClampNeg (vp_nar .boolean (hs_A t7 38 y3.toNatClampNeg))) (fun t8 =>
          pm_gd1 (pm_ib y3 100) (
          pm_let (fun (z72_3 : Int32) (z72_S0 : Int32) (z72_S1 : Int32) (s : hp_S) =>
            pm_let (z72_S1 + z72_S0) (fun x9 =>
            pm_let (z72_3 + (1 : Int32)) (fun x10 =>
            l_C_X0_cut_37_42_8 n x9 x10 s))) (fun j72 =>
          if (hs_A t8 38 y3.toNatClampNeg) = 0 then
            j72 y3 (0 : Int32) y2 t8
          else
            j72 y3 (1 : Int32) y2 t8)))))))))))
set_option maxRecDepth 100000 in
set_option maxHeartbeats 400000 in
theorem wl_C_X0_cut_37_42_8 (d : Nat) (s1 : hp_S) (x0 : Int32)  : ∀ (n : Nat) (y2 : Int32) (y3 : Int32) (s : hp_S), l_C_X0_cut_37_42_8 n y2 y3 s = some (x0, s1) → hp_go sh_C me_X0_cut (d + 5) (some (.int x0)) s1 8 [(0, .ref 37), (1, .ref 42), (2, .int y2), (3, .int y3)] [] s := by
  intro n
  induction n with
  | zero =>
    intro y2 y3 s h
    cases h
  | succ n ih =>
    intro y2 y3 s h
    rw [l_C_X0_cut_37_42_8.eq_2] at h
    refine hq_iload_n (pm_d rk_X0_cut 6 rfl) rfl 3 rfl ?_
    refine hq_aload_n (pm_d rk_X0_cut 7 rfl) rfl 0 rfl ?_
    refine hq_getR (h := 16) 0 (pm_d rk_X0_cut 8 rfl) fl_X0_15 rfl rfl ?_
    obtain ⟨x3, t2, hq, h⟩ := pm_bd_i h
    have hM := w_C_X7_size_16 (d := d + 4) (h := hq)
    refine hq_callVi (a := 16) (ci := 7) [] [.int y3] (pm_d rk_X0_cut 9 rfl) ml_X0_43 iv_X7_size rfl rfl rfl rfl rfl (Nat.le_of_ble_eq_true rfl) hM ?_
    refine hq_icmp_ge 80 (pm_d rk_X0_cut 10 rfl) (by decide) (fun hc => ?_) (fun hc => ?_)
    · rw [if_pos hc] at h
      show hp_go _ _ _ _ _ 80 _ _ _
      refine hq_iload_n (pm_d rk_X0_cut 49 rfl) rfl 2 rfl ?_
      exact hq_iret (pm_d rk_X0_cut 50 rfl) rfl h
    rw [if_neg hc] at h
    refine hq_iload_n (pm_d rk_X0_cut 11 rfl) rfl 3 rfl ?_
    refine hq_bipush (v := (100 : Int32)) (pm_d rk_X0_cut 12 rfl) (by decide) ?_
    refine hq_icmp_ge 80 (pm_d rk_X0_cut 13 rfl) (by decide) (fun hc => ?_) (fun hc => ?_)
    · rw [if_pos hc] at h
      refine hq_iload_n (pm_d rk_X0_cut 49 rfl) rfl 2 rfl ?_
      show hp_go _ _ _ _ _ 81 _ _ _
      exact hq_iret (pm_d rk_X0_cut 50 rfl) rfl h
    rw [if_neg hc] at h
    refine hq_iload_n (pm_d rk_X0_cut 14 rfl) rfl 3 rfl ?_
    refine hq_aload_n (pm_d rk_X0_cut 15 rfl) rfl 1 rfl ?_
    refine hq_alen 2 (pm_d rk_X0_cut 16 rfl) rfl (fun _ => rfl) (show Int32.ofNat 100 = (100 : Int32) by decide) ?_
    refine hq_icmp_ge 80 (pm_d rk_X0_cut 17 rfl) (by decide) (fun hc => ?_) (fun hc => ?_)
    · rw [if_pos hc] at h
      refine hq_iload_n (pm_d rk_X0_cut 49 rfl) rfl 2 rfl ?_
      show hp_go _ _ _ _ _ 81 _ _ _
      exact hq_iret (pm_d rk_X0_cut 50 rfl) rfl h
    rw [if_neg hc] at h
    refine hq_aload_n (pm_d rk_X0_cut 18 rfl) rfl 0 rfl ?_
    refine hq_getR (h := 38) 4 (pm_d rk_X0_cut 19 rfl) fl_X0_9 rfl rfl ?_
    refine hq_iload_n (pm_d rk_X0_cut 20 rfl) rfl 3 rfl ?_
    refine hq_iconst (v := (0 : Int32)) (pm_d rk_X0_cut 21 rfl) (by decide) ?_
    obtain ⟨hg, h⟩ := pm_gd_i h
    refine hq_zastore (pm_d rk_X0_cut 22 rfl) rfl hg ?_
    refine pm_nm (G := fun t4 => hp_go sh_C me_X0_cut (d + 5) (some (.int x0)) s1 38 [(0, .ref 37), (1, .ref 42), (2, .int y2), (3, .int y3)] [] t4) h (fun t4 h => ?_)
    show hp_go _ _ _ _ _ 38 _ _ _
    refine hq_aload_n (pm_d rk_X0_cut 23 rfl) rfl 0 rfl ?_
    refine hq_getR (h := 38) 4 (pm_d rk_X0_cut 24 rfl) fl_X0_9 rfl rfl ?_
    refine hq_iload_n (pm_d rk_X0_cut 25 rfl) rfl 3 rfl ?_
    refine hq_aload_n (pm_d rk_X0_cut 26 rfl) rfl 0 rfl ?_
    obtain ⟨x6, t5, hq, h⟩ := pm_bd_i h
    have hM := w_C_X0_isFine_37 (d := d + 0) (h := hq)
    refine hq_callVi (a := 37) (ci := 0) [] [.int y3, .ref 38] (pm_d rk_X0_cut 27 rfl) ml_X0_39 iv_X0_isFine rfl rfl rfl rfl rfl (Nat.le_of_ble_eq_true rfl) hM ?_
    obtain ⟨hg, h⟩ := pm_gd_i h
    refine hq_zastore (pm_d rk_X0_cut 28 rfl) rfl hg ?_
    refine pm_nm (G := fun t7 => hp_go sh_C me_X0_cut (d + 5) (some (.int x0)) s1 48 [(0, .ref 37), (1, .ref 42), (2, .int y2), (3, .int y3)] [] t7) h (fun t7 h => ?_)
    show hp_go _ _ _ _ _ 48 _ _ _
    refine hq_aload_n (pm_d rk_X0_cut 29 rfl) rfl 1 rfl ?_
    refine hq_iload_n (pm_d rk_X0_cut 30 rfl) rfl 3 rfl ?_
    refine hq_aload_n (pm_d rk_X0_cut 31 rfl) rfl 0 rfl ?_
    refine hq_getR (h := 38) 4 (pm_d rk_X0_cut 32 rfl) fl_X0_9 rfl rfl ?_
    refine hq_iload_n (pm_d rk_X0_cut 33 rfl) rfl 3 rfl ?_
    obtain ⟨hg, h⟩ := pm_gd_i h
    refine hq_zaload (pm_d rk_X0_cut 34 rfl) rfl hg ?_
    show hp_go _ _ _ _ _ 56 _ _ _
    obtain ⟨hg, h⟩ := pm_gd_i h
    refine hq_zastore (pm_d rk_X0_cut 35 rfl) rfl hg ?_
    refine pm_nm (G := fun t8 => hp_go sh_C me_X0_cut (d + 5) (some (.int x0)) s1 57 [(0, .ref 37), (1, .ref 42), (2, .int y2), (3, .int y3)] [] t8) h (fun t8 h => ?_)
    refine hq_iload_n (pm_d rk_X0_cut 36 rfl) rfl 2 rfl ?_
    refine hq_aload_n (pm_d rk_X0_cut 37 rfl) rfl 0 rfl ?_
    refine hq_getR (h := 38) 4 (pm_d rk_X0_cut 38 rfl) fl_X0_9 rfl rfl ?_
    refine hq_iload_n (pm_d rk_X0_cut 39 rfl) rfl 3 rfl ?_
    obtain ⟨hg, h⟩ := pm_gd_i h
    refine hq_zaload (pm_d rk_X0_cut 40 rfl) rfl hg ?_
    refine pm_jn (P := fun j72 => ∀ (z72_3 : Int32) (z72_S0 : Int32) (z72_S1 : Int32) (s : hp_S), j72 z72_3 z72_S0 z72_S1 s = some (x0, s1) → hp_go sh_C me_X0_cut (d + 5) (some (.int x0)) s1 72 [(0, .ref 37), (1, .ref 42), (3, .int z72_3)] [.int z72_S0, .int z72_S1] s) h ?_ (fun j72 hj72 h => ?_)
    · intro z72_3 z72_S0 z72_S1 s h
      dsimp only at h
      show hp_go _ _ _ _ _ 72 _ _ _
      refine hq_iadd (pm_d rk_X0_cut 45 rfl) ?_
      refine pm_nm (G := fun x9 => hp_go sh_C me_X0_cut (d + 5) (some (.int x0)) s1 73 [(0, .ref 37), (1, .ref 42), (3, .int z72_3)] [.int x9] s) h (fun x9 h => ?_)
      refine hq_istore_n (L1 := [(2, .int x9), (0, .ref 37), (1, .ref 42), (3, .int z72_3)]) (pm_d rk_X0_cut 46 rfl) rfl (by decide) rfl ?_
      refine hq_iinc (v := z72_3 + (1 : Int32)) (L1 := [(3, .int (z72_3 + (1 : Int32))), (2, .int x9), (0, .ref 37), (1, .ref 42)]) (pm_d rk_X0_cut 47 rfl) 3 rfl (by rw [show Int32.ofInt (1) = (1 : Int32) by decide]) (by decide) rfl ?_
      refine pm_nm (G := fun x10 => hp_go sh_C me_X0_cut (d + 5) (some (.int x0)) s1 77 [(3, .int x10), (2, .int x9), (0, .ref 37), (1, .ref 42)] [] s) h (fun x10 h => ?_)
      refine hq_goto 8 (pm_d rk_X0_cut 48 rfl) (by decide) ?_
      refine hq_drop [2, 3, 1, 0] rfl ?_
      exact ih _ _ _ h
    refine hq_if_eq 71 (pm_d rk_X0_cut 41 rfl) (by decide) (fun hc => ?_) (fun hc => ?_)
    · rw [if_pos hc] at h
      refine hq_iconst (v := (0 : Int32)) (pm_d rk_X0_cut 44 rfl) (by decide) ?_
      refine hq_drop [0, 1, 3] rfl ?_
      exact hj72 _ _ _ _ h
    rw [if_neg hc] at h
    show hp_go _ _ _ _ _ 67 _ _ _
    refine hq_iconst (v := (1 : Int32)) (pm_d rk_X0_cut 42 rfl) (by decide) ?_
    refine hq_goto 72 (pm_d rk_X0_cut 43 rfl) (by decide) ?_
    refine hq_drop [0, 1, 3] rfl ?_
    exact hj72 _ _ _ _ h
def f_C_X0_cut_37_42 (n : Nat) (s : hp_S) : Option (Int32 × hp_S) :=
  pm_b1 (f_C_X0_chooseAll_37 n s) (fun t1 =>
  l_C_X0_cut_37_42_8 n (0 : Int32) (0 : Int32) t1)
set_option maxRecDepth 100000 in
set_option maxHeartbeats 400000 in
theorem w_C_X0_cut_37_42 (d : Nat) (n : Nat) (s s1 : hp_S) (x0 : Int32) (h : f_C_X0_cut_37_42 n s = some (x0, s1)) : hp_is sh_C me_X0_cut (d + 5) [.ref 37, .ref 42] s (some (.int x0)) s1 := by
  refine hp_ofF [(0, .ref 37), (1, .ref 42)] (by decide +kernel) (Nat.le_of_ble_eq_true rfl) rfl ?_
  unfold f_C_X0_cut_37_42 at h
  refine hq_aload_n (pm_d rk_X0_cut 0 rfl) rfl 0 rfl ?_
  obtain ⟨t1, hq, h⟩ := pm_b1_i h
  have hM := w_C_X0_chooseAll_37 (d := d + 4) (h := hq)
  refine hq_callVv (a := 37) (ci := 0) [] [] (pm_d rk_X0_cut 1 rfl) ml_X0_36 iv_X0_chooseAll rfl rfl rfl rfl rfl (Nat.le_of_ble_eq_true rfl) hM ?_
  refine hq_iconst (v := (0 : Int32)) (pm_d rk_X0_cut 2 rfl) (by decide) ?_
  refine hq_istore_n (L1 := [(2, .int (0 : Int32)), (0, .ref 37), (1, .ref 42)]) (pm_d rk_X0_cut 3 rfl) rfl (by decide) rfl ?_
  refine hq_iconst (v := (0 : Int32)) (pm_d rk_X0_cut 4 rfl) (by decide) ?_
  show hp_go _ _ _ _ _ 7 _ _ _
  refine hq_istore_n (L1 := [(3, .int (0 : Int32)), (2, .int (0 : Int32)), (0, .ref 37), (1, .ref 42)]) (pm_d rk_X0_cut 5 rfl) rfl (by decide) rfl ?_
  refine hq_drop [2, 3, 1, 0] rfl ?_
  exact wl_C_X0_cut_37_42_8 d _ _   _ _ _ _ h
def f_C_X3_isFull_39  (s : hp_S) : Option (Int32 × hp_S) :=
  if (hs_I s 39 1) < (4000 : Int32) then
    some ((0 : Int32), s)
  else
    some ((1 : Int32), s)
set_option maxRecDepth 100000 in
set_option maxHeartbeats 400000 in
theorem w_C_X3_isFull_39 (d : Nat)  (s s1 : hp_S) (x0 : Int32) (h : f_C_X3_isFull_39 s = some (x0, s1)) : hp_is sh_C me_X3_isFull (d + 0) [.ref 39] s (some (.int x0)) s1 := by
  refine hp_ofF [(0, .ref 39)] (by decide +kernel) (Nat.le_of_ble_eq_true rfl) rfl ?_
  unfold f_C_X3_isFull_39 at h
  refine hq_aload_n (pm_d rk_X3_isFull 0 rfl) rfl 0 rfl ?_
  refine hq_getI 1 (pm_d rk_X3_isFull 1 rfl) fl_X3_15 rfl rfl ?_
  refine hq_sipush (v := (4000 : Int32)) (pm_d rk_X3_isFull 2 rfl) (by decide) ?_
  refine hq_icmp_lt 14 (pm_d rk_X3_isFull 3 rfl) (by decide) (fun hc => ?_) (fun hc => ?_)
  · rw [if_pos hc] at h
    refine hq_iconst (v := (0 : Int32)) (pm_d rk_X3_isFull 6 rfl) (by decide) ?_
    show hp_go _ _ _ _ _ 15 _ _ _
    exact hq_zret (pm_d rk_X3_isFull 7 rfl) rfl rfl h
  rw [if_neg hc] at h
  refine hq_iconst (v := (1 : Int32)) (pm_d rk_X3_isFull 4 rfl) (by decide) ?_
  refine hq_goto 15 (pm_d rk_X3_isFull 5 rfl) (by decide) ?_
  exact hq_zret (pm_d rk_X3_isFull 7 rfl) rfl rfl h
def f_C_X3_add_39 (a1 : Int32) (s : hp_S) : Option hp_S :=
  pm_bd (f_C_X3_isFull_39 s) (fun x2 t1 =>
  if x2 = 0 then
    pm_gd1 (pm_ib (hs_I t1 39 1) 4000) (
    pm_let (hs_pA t1 40 (hs_I t1 39 1).toNatClampNeg (vp_nar .byte (a1.toInt8.toInt32))) (fun t3 =>
    pm_let (hs_pI t3 39 1 ((hs_I t3 39 1) + (1 : Int32))) (fun t4 =>
    some t4)))
  else
    some t1)
set_option maxRecDepth 100000 in
set_option maxHeartbeats 400000 in
theorem w_C_X3_add_39 (d : Nat) (a1 : Int32) (s s1 : hp_S) (h : f_C_X3_add_39 a1 s = some s1) : hp_is sh_C me_X3_add (d + 1) [.ref 39, .int a1] s none s1 := by
  refine hp_ofF [(0, .ref 39), (1, .int a1)] (by decide +kernel) (Nat.le_of_ble_eq_true rfl) rfl ?_
  unfold f_C_X3_add_39 at h
  refine hq_aload_n (pm_d rk_X3_add 0 rfl) rfl 0 rfl ?_
  obtain ⟨x2, t1, hq, h⟩ := pm_bd_i h
  have hM := w_C_X3_isFull_39 (d := d + 0) (h := hq)
  refine hq_callVi (a := 39) (ci := 3) [] [] (pm_d rk_X3_add 1 rfl) ml_X3_22 iv_X3_isFull rfl rfl rfl rfl rfl (Nat.le_of_ble_eq_true rfl) hM ?_
  refine hq_if_ne 28 (pm_d rk_X3_add 2 rfl) (by decide) (fun hc => ?_) (fun hc => ?_)
  · rw [if_neg hc] at h
    exact hq_vret (pm_d rk_X3_add 16 rfl) rfl h
  rw [if_pos hc] at h
  refine hq_aload_n (pm_d rk_X3_add 3 rfl) rfl 0 rfl ?_
  show hp_go _ _ _ _ _ 8 _ _ _
  refine hq_getR (h := 40) 0 (pm_d rk_X3_add 4 rfl) fl_X3_9 rfl rfl ?_
  refine hq_aload_n (pm_d rk_X3_add 5 rfl) rfl 0 rfl ?_
  refine hq_getI 1 (pm_d rk_X3_add 6 rfl) fl_X3_15 rfl rfl ?_
  refine hq_iload_n (pm_d rk_X3_add 7 rfl) rfl 1 rfl ?_
  refine hq_i2b (pm_d rk_X3_add 8 rfl) ?_
  obtain ⟨hg, h⟩ := pm_gd_i h
  refine hq_bastore (pm_d rk_X3_add 9 rfl) rfl hg ?_
  refine pm_nm (G := fun t3 => hp_go sh_C me_X3_add (d + 1) none s1 18 [(0, .ref 39), (1, .int a1)] [] t3) h (fun t3 h => ?_)
  show hp_go _ _ _ _ _ 18 _ _ _
  refine hq_aload_n (pm_d rk_X3_add 10 rfl) rfl 0 rfl ?_
  refine hq_dup (pm_d rk_X3_add 11 rfl) rfl ?_
  refine hq_getI 1 (pm_d rk_X3_add 12 rfl) fl_X3_15 rfl rfl ?_
  refine hq_iconst (v := (1 : Int32)) (pm_d rk_X3_add 13 rfl) (by decide) ?_
  refine hq_iadd (pm_d rk_X3_add 14 rfl) ?_
  refine hq_putI 1 (pm_d rk_X3_add 15 rfl) fl_X3_15 rfl rfl ?_
  refine pm_nm (G := fun t4 => hp_go sh_C me_X3_add (d + 1) none s1 28 [(0, .ref 39), (1, .int a1)] [] t4) h (fun t4 h => ?_)
  show hp_go _ _ _ _ _ 28 _ _ _
  exact hq_vret (pm_d rk_X3_add 16 rfl) rfl h
def l_C_X3_addText_39_str_2 (i1 : Nat) : Nat → Int32 → hp_S → Option hp_S
  | 0, _, _ => none
  | n + 1, y2, s =>
    pm_bd (f_C_J0_length_8abf5 i1 s) (fun x2 t1 =>
    pm_gd1 (decide (i1 < 13)) (
    if x2 ≤ y2 then
      some t1
    else
      pm_bd (f_C_J0_charAt_5068e i1 y2 t1) (fun x4 t3 =>
      pm_gd1 (decide (i1 < 13)) (
      pm_b1 (f_C_X3_add_39 x4 t3) (fun t5 =>
      pm_let (y2 + (1 : Int32)) (fun x6 =>
      l_C_X3_addText_39_str_2 i1 n x6 t5))))))
set_option maxRecDepth 100000 in
set_option maxHeartbeats 400000 in
theorem wl_C_X3_addText_39_str_2 (d : Nat) (i1 : Nat) (s1 : hp_S)  : ∀ (n : Nat) (y2 : Int32) (s : hp_S), l_C_X3_addText_39_str_2 i1 n y2 s = some s1 → hp_go sh_C me_X3_addText (d + 4) none s1 2 [(0, .ref 39), (1, .ref (1000 + i1)), (2, .int y2)] [] s := by
  intro n
  induction n with
  | zero =>
    intro y2 s h
    cases h
  | succ n ih =>
    intro y2 s h
    rw [l_C_X3_addText_39_str_2.eq_2] at h
    refine hq_iload_n (pm_d rk_X3_addText 2 rfl) rfl 2 rfl ?_
    refine hq_aload_n (pm_d rk_X3_addText 3 rfl) rfl 1 rfl ?_
    obtain ⟨x2, t1, hq, h⟩ := pm_bd_i h
    have hM := w_C_J0_length_8abf5 (d := d + 2) (h := hq)
    obtain ⟨hg13, h⟩ := pm_gd_i h
    refine hq_callVSi [] [.int y2] (pm_d rk_X3_addText 4 rfl) ml_X3_26 iv_J0_length_8abf5 (pm_13 hg13) rfl rfl rfl (Nat.le_of_ble_eq_true rfl) hM ?_
    show hp_go _ _ _ _ _ 7 _ _ _
    refine hq_icmp_ge 25 (pm_d rk_X3_addText 5 rfl) (by decide) (fun hc => ?_) (fun hc => ?_)
    · rw [if_pos hc] at h
      exact hq_vret (pm_d rk_X3_addText 13 rfl) rfl h
    rw [if_neg hc] at h
    refine hq_aload_n (pm_d rk_X3_addText 6 rfl) rfl 0 rfl ?_
    refine hq_aload_n (pm_d rk_X3_addText 7 rfl) rfl 1 rfl ?_
    refine hq_iload_n (pm_d rk_X3_addText 8 rfl) rfl 2 rfl ?_
    obtain ⟨x4, t3, hq, h⟩ := pm_bd_i h
    have hM := w_C_J0_charAt_5068e (d := d + 0) (h := hq)
    obtain ⟨hg13, h⟩ := pm_gd_i h
    refine hq_callVSi [.int y2] [.ref 39] (pm_d rk_X3_addText 9 rfl) ml_X3_32 iv_J0_charAt_5068e (pm_13 hg13) rfl rfl rfl (Nat.le_of_ble_eq_true rfl) hM ?_
    show hp_go _ _ _ _ _ 16 _ _ _
    obtain ⟨t5, hq, h⟩ := pm_b1_i h
    have hM := w_C_X3_add_39 (d := d + 2) (h := hq)
    refine hq_callVv (a := 39) (ci := 3) [.int x4] [] (pm_d rk_X3_addText 10 rfl) ml_X3_36 iv_X3_add rfl rfl rfl rfl rfl (Nat.le_of_ble_eq_true rfl) hM ?_
    refine hq_iinc (v := y2 + (1 : Int32)) (L1 := [(2, .int (y2 + (1 : Int32))), (0, .ref 39), (1, .ref (1000 + i1))]) (pm_d rk_X3_addText 11 rfl) 2 rfl (by rw [show Int32.ofInt (1) = (1 : Int32) by decide]) (by decide) rfl ?_
    refine pm_nm (G := fun x6 => hp_go sh_C me_X3_addText (d + 4) none s1 22 [(2, .int x6), (0, .ref 39), (1, .ref (1000 + i1))] [] t5) h (fun x6 h => ?_)
    refine hq_goto 2 (pm_d rk_X3_addText 12 rfl) (by decide) ?_
    refine hq_drop [1, 2, 0] rfl ?_
    exact ih _ _ h
def f_C_X3_addText_39_str (n : Nat) (i1 : Nat) (s : hp_S) : Option hp_S :=
  l_C_X3_addText_39_str_2 i1 n (0 : Int32) s
set_option maxRecDepth 100000 in
set_option maxHeartbeats 400000 in
theorem w_C_X3_addText_39_str (d : Nat) (n : Nat) (i1 : Nat) (s s1 : hp_S) (h : f_C_X3_addText_39_str n i1 s = some s1) : hp_is sh_C me_X3_addText (d + 4) [.ref 39, .ref (1000 + i1)] s none s1 := by
  refine hp_ofF [(0, .ref 39), (1, .ref (1000 + i1))] (by decide +kernel) (Nat.le_of_ble_eq_true rfl) rfl ?_
  unfold f_C_X3_addText_39_str at h
  refine hq_iconst (v := (0 : Int32)) (pm_d rk_X3_addText 0 rfl) (by decide) ?_
  refine hq_istore_n (L1 := [(2, .int (0 : Int32)), (0, .ref 39), (1, .ref (1000 + i1))]) (pm_d rk_X3_addText 1 rfl) rfl (by decide) rfl ?_
  refine hq_drop [1, 2, 0] rfl ?_
  exact wl_C_X3_addText_39_str_2 d i1 _   _ _ _ h
def f_C_X6_start_3 (a1 : Int32) (s : hp_S) : Option (Int32 × hp_S) :=
  pm_let (fun (s : hp_S) =>
    pm_bd (f_C_X5_length_1 s) (fun x2 t1 =>
    some (x2, t1))) (fun j21 =>
  if a1 < 0 then
    j21  s
  else
    if (hs_I s 3 4) ≤ a1 then
      j21  s
    else
      pm_gd1 (pm_ib a1 500) (
      some ((hs_A s 5 a1.toNatClampNeg), s)))
set_option maxRecDepth 100000 in
set_option maxHeartbeats 400000 in
theorem w_C_X6_start_3 (d : Nat) (a1 : Int32) (s s1 : hp_S) (x0 : Int32) (h : f_C_X6_start_3 a1 s = some (x0, s1)) : hp_is sh_C me_X6_start (d + 1) [.ref 3, .int a1] s (some (.int x0)) s1 := by
  refine hp_ofF [(0, .ref 3), (1, .int a1)] (by decide +kernel) (Nat.le_of_ble_eq_true rfl) rfl ?_
  unfold f_C_X6_start_3 at h
  refine hq_iload_n (pm_d rk_X6_start 0 rfl) rfl 1 rfl ?_
  refine pm_jn (P := fun j21 => ∀ (s : hp_S), j21  s = some (x0, s1) → hp_go sh_C me_X6_start (d + 1) (some (.int x0)) s1 21 [(0, .ref 3)] [] s) h ?_ (fun j21 hj21 h => ?_)
  · intro  s h
    dsimp only at h
    refine hq_aload_n (pm_d rk_X6_start 11 rfl) rfl 0 rfl ?_
    refine hq_getR (h := 1) 0 (pm_d rk_X6_start 12 rfl) fl_X6_25 rfl rfl ?_
    obtain ⟨x2, t1, hq, h⟩ := pm_bd_i h
    have hM := w_C_X5_length_1 (d := d + 0) (h := hq)
    refine hq_callVi (a := 1) (ci := 5) [] [] (pm_d rk_X6_start 13 rfl) ml_X6_29 iv_X5_length rfl rfl rfl rfl rfl (Nat.le_of_ble_eq_true rfl) hM ?_
    exact hq_iret (pm_d rk_X6_start 14 rfl) rfl h
  show hp_go _ _ _ _ _ 1 _ _ _
  refine hq_if_lt 21 (pm_d rk_X6_start 1 rfl) (by decide) (fun hc => ?_) (fun hc => ?_)
  · rw [if_pos hc] at h
    refine hq_drop [0] rfl ?_
    exact hj21  _ h
  rw [if_neg hc] at h
  refine hq_iload_n (pm_d rk_X6_start 2 rfl) rfl 1 rfl ?_
  refine hq_aload_n (pm_d rk_X6_start 3 rfl) rfl 0 rfl ?_
  refine hq_getI 4 (pm_d rk_X6_start 4 rfl) fl_X6_21 rfl rfl ?_
  refine hq_icmp_ge 21 (pm_d rk_X6_start 5 rfl) (by decide) (fun hc => ?_) (fun hc => ?_)
  · rw [if_pos hc] at h
    refine hq_drop [0] rfl ?_
    exact hj21  _ h
  rw [if_neg hc] at h
  refine hq_aload_n (pm_d rk_X6_start 6 rfl) rfl 0 rfl ?_
  show hp_go _ _ _ _ _ 13 _ _ _
  refine hq_getR (h := 5) 2 (pm_d rk_X6_start 7 rfl) fl_X6_15 rfl rfl ?_
  refine hq_iload_n (pm_d rk_X6_start 8 rfl) rfl 1 rfl ?_
  obtain ⟨hg, h⟩ := pm_gd_i h
  refine hq_iaload (pm_d rk_X6_start 9 rfl) rfl hg ?_
  refine hq_goto 28 (pm_d rk_X6_start 10 rfl) (by decide) ?_
  exact hq_iret (pm_d rk_X6_start 14 rfl) rfl h
def f_C_X6_end_3 (a1 : Int32) (s : hp_S) : Option (Int32 × hp_S) :=
  pm_let (fun (s : hp_S) =>
    pm_bd (f_C_X5_length_1 s) (fun x2 t1 =>
    some (x2, t1))) (fun j21 =>
  if a1 < 0 then
    j21  s
  else
    if (hs_I s 3 4) ≤ a1 then
      j21  s
    else
      pm_gd1 (pm_ib a1 500) (
      some ((hs_A s 6 a1.toNatClampNeg), s)))
set_option maxRecDepth 100000 in
set_option maxHeartbeats 400000 in
theorem w_C_X6_end_3 (d : Nat) (a1 : Int32) (s s1 : hp_S) (x0 : Int32) (h : f_C_X6_end_3 a1 s = some (x0, s1)) : hp_is sh_C me_X6_end (d + 1) [.ref 3, .int a1] s (some (.int x0)) s1 := by
  refine hp_ofF [(0, .ref 3), (1, .int a1)] (by decide +kernel) (Nat.le_of_ble_eq_true rfl) rfl ?_
  unfold f_C_X6_end_3 at h
  refine hq_iload_n (pm_d rk_X6_end 0 rfl) rfl 1 rfl ?_
  refine pm_jn (P := fun j21 => ∀ (s : hp_S), j21  s = some (x0, s1) → hp_go sh_C me_X6_end (d + 1) (some (.int x0)) s1 21 [(0, .ref 3)] [] s) h ?_ (fun j21 hj21 h => ?_)
  · intro  s h
    dsimp only at h
    refine hq_aload_n (pm_d rk_X6_end 11 rfl) rfl 0 rfl ?_
    refine hq_getR (h := 1) 0 (pm_d rk_X6_end 12 rfl) fl_X6_25 rfl rfl ?_
    obtain ⟨x2, t1, hq, h⟩ := pm_bd_i h
    have hM := w_C_X5_length_1 (d := d + 0) (h := hq)
    refine hq_callVi (a := 1) (ci := 5) [] [] (pm_d rk_X6_end 13 rfl) ml_X6_29 iv_X5_length rfl rfl rfl rfl rfl (Nat.le_of_ble_eq_true rfl) hM ?_
    exact hq_iret (pm_d rk_X6_end 14 rfl) rfl h
  show hp_go _ _ _ _ _ 1 _ _ _
  refine hq_if_lt 21 (pm_d rk_X6_end 1 rfl) (by decide) (fun hc => ?_) (fun hc => ?_)
  · rw [if_pos hc] at h
    refine hq_drop [0] rfl ?_
    exact hj21  _ h
  rw [if_neg hc] at h
  refine hq_iload_n (pm_d rk_X6_end 2 rfl) rfl 1 rfl ?_
  refine hq_aload_n (pm_d rk_X6_end 3 rfl) rfl 0 rfl ?_
  refine hq_getI 4 (pm_d rk_X6_end 4 rfl) fl_X6_21 rfl rfl ?_
  refine hq_icmp_ge 21 (pm_d rk_X6_end 5 rfl) (by decide) (fun hc => ?_) (fun hc => ?_)
  · rw [if_pos hc] at h
    refine hq_drop [0] rfl ?_
    exact hj21  _ h
  rw [if_neg hc] at h
  refine hq_aload_n (pm_d rk_X6_end 6 rfl) rfl 0 rfl ?_
  show hp_go _ _ _ _ _ 13 _ _ _
  refine hq_getR (h := 6) 3 (pm_d rk_X6_end 7 rfl) fl_X6_18 rfl rfl ?_
  refine hq_iload_n (pm_d rk_X6_end 8 rfl) rfl 1 rfl ?_
  obtain ⟨hg, h⟩ := pm_gd_i h
  refine hq_iaload (pm_d rk_X6_end 9 rfl) rfl hg ?_
  refine hq_goto 28 (pm_d rk_X6_end 10 rfl) (by decide) ?_
  exact hq_iret (pm_d rk_X6_end 14 rfl) rfl h
def l_C_X6_copyTo_3_39_6 : Nat → Int32 → Int32 → hp_S → Option hp_S
  | 0, _, _, _ => none
  | n + 1, y2, y3, s =>
    pm_bd (f_C_X6_end_3 y2 s) (fun x4 t3 =>
    if x4 ≤ y3 then
      some t3
    else
      pm_bd (f_C_X5_at_1 y3 t3) (fun x6 t5 =>
      pm_b1 (f_C_X3_add_39 x6 t5) (fun t7 =>
      pm_let (y3 + (1 : Int32)) (fun x8 =>
      l_C_X6_copyTo_3_39_6 n y2 x8 t7))))
set_option maxRecDepth 100000 in
set_option maxHeartbeats 400000 in
theorem wl_C_X6_copyTo_3_39_6 (d : Nat) (s1 : hp_S)  : ∀ (n : Nat) (y2 : Int32) (y3 : Int32) (s : hp_S), l_C_X6_copyTo_3_39_6 n y2 y3 s = some s1 → hp_go sh_C me_X6_copyTo (d + 2) none s1 6 [(0, .ref 3), (1, .ref 39), (2, .int y2), (3, .int y3)] [] s := by
  intro n
  induction n with
  | zero =>
    intro y2 y3 s h
    cases h
  | succ n ih =>
    intro y2 y3 s h
    rw [l_C_X6_copyTo_3_39_6.eq_2] at h
    refine hq_iload_n (pm_d rk_X6_copyTo 4 rfl) rfl 3 rfl ?_
    show hp_go _ _ _ _ _ 7 _ _ _
    refine hq_aload_n (pm_d rk_X6_copyTo 5 rfl) rfl 0 rfl ?_
    refine hq_iload_n (pm_d rk_X6_copyTo 6 rfl) rfl 2 rfl ?_
    obtain ⟨x4, t3, hq, h⟩ := pm_bd_i h
    have hM := w_C_X6_end_3 (d := d + 0) (h := hq)
    refine hq_callVi (a := 3) (ci := 6) [.int y2] [.int y3] (pm_d rk_X6_copyTo 7 rfl) ml_X6_53 iv_X6_end rfl rfl rfl rfl rfl (Nat.le_of_ble_eq_true rfl) hM ?_
    refine hq_icmp_ge 33 (pm_d rk_X6_copyTo 8 rfl) (by decide) (fun hc => ?_) (fun hc => ?_)
    · rw [if_pos hc] at h
      exact hq_vret (pm_d rk_X6_copyTo 17 rfl) rfl h
    rw [if_neg hc] at h
    refine hq_aload_n (pm_d rk_X6_copyTo 9 rfl) rfl 1 rfl ?_
    show hp_go _ _ _ _ _ 16 _ _ _
    refine hq_aload_n (pm_d rk_X6_copyTo 10 rfl) rfl 0 rfl ?_
    refine hq_getR (h := 1) 0 (pm_d rk_X6_copyTo 11 rfl) fl_X6_25 rfl rfl ?_
    refine hq_iload_n (pm_d rk_X6_copyTo 12 rfl) rfl 3 rfl ?_
    obtain ⟨x6, t5, hq, h⟩ := pm_bd_i h
    have hM := w_C_X5_at_1 (d := d + 1) (h := hq)
    refine hq_callVi (a := 1) (ci := 5) [.int y3] [.ref 39] (pm_d rk_X6_copyTo 13 rfl) ml_X6_47 iv_X5_at rfl rfl rfl rfl rfl (Nat.le_of_ble_eq_true rfl) hM ?_
    obtain ⟨t7, hq, h⟩ := pm_b1_i h
    have hM := w_C_X3_add_39 (d := d + 0) (h := hq)
    refine hq_callVv (a := 39) (ci := 3) [.int x6] [] (pm_d rk_X6_copyTo 14 rfl) ml_X6_56 iv_X3_add rfl rfl rfl rfl rfl (Nat.le_of_ble_eq_true rfl) hM ?_
    refine hq_iinc (v := y3 + (1 : Int32)) (L1 := [(3, .int (y3 + (1 : Int32))), (0, .ref 3), (1, .ref 39), (2, .int y2)]) (pm_d rk_X6_copyTo 15 rfl) 3 rfl (by rw [show Int32.ofInt (1) = (1 : Int32) by decide]) (by decide) rfl ?_
    refine pm_nm (G := fun x8 => hp_go sh_C me_X6_copyTo (d + 2) none s1 30 [(3, .int x8), (0, .ref 3), (1, .ref 39), (2, .int y2)] [] t7) h (fun x8 h => ?_)
    show hp_go _ _ _ _ _ 30 _ _ _
    refine hq_goto 6 (pm_d rk_X6_copyTo 16 rfl) (by decide) ?_
    refine hq_drop [1, 2, 3, 0] rfl ?_
    exact ih _ _ _ h
def f_C_X6_copyTo_3_39 (n : Nat) (a2 : Int32) (s : hp_S) : Option hp_S :=
  pm_bd (f_C_X6_start_3 a2 s) (fun x2 t1 =>
  l_C_X6_copyTo_3_39_6 n a2 x2 t1)
set_option maxRecDepth 100000 in
set_option maxHeartbeats 400000 in
theorem w_C_X6_copyTo_3_39 (d : Nat) (n : Nat) (a2 : Int32) (s s1 : hp_S) (h : f_C_X6_copyTo_3_39 n a2 s = some s1) : hp_is sh_C me_X6_copyTo (d + 2) [.ref 3, .ref 39, .int a2] s none s1 := by
  refine hp_ofF [(0, .ref 3), (1, .ref 39), (2, .int a2)] (by decide +kernel) (Nat.le_of_ble_eq_true rfl) rfl ?_
  unfold f_C_X6_copyTo_3_39 at h
  refine hq_aload_n (pm_d rk_X6_copyTo 0 rfl) rfl 0 rfl ?_
  refine hq_iload_n (pm_d rk_X6_copyTo 1 rfl) rfl 2 rfl ?_
  obtain ⟨x2, t1, hq, h⟩ := pm_bd_i h
  have hM := w_C_X6_start_3 (d := d + 0) (h := hq)
  refine hq_callVi (a := 3) (ci := 6) [.int a2] [] (pm_d rk_X6_copyTo 2 rfl) ml_X6_50 iv_X6_start rfl rfl rfl rfl rfl (Nat.le_of_ble_eq_true rfl) hM ?_
  refine hq_istore_n (L1 := [(3, .int x2), (0, .ref 3), (1, .ref 39), (2, .int a2)]) (pm_d rk_X6_copyTo 3 rfl) rfl (by decide) rfl ?_
  refine hq_drop [1, 2, 3, 0] rfl ?_
  exact wl_C_X6_copyTo_3_39_6 d _   _ _ _ _ h
def l_C_X10_writeSlice_0_4 : Nat → Int32 → Int32 → hp_S → Option hp_S
  | 0, _, _, _ => none
  | n + 1, y1, y2, s =>
    pm_bd (f_C_X6_size_3 s) (fun x2 t1 =>
    if x2 ≤ y2 then
      pm_bd (f_C_X6_size_3 t1) (fun x4 t3 =>
      if (x4 - (1 : Int32)) ≤ y1 then
        some t3
      else
        pm_b1 (f_C_X3_addText_39_str n 12 t3) (fun t5 =>
        some t5))
    else
      pm_bd (f_C_X7_ownerOf_16 y2 t1) (fun x7 t6 =>
      pm_bd (f_C_X10_isIn_0 x7 t6) (fun x9 t8 =>
      pm_let (fun (z87_1 : Int32) (z87_2 : Int32) (s : hp_S) =>
        pm_let (z87_2 + (1 : Int32)) (fun x10 =>
        l_C_X10_writeSlice_0_4 n z87_1 x10 s)) (fun j87 =>
      if x9 = 0 then
        j87 y1 y2 t8
      else
        pm_let (fun (z73_2 : Int32) (s : hp_S) =>
          pm_b1 (f_C_X6_copyTo_3_39 n z73_2 s) (fun t11 =>
          j87 z73_2 z73_2 t11)) (fun j73 =>
        if y2 ≤ (y1 + (1 : Int32)) then
          if y1 = (-1 : Int32) then
            j73 y2 t8
          else
            pm_b1 (f_C_X3_addText_39_str n 11 t8) (fun t12 =>
            j73 y2 t12)
        else
          pm_let (fun (z53_2 : Int32) (z53_S0 : Nat) (s : hp_S) =>
            pm_b1 (f_C_X3_addText_39_str n z53_S0 s) (fun t13 =>
            j73 z53_2 t13)) (fun j53 =>
          if y1 = (-1 : Int32) then
            j53 y2 9 t8
          else
            j53 y2 10 t8))))))
set_option maxRecDepth 100000 in
set_option maxHeartbeats 400000 in
theorem wl_C_X10_writeSlice_0_4 (d : Nat) (s1 : hp_S)  : ∀ (n : Nat) (y1 : Int32) (y2 : Int32) (s : hp_S), l_C_X10_writeSlice_0_4 n y1 y2 s = some s1 → hp_go sh_C me_X10_writeSlice (d + 5) none s1 4 [(0, .ref 0), (1, .int y1), (2, .int y2)] [] s := by
  intro n
  induction n with
  | zero =>
    intro y1 y2 s h
    cases h
  | succ n ih =>
    intro y1 y2 s h
    rw [l_C_X10_writeSlice_0_4.eq_2] at h
    refine hq_iload_n (pm_d rk_X10_writeSlice 4 rfl) rfl 2 rfl ?_
    show hp_go _ _ _ _ _ 5 _ _ _
    refine hq_aload_n (pm_d rk_X10_writeSlice 5 rfl) rfl 0 rfl ?_
    refine hq_getR (h := 3) 1 (pm_d rk_X10_writeSlice 6 rfl) fl_X10_21 rfl rfl ?_
    obtain ⟨x2, t1, hq, h⟩ := pm_bd_i h
    have hM := w_C_X6_size_3 (d := d + 4) (h := hq)
    refine hq_callVi (a := 3) (ci := 6) [] [.int y2] (pm_d rk_X10_writeSlice 7 rfl) ml_X10_177 iv_X6_size rfl rfl rfl rfl rfl (Nat.le_of_ble_eq_true rfl) hM ?_
    refine hq_icmp_ge 93 (pm_d rk_X10_writeSlice 8 rfl) (by decide) (fun hc => ?_) (fun hc => ?_)
    · rw [if_pos hc] at h
      refine hq_iload_n (pm_d rk_X10_writeSlice 48 rfl) rfl 1 rfl ?_
      refine hq_aload_n (pm_d rk_X10_writeSlice 49 rfl) rfl 0 rfl ?_
      show hp_go _ _ _ _ _ 95 _ _ _
      refine hq_getR (h := 3) 1 (pm_d rk_X10_writeSlice 50 rfl) fl_X10_21 rfl rfl ?_
      obtain ⟨x4, t3, hq, h⟩ := pm_bd_i h
      have hM := w_C_X6_size_3 (d := d + 4) (h := hq)
      refine hq_callVi (a := 3) (ci := 6) [] [.int y1] (pm_d rk_X10_writeSlice 51 rfl) ml_X10_177 iv_X6_size rfl rfl rfl rfl rfl (Nat.le_of_ble_eq_true rfl) hM ?_
      refine hq_iconst (v := (1 : Int32)) (pm_d rk_X10_writeSlice 52 rfl) (by decide) ?_
      refine hq_isub (pm_d rk_X10_writeSlice 53 rfl) ?_
      refine hq_icmp_ge 115 (pm_d rk_X10_writeSlice 54 rfl) (by decide) (fun hc => ?_) (fun hc => ?_)
      · rw [if_pos hc] at h
        exact hq_vret (pm_d rk_X10_writeSlice 59 rfl) rfl h
      rw [if_neg hc] at h
      show hp_go _ _ _ _ _ 106 _ _ _
      refine hq_aload_n (pm_d rk_X10_writeSlice 55 rfl) rfl 0 rfl ?_
      refine hq_getR (h := 39) 7 (pm_d rk_X10_writeSlice 56 rfl) fl_X10_69 rfl rfl ?_
      refine hq_ldcS 12 (pm_d rk_X10_writeSlice 57 rfl) rfl ?_
      obtain ⟨t5, hq, h⟩ := pm_b1_i h
      have hM := w_C_X3_addText_39_str (d := d + 0) (h := hq)
      refine hq_callVv (a := 39) (ci := 3) [.ref (1000 + 12)] [] (pm_d rk_X10_writeSlice 58 rfl) ml_X10_189 iv_X3_addText rfl rfl rfl rfl rfl (Nat.le_of_ble_eq_true rfl) hM ?_
      exact hq_vret (pm_d rk_X10_writeSlice 59 rfl) rfl h
    rw [if_neg hc] at h
    refine hq_aload_n (pm_d rk_X10_writeSlice 9 rfl) rfl 0 rfl ?_
    show hp_go _ _ _ _ _ 16 _ _ _
    refine hq_aload_n (pm_d rk_X10_writeSlice 10 rfl) rfl 0 rfl ?_
    refine hq_getR (h := 16) 3 (pm_d rk_X10_writeSlice 11 rfl) fl_X10_37 rfl rfl ?_
    refine hq_iload_n (pm_d rk_X10_writeSlice 12 rfl) rfl 2 rfl ?_
    obtain ⟨x7, t6, hq, h⟩ := pm_bd_i h
    have hM := w_C_X7_ownerOf_16 (d := d + 4) (h := hq)
    refine hq_callVi (a := 16) (ci := 7) [.int y2] [.ref 0] (pm_d rk_X10_writeSlice 13 rfl) ml_X10_178 iv_X7_ownerOf rfl rfl rfl rfl rfl (Nat.le_of_ble_eq_true rfl) hM ?_
    obtain ⟨x9, t8, hq, h⟩ := pm_bd_i h
    have hM := w_C_X10_isIn_0 (d := d + 4) (h := hq)
    refine hq_callVi (a := 0) (ci := 10) [.int x7] [] (pm_d rk_X10_writeSlice 14 rfl) ml_X10_181 iv_X10_isIn rfl rfl rfl rfl rfl (Nat.le_of_ble_eq_true rfl) hM ?_
    refine pm_jn (P := fun j87 => ∀ (z87_1 : Int32) (z87_2 : Int32) (s : hp_S), j87 z87_1 z87_2 s = some s1 → hp_go sh_C me_X10_writeSlice (d + 5) none s1 87 [(0, .ref 0), (1, .int z87_1), (2, .int z87_2)] [] s) h ?_ (fun j87 hj87 h => ?_)
    · intro z87_1 z87_2 s h
      dsimp only at h
      refine hq_iinc (v := z87_2 + (1 : Int32)) (L1 := [(2, .int (z87_2 + (1 : Int32))), (0, .ref 0), (1, .int z87_1)]) (pm_d rk_X10_writeSlice 46 rfl) 2 rfl (by rw [show Int32.ofInt (1) = (1 : Int32) by decide]) (by decide) rfl ?_
      refine pm_nm (G := fun x10 => hp_go sh_C me_X10_writeSlice (d + 5) none s1 90 [(2, .int x10), (0, .ref 0), (1, .int z87_1)] [] s) h (fun x10 h => ?_)
      show hp_go _ _ _ _ _ 90 _ _ _
      refine hq_goto 4 (pm_d rk_X10_writeSlice 47 rfl) (by decide) ?_
      refine hq_drop [1, 2, 0] rfl ?_
      exact ih _ _ _ h
    refine hq_if_eq 87 (pm_d rk_X10_writeSlice 15 rfl) (by decide) (fun hc => ?_) (fun hc => ?_)
    · rw [if_pos hc] at h
      refine hq_drop [0, 1, 2] rfl ?_
      exact hj87 _ _ _ h
    rw [if_neg hc] at h
    refine hq_iload_n (pm_d rk_X10_writeSlice 16 rfl) rfl 2 rfl ?_
    refine hq_iload_n (pm_d rk_X10_writeSlice 17 rfl) rfl 1 rfl ?_
    refine hq_iconst (v := (1 : Int32)) (pm_d rk_X10_writeSlice 18 rfl) (by decide) ?_
    refine hq_iadd (pm_d rk_X10_writeSlice 19 rfl) ?_
    refine pm_jn (P := fun j73 => ∀ (z73_2 : Int32) (s : hp_S), j73 z73_2 s = some s1 → hp_go sh_C me_X10_writeSlice (d + 5) none s1 73 [(0, .ref 0), (2, .int z73_2)] [] s) h ?_ (fun j73 hj73 h => ?_)
    · intro z73_2 s h
      dsimp only at h
      show hp_go _ _ _ _ _ 73 _ _ _
      refine hq_aload_n (pm_d rk_X10_writeSlice 38 rfl) rfl 0 rfl ?_
      refine hq_getR (h := 3) 1 (pm_d rk_X10_writeSlice 39 rfl) fl_X10_21 rfl rfl ?_
      refine hq_aload_n (pm_d rk_X10_writeSlice 40 rfl) rfl 0 rfl ?_
      refine hq_getR (h := 39) 7 (pm_d rk_X10_writeSlice 41 rfl) fl_X10_69 rfl rfl ?_
      refine hq_iload_n (pm_d rk_X10_writeSlice 42 rfl) rfl 1 rfl ?_
      obtain ⟨t11, hq, h⟩ := pm_b1_i h
      have hM := w_C_X6_copyTo_3_39 (d := d + 2) (h := hq)
      refine hq_callVv (a := 3) (ci := 6) [.ref 39, .int z73_2] [] (pm_d rk_X10_writeSlice 43 rfl) ml_X10_195 iv_X6_copyTo rfl rfl rfl rfl rfl (Nat.le_of_ble_eq_true rfl) hM ?_
      show hp_go _ _ _ _ _ 85 _ _ _
      refine hq_iload_n (pm_d rk_X10_writeSlice 44 rfl) rfl 1 rfl ?_
      refine hq_istore_n (L1 := [(1, .int z73_2), (0, .ref 0), (2, .int z73_2)]) (pm_d rk_X10_writeSlice 45 rfl) rfl (by decide) rfl ?_
      refine hq_drop [1, 0, 2] rfl ?_
      exact hj87 _ _ _ h
    refine hq_icmp_le 59 (pm_d rk_X10_writeSlice 20 rfl) (by decide) (fun hc => ?_) (fun hc => ?_)
    · rw [if_pos hc] at h
      refine hq_iload_n (pm_d rk_X10_writeSlice 31 rfl) rfl 1 rfl ?_
      refine hq_iconst (v := (-1 : Int32)) (pm_d rk_X10_writeSlice 32 rfl) (by decide) ?_
      refine hq_icmp_eq 73 (pm_d rk_X10_writeSlice 33 rfl) (by decide) (fun hc => ?_) (fun hc => ?_)
      · rw [if_pos hc] at h
        refine hq_drop [0, 2] rfl ?_
        exact hj73 _ _ h
      rw [if_neg hc] at h
      show hp_go _ _ _ _ _ 64 _ _ _
      refine hq_aload_n (pm_d rk_X10_writeSlice 34 rfl) rfl 0 rfl ?_
      refine hq_getR (h := 39) 7 (pm_d rk_X10_writeSlice 35 rfl) fl_X10_69 rfl rfl ?_
      refine hq_ldcS 11 (pm_d rk_X10_writeSlice 36 rfl) rfl ?_
      obtain ⟨t12, hq, h⟩ := pm_b1_i h
      have hM := w_C_X3_addText_39_str (d := d + 0) (h := hq)
      refine hq_callVv (a := 39) (ci := 3) [.ref (1000 + 11)] [] (pm_d rk_X10_writeSlice 37 rfl) ml_X10_189 iv_X3_addText rfl rfl rfl rfl rfl (Nat.le_of_ble_eq_true rfl) hM ?_
      refine hq_drop [0, 2] rfl ?_
      exact hj73 _ _ h
    rw [if_neg hc] at h
    refine hq_aload_n (pm_d rk_X10_writeSlice 21 rfl) rfl 0 rfl ?_
    refine hq_getR (h := 39) 7 (pm_d rk_X10_writeSlice 22 rfl) fl_X10_69 rfl rfl ?_
    show hp_go _ _ _ _ _ 41 _ _ _
    refine hq_iload_n (pm_d rk_X10_writeSlice 23 rfl) rfl 1 rfl ?_
    refine hq_iconst (v := (-1 : Int32)) (pm_d rk_X10_writeSlice 24 rfl) (by decide) ?_
    refine pm_jn (P := fun j53 => ∀ (z53_2 : Int32) (z53_S0 : Nat) (s : hp_S), j53 z53_2 z53_S0 s = some s1 → hp_go sh_C me_X10_writeSlice (d + 5) none s1 53 [(0, .ref 0), (2, .int z53_2)] [.ref (1000 + z53_S0), .ref 39] s) h ?_ (fun j53 hj53 h => ?_)
    · intro z53_2 z53_S0 s h
      dsimp only at h
      obtain ⟨t13, hq, h⟩ := pm_b1_i h
      have hM := w_C_X3_addText_39_str (d := d + 0) (h := hq)
      refine hq_callVv (a := 39) (ci := 3) [.ref (1000 + z53_S0)] [] (pm_d rk_X10_writeSlice 29 rfl) ml_X10_189 iv_X3_addText rfl rfl rfl rfl rfl (Nat.le_of_ble_eq_true rfl) hM ?_
      refine hq_goto 73 (pm_d rk_X10_writeSlice 30 rfl) (by decide) ?_
      refine hq_drop [0, 1] rfl ?_
      exact hj73 _ _ h
    refine hq_icmp_ne 51 (pm_d rk_X10_writeSlice 25 rfl) (by decide) (fun hc => ?_) (fun hc => ?_)
    · rw [if_neg hc] at h
      refine hq_ldcS 10 (pm_d rk_X10_writeSlice 28 rfl) rfl ?_
      refine hq_drop [0, 2] rfl ?_
      exact hj53 _ _ _ h
    rw [if_pos hc] at h
    show hp_go _ _ _ _ _ 46 _ _ _
    refine hq_ldcS 9 (pm_d rk_X10_writeSlice 26 rfl) rfl ?_
    refine hq_goto 53 (pm_d rk_X10_writeSlice 27 rfl) (by decide) ?_
    refine hq_drop [0, 2] rfl ?_
    exact hj53 _ _ _ h
def f_C_X10_writeSlice_0 (n : Nat) (s : hp_S) : Option hp_S :=
  l_C_X10_writeSlice_0_4 n (-1 : Int32) (0 : Int32) s
set_option maxRecDepth 100000 in
set_option maxHeartbeats 400000 in
theorem w_C_X10_writeSlice_0 (d : Nat) (n : Nat) (s s1 : hp_S) (h : f_C_X10_writeSlice_0 n s = some s1) : hp_is sh_C me_X10_writeSlice (d + 5) [.ref 0] s none s1 := by
  refine hp_ofF [(0, .ref 0)] (by decide +kernel) (Nat.le_of_ble_eq_true rfl) rfl ?_
  unfold f_C_X10_writeSlice_0 at h
  refine hq_iconst (v := (-1 : Int32)) (pm_d rk_X10_writeSlice 0 rfl) (by decide) ?_
  refine hq_istore_n (L1 := [(1, .int (-1 : Int32)), (0, .ref 0)]) (pm_d rk_X10_writeSlice 1 rfl) rfl (by decide) rfl ?_
  refine hq_iconst (v := (0 : Int32)) (pm_d rk_X10_writeSlice 2 rfl) (by decide) ?_
  refine hq_istore_n (L1 := [(2, .int (0 : Int32)), (1, .int (-1 : Int32)), (0, .ref 0)]) (pm_d rk_X10_writeSlice 3 rfl) rfl (by decide) rfl ?_
  refine hq_drop [2, 1, 0] rfl ?_
  exact wl_C_X10_writeSlice_0_4 d _   _ _ _ _ h
def f_C_X7_root_16  (s : hp_S) : Option (Int32 × hp_S) :=
  some ((hs_I s 16 5), s)
set_option maxRecDepth 100000 in
set_option maxHeartbeats 400000 in
theorem w_C_X7_root_16 (d : Nat)  (s s1 : hp_S) (x0 : Int32) (h : f_C_X7_root_16 s = some (x0, s1)) : hp_is sh_C me_X7_root (d + 0) [.ref 16] s (some (.int x0)) s1 := by
  refine hp_ofF [(0, .ref 16)] (by decide +kernel) (Nat.le_of_ble_eq_true rfl) rfl ?_
  unfold f_C_X7_root_16 at h
  refine hq_aload_n (pm_d rk_X7_root 0 rfl) rfl 0 rfl ?_
  refine hq_getI 5 (pm_d rk_X7_root 1 rfl) fl_X7_34 rfl rfl ?_
  exact hq_iret (pm_d rk_X7_root 2 rfl) rfl h
def f_C_X8_pushAgain_41 (a1 : Int32) (a2 : Int32) (s : hp_S) : Option hp_S :=
  if (10002 : Int32) ≤ (hs_I s 41 3) then
    some s
  else
    pm_gd1 (pm_ib (hs_I s 41 3) 10002) (
    pm_let (hs_pA s 36 (hs_I s 41 3).toNatClampNeg ((a1 * (3 : Int32)) + a2)) (fun t1 =>
    pm_let (hs_pI t1 41 3 ((hs_I t1 41 3) + (1 : Int32))) (fun t2 =>
    some t2)))
set_option maxRecDepth 100000 in
set_option maxHeartbeats 400000 in
theorem w_C_X8_pushAgain_41 (d : Nat) (a1 : Int32) (a2 : Int32) (s s1 : hp_S) (h : f_C_X8_pushAgain_41 a1 a2 s = some s1) : hp_is sh_C me_X8_pushAgain (d + 0) [.ref 41, .int a1, .int a2] s none s1 := by
  refine hp_ofF [(0, .ref 41), (1, .int a1), (2, .int a2)] (by decide +kernel) (Nat.le_of_ble_eq_true rfl) rfl ?_
  unfold f_C_X8_pushAgain_41 at h
  refine hq_aload_n (pm_d rk_X8_pushAgain 0 rfl) rfl 0 rfl ?_
  refine hq_getI 3 (pm_d rk_X8_pushAgain 1 rfl) fl_X8_9 rfl rfl ?_
  refine hq_aload_n (pm_d rk_X8_pushAgain 2 rfl) rfl 0 rfl ?_
  refine hq_getR (h := 36) 2 (pm_d rk_X8_pushAgain 3 rfl) fl_X8_32 rfl rfl ?_
  refine hq_alen 0 (pm_d rk_X8_pushAgain 4 rfl) rfl (fun _ => rfl) (show Int32.ofNat 10002 = (10002 : Int32) by decide) ?_
  show hp_go _ _ _ _ _ 9 _ _ _
  refine hq_icmp_ge 36 (pm_d rk_X8_pushAgain 5 rfl) (by decide) (fun hc => ?_) (fun hc => ?_)
  · rw [if_pos hc] at h
    exact hq_vret (pm_d rk_X8_pushAgain 22 rfl) rfl h
  rw [if_neg hc] at h
  refine hq_aload_n (pm_d rk_X8_pushAgain 6 rfl) rfl 0 rfl ?_
  refine hq_getR (h := 36) 2 (pm_d rk_X8_pushAgain 7 rfl) fl_X8_32 rfl rfl ?_
  refine hq_aload_n (pm_d rk_X8_pushAgain 8 rfl) rfl 0 rfl ?_
  refine hq_getI 3 (pm_d rk_X8_pushAgain 9 rfl) fl_X8_9 rfl rfl ?_
  show hp_go _ _ _ _ _ 20 _ _ _
  refine hq_iload_n (pm_d rk_X8_pushAgain 10 rfl) rfl 1 rfl ?_
  refine hq_iconst (v := (3 : Int32)) (pm_d rk_X8_pushAgain 11 rfl) (by decide) ?_
  refine hq_imul (pm_d rk_X8_pushAgain 12 rfl) ?_
  refine hq_iload_n (pm_d rk_X8_pushAgain 13 rfl) rfl 2 rfl ?_
  refine hq_iadd (pm_d rk_X8_pushAgain 14 rfl) ?_
  obtain ⟨hg, h⟩ := pm_gd_i h
  refine hq_iastore (pm_d rk_X8_pushAgain 15 rfl) rfl hg ?_
  refine pm_nm (G := fun t1 => hp_go sh_C me_X8_pushAgain (d + 0) none s1 26 [(0, .ref 41), (1, .int a1), (2, .int a2)] [] t1) h (fun t1 h => ?_)
  show hp_go _ _ _ _ _ 26 _ _ _
  refine hq_aload_n (pm_d rk_X8_pushAgain 16 rfl) rfl 0 rfl ?_
  refine hq_dup (pm_d rk_X8_pushAgain 17 rfl) rfl ?_
  refine hq_getI 3 (pm_d rk_X8_pushAgain 18 rfl) fl_X8_9 rfl rfl ?_
  refine hq_iconst (v := (1 : Int32)) (pm_d rk_X8_pushAgain 19 rfl) (by decide) ?_
  refine hq_iadd (pm_d rk_X8_pushAgain 20 rfl) ?_
  refine hq_putI 3 (pm_d rk_X8_pushAgain 21 rfl) fl_X8_9 rfl rfl ?_
  refine pm_nm (G := fun t2 => hp_go sh_C me_X8_pushAgain (d + 0) none s1 36 [(0, .ref 41), (1, .int a1), (2, .int a2)] [] t2) h (fun t2 h => ?_)
  show hp_go _ _ _ _ _ 36 _ _ _
  exact hq_vret (pm_d rk_X8_pushAgain 22 rfl) rfl h
def f_C_X8_push_41 (n : Nat) (a1 : Int32) (s : hp_S) : Option hp_S :=
  pm_bd (f_C_X9_rootOf_31 n a1 s) (fun x2 t1 =>
  pm_b1 (f_C_X8_pushAgain_41 x2 (0 : Int32) t1) (fun t3 =>
  some t3))
set_option maxRecDepth 100000 in
set_option maxHeartbeats 400000 in
theorem w_C_X8_push_41 (d : Nat) (n : Nat) (a1 : Int32) (s s1 : hp_S) (h : f_C_X8_push_41 n a1 s = some s1) : hp_is sh_C me_X8_push (d + 2) [.ref 41, .int a1] s none s1 := by
  refine hp_ofF [(0, .ref 41), (1, .int a1)] (by decide +kernel) (Nat.le_of_ble_eq_true rfl) rfl ?_
  unfold f_C_X8_push_41 at h
  refine hq_aload_n (pm_d rk_X8_push 0 rfl) rfl 0 rfl ?_
  refine hq_aload_n (pm_d rk_X8_push 1 rfl) rfl 0 rfl ?_
  refine hq_getR (h := 31) 0 (pm_d rk_X8_push 2 rfl) fl_X8_18 rfl rfl ?_
  refine hq_iload_n (pm_d rk_X8_push 3 rfl) rfl 1 rfl ?_
  obtain ⟨x2, t1, hq, h⟩ := pm_bd_i h
  have hM := w_C_X9_rootOf_31 (d := d + 0) (h := hq)
  refine hq_callVi (a := 31) (ci := 9) [.int a1] [.ref 41] (pm_d rk_X8_push 4 rfl) ml_X8_82 iv_X9_rootOf rfl rfl rfl rfl rfl (Nat.le_of_ble_eq_true rfl) hM ?_
  show hp_go _ _ _ _ _ 9 _ _ _
  refine hq_iconst (v := (0 : Int32)) (pm_d rk_X8_push 5 rfl) (by decide) ?_
  obtain ⟨t3, hq, h⟩ := pm_b1_i h
  have hM := w_C_X8_pushAgain_41 (d := d + 1) (h := hq)
  refine hq_callVv (a := 41) (ci := 8) [.int x2, .int (0 : Int32)] [] (pm_d rk_X8_push 6 rfl) ml_X8_89 iv_X8_pushAgain rfl rfl rfl rfl rfl (Nat.le_of_ble_eq_true rfl) hM ?_
  exact hq_vret (pm_d rk_X8_push 7 rfl) rfl h
def f_C_X8_pop_41  (s : hp_S) : Option (Int32 × hp_S) :=
  if (hs_I s 41 3) < (1 : Int32) then
    some ((0 : Int32), s)
  else
    if (hs_I s 41 3) ≤ (10002 : Int32) then
      pm_let (hs_pI s 41 3 ((hs_I s 41 3) - (1 : Int32))) (fun t1 =>
      pm_gd1 (pm_ib (hs_I t1 41 3) 10002) (
      some ((hs_A t1 36 (hs_I t1 41 3).toNatClampNeg), t1)))
    else
      some ((0 : Int32), s)
set_option maxRecDepth 100000 in
set_option maxHeartbeats 400000 in
theorem w_C_X8_pop_41 (d : Nat)  (s s1 : hp_S) (x0 : Int32) (h : f_C_X8_pop_41 s = some (x0, s1)) : hp_is sh_C me_X8_pop (d + 0) [.ref 41] s (some (.int x0)) s1 := by
  refine hp_ofF [(0, .ref 41)] (by decide +kernel) (Nat.le_of_ble_eq_true rfl) rfl ?_
  unfold f_C_X8_pop_41 at h
  refine hq_aload_n (pm_d rk_X8_pop 0 rfl) rfl 0 rfl ?_
  refine hq_getI 3 (pm_d rk_X8_pop 1 rfl) fl_X8_9 rfl rfl ?_
  refine hq_iconst (v := (1 : Int32)) (pm_d rk_X8_pop 2 rfl) (by decide) ?_
  refine hq_icmp_lt 20 (pm_d rk_X8_pop 3 rfl) (by decide) (fun hc => ?_) (fun hc => ?_)
  · rw [if_pos hc] at h
    refine hq_iconst (v := (0 : Int32)) (pm_d rk_X8_pop 10 rfl) (by decide) ?_
    show hp_go _ _ _ _ _ 21 _ _ _
    exact hq_iret (pm_d rk_X8_pop 11 rfl) rfl h
  rw [if_neg hc] at h
  refine hq_aload_n (pm_d rk_X8_pop 4 rfl) rfl 0 rfl ?_
  refine hq_getI 3 (pm_d rk_X8_pop 5 rfl) fl_X8_9 rfl rfl ?_
  refine hq_aload_n (pm_d rk_X8_pop 6 rfl) rfl 0 rfl ?_
  refine hq_getR (h := 36) 2 (pm_d rk_X8_pop 7 rfl) fl_X8_32 rfl rfl ?_
  refine hq_alen 0 (pm_d rk_X8_pop 8 rfl) rfl (fun _ => rfl) (show Int32.ofNat 10002 = (10002 : Int32) by decide) ?_
  show hp_go _ _ _ _ _ 17 _ _ _
  refine hq_icmp_le 22 (pm_d rk_X8_pop 9 rfl) (by decide) (fun hc => ?_) (fun hc => ?_)
  · rw [if_pos hc] at h
    refine hq_aload_n (pm_d rk_X8_pop 12 rfl) rfl 0 rfl ?_
    refine hq_dup (pm_d rk_X8_pop 13 rfl) rfl ?_
    refine hq_getI 3 (pm_d rk_X8_pop 14 rfl) fl_X8_9 rfl rfl ?_
    refine hq_iconst (v := (1 : Int32)) (pm_d rk_X8_pop 15 rfl) (by decide) ?_
    refine hq_isub (pm_d rk_X8_pop 16 rfl) ?_
    show hp_go _ _ _ _ _ 29 _ _ _
    refine hq_putI 3 (pm_d rk_X8_pop 17 rfl) fl_X8_9 rfl rfl ?_
    refine pm_nm (G := fun t1 => hp_go sh_C me_X8_pop (d + 0) (some (.int x0)) s1 32 [(0, .ref 41)] [] t1) h (fun t1 h => ?_)
    refine hq_aload_n (pm_d rk_X8_pop 18 rfl) rfl 0 rfl ?_
    refine hq_getR (h := 36) 2 (pm_d rk_X8_pop 19 rfl) fl_X8_32 rfl rfl ?_
    refine hq_aload_n (pm_d rk_X8_pop 20 rfl) rfl 0 rfl ?_
    refine hq_getI 3 (pm_d rk_X8_pop 21 rfl) fl_X8_9 rfl rfl ?_
    obtain ⟨hg, h⟩ := pm_gd_i h
    refine hq_iaload (pm_d rk_X8_pop 22 rfl) rfl hg ?_
    show hp_go _ _ _ _ _ 41 _ _ _
    exact hq_iret (pm_d rk_X8_pop 23 rfl) rfl h
  rw [if_neg hc] at h
  refine hq_iconst (v := (0 : Int32)) (pm_d rk_X8_pop 10 rfl) (by decide) ?_
  exact hq_iret (pm_d rk_X8_pop 11 rfl) rfl h
def f_C_X8_writeFunction_41 (n : Nat) (a1 : Int32) (a2 : Int32) (s : hp_S) : Option hp_S :=
  pm_bd (f_C_X9_left_31 a1 s) (fun x2 t1 =>
  pm_bd (f_C_X9_rootOf_31 n x2 t1) (fun x4 t3 =>
  pm_bd (f_C_X9_kind_31 x4 t3) (fun x6 t5 =>
  pm_let (fun (z33_1 : Int32) (z33_2 : Int32) (z33_3 : Int32) (z33_S0 : Int32) (s : hp_S) =>
    if z33_2 = 0 then
      pm_let (fun (z55_1 : Int32) (z55_3 : Int32) (z55_S0 : Nat) (s : hp_S) =>
        pm_b1 (f_C_X3_addText_39_str n z55_S0 s) (fun t11 =>
        pm_b1 (f_C_X8_pushAgain_41 z55_1 (1 : Int32) t11) (fun t12 =>
        pm_b1 (f_C_X8_push_41 n z55_3 t12) (fun t13 =>
        some t13)))) (fun j55 =>
      if z33_S0 = 0 then
        j55 z33_1 z33_3 2 s
      else
        j55 z33_1 z33_3 1 s)
    else
      pm_let (fun (z88_1 : Int32) (z88_S0 : Nat) (s : hp_S) =>
        pm_b1 (f_C_X3_addText_39_str n z88_S0 s) (fun t7 =>
        pm_bd (f_C_X9_right_31 z88_1 t7) (fun x9 t8 =>
        pm_b1 (f_C_X8_push_41 n x9 t8) (fun t10 =>
        some t10)))) (fun j88 =>
      if z33_S0 = 0 then
        j88 z33_1 4 s
      else
        j88 z33_1 3 s)) (fun j33 =>
  if x6 = (4 : Int32) then
    j33 a1 a2 x4 (1 : Int32) t5
  else
    j33 a1 a2 x4 (0 : Int32) t5))))
set_option maxRecDepth 100000 in
set_option maxHeartbeats 400000 in
theorem w_C_X8_writeFunction_41 (d : Nat) (n : Nat) (a1 : Int32) (a2 : Int32) (s s1 : hp_S) (h : f_C_X8_writeFunction_41 n a1 a2 s = some s1) : hp_is sh_C me_X8_writeFunction (d + 5) [.ref 41, .int a1, .int a2] s none s1 := by
  refine hp_ofF [(0, .ref 41), (1, .int a1), (2, .int a2)] (by decide +kernel) (Nat.le_of_ble_eq_true rfl) rfl ?_
  unfold f_C_X8_writeFunction_41 at h
  refine hq_aload_n (pm_d rk_X8_writeFunction 0 rfl) rfl 0 rfl ?_
  refine hq_getR (h := 31) 0 (pm_d rk_X8_writeFunction 1 rfl) fl_X8_18 rfl rfl ?_
  refine hq_aload_n (pm_d rk_X8_writeFunction 2 rfl) rfl 0 rfl ?_
  refine hq_getR (h := 31) 0 (pm_d rk_X8_writeFunction 3 rfl) fl_X8_18 rfl rfl ?_
  refine hq_iload_n (pm_d rk_X8_writeFunction 4 rfl) rfl 1 rfl ?_
  show hp_go _ _ _ _ _ 9 _ _ _
  obtain ⟨x2, t1, hq, h⟩ := pm_bd_i h
  have hM := w_C_X9_left_31 (d := d + 4) (h := hq)
  refine hq_callVi (a := 31) (ci := 9) [.int a1] [.ref 31] (pm_d rk_X8_writeFunction 5 rfl) ml_X8_79 iv_X9_left rfl rfl rfl rfl rfl (Nat.le_of_ble_eq_true rfl) hM ?_
  obtain ⟨x4, t3, hq, h⟩ := pm_bd_i h
  have hM := w_C_X9_rootOf_31 (d := d + 3) (h := hq)
  refine hq_callVi (a := 31) (ci := 9) [.int x2] [] (pm_d rk_X8_writeFunction 6 rfl) ml_X8_82 iv_X9_rootOf rfl rfl rfl rfl rfl (Nat.le_of_ble_eq_true rfl) hM ?_
  refine hq_istore_n (L1 := [(3, .int x4), (0, .ref 41), (1, .int a1), (2, .int a2)]) (pm_d rk_X8_writeFunction 7 rfl) rfl (by decide) rfl ?_
  refine hq_aload_n (pm_d rk_X8_writeFunction 8 rfl) rfl 1 rfl ?_
  refine hq_getR (h := 31) 0 (pm_d rk_X8_writeFunction 9 rfl) fl_X8_18 rfl rfl ?_
  refine hq_iload_n (pm_d rk_X8_writeFunction 10 rfl) rfl 0 rfl ?_
  show hp_go _ _ _ _ _ 21 _ _ _
  obtain ⟨x6, t5, hq, h⟩ := pm_bd_i h
  have hM := w_C_X9_kind_31 (d := d + 4) (h := hq)
  refine hq_callVi (a := 31) (ci := 9) [.int x4] [] (pm_d rk_X8_writeFunction 11 rfl) ml_X8_57 iv_X9_kind rfl rfl rfl rfl rfl (Nat.le_of_ble_eq_true rfl) hM ?_
  refine hq_iconst (v := (4 : Int32)) (pm_d rk_X8_writeFunction 12 rfl) (by decide) ?_
  refine pm_jn (P := fun j33 => ∀ (z33_1 : Int32) (z33_2 : Int32) (z33_3 : Int32) (z33_S0 : Int32) (s : hp_S), j33 z33_1 z33_2 z33_3 z33_S0 s = some s1 → hp_go sh_C me_X8_writeFunction (d + 5) none s1 33 [(0, .ref 41), (1, .int z33_1), (2, .int z33_2), (3, .int z33_3)] [.int z33_S0] s) h ?_ (fun j33 hj33 h => ?_)
  · intro z33_1 z33_2 z33_3 z33_S0 s h
    dsimp only at h
    refine hq_istore (L1 := [(4, .int z33_S0), (0, .ref 41), (1, .int z33_1), (2, .int z33_2), (3, .int z33_3)]) (pm_d rk_X8_writeFunction 17 rfl) (by decide) rfl ?_
    refine hq_iload_n (pm_d rk_X8_writeFunction 18 rfl) rfl 3 rfl ?_
    refine hq_if_ne 72 (pm_d rk_X8_writeFunction 19 rfl) (by decide) (fun hc => ?_) (fun hc => ?_)
    · rw [if_neg hc] at h
      refine hq_aload_n (pm_d rk_X8_writeFunction 36 rfl) rfl 1 rfl ?_
      show hp_go _ _ _ _ _ 73 _ _ _
      refine hq_getR (h := 39) 1 (pm_d rk_X8_writeFunction 37 rfl) fl_X8_22 rfl rfl ?_
      refine hq_iload (pm_d rk_X8_writeFunction 38 rfl) 0 rfl ?_
      refine pm_jn (P := fun j88 => ∀ (z88_1 : Int32) (z88_S0 : Nat) (s : hp_S), j88 z88_1 z88_S0 s = some s1 → hp_go sh_C me_X8_writeFunction (d + 5) none s1 88 [(0, .ref 41), (1, .int z88_1)] [.ref (1000 + z88_S0), .ref 39] s) h ?_ (fun j88 hj88 h => ?_)
      · intro z88_1 z88_S0 s h
        dsimp only at h
        obtain ⟨t7, hq, h⟩ := pm_b1_i h
        have hM := w_C_X3_addText_39_str (d := d + 0) (h := hq)
        refine hq_callVv (a := 39) (ci := 3) [.ref (1000 + z88_S0)] [] (pm_d rk_X8_writeFunction 43 rfl) ml_X8_70 iv_X3_addText rfl rfl rfl rfl rfl (Nat.le_of_ble_eq_true rfl) hM ?_
        refine hq_aload_n (pm_d rk_X8_writeFunction 44 rfl) rfl 0 rfl ?_
        refine hq_aload_n (pm_d rk_X8_writeFunction 45 rfl) rfl 0 rfl ?_
        refine hq_getR (h := 31) 0 (pm_d rk_X8_writeFunction 46 rfl) fl_X8_18 rfl rfl ?_
        show hp_go _ _ _ _ _ 96 _ _ _
        refine hq_iload_n (pm_d rk_X8_writeFunction 47 rfl) rfl 1 rfl ?_
        obtain ⟨x9, t8, hq, h⟩ := pm_bd_i h
        have hM := w_C_X9_right_31 (d := d + 4) (h := hq)
        refine hq_callVi (a := 31) (ci := 9) [.int z88_1] [.ref 41] (pm_d rk_X8_writeFunction 48 rfl) ml_X8_96 iv_X9_right rfl rfl rfl rfl rfl (Nat.le_of_ble_eq_true rfl) hM ?_
        obtain ⟨t10, hq, h⟩ := pm_b1_i h
        have hM := w_C_X8_push_41 (d := d + 2) (h := hq)
        refine hq_callVv (a := 41) (ci := 8) [.int x9] [] (pm_d rk_X8_writeFunction 49 rfl) ml_X8_39 iv_X8_push rfl rfl rfl rfl rfl (Nat.le_of_ble_eq_true rfl) hM ?_
        exact hq_vret (pm_d rk_X8_writeFunction 50 rfl) rfl h
      refine hq_if_eq 86 (pm_d rk_X8_writeFunction 39 rfl) (by decide) (fun hc => ?_) (fun hc => ?_)
      · rw [if_pos hc] at h
        refine hq_ldcS 4 (pm_d rk_X8_writeFunction 42 rfl) rfl ?_
        refine hq_drop [1, 2] rfl ?_
        exact hj88 _ _ _ h
      rw [if_neg hc] at h
      show hp_go _ _ _ _ _ 81 _ _ _
      refine hq_ldcS 3 (pm_d rk_X8_writeFunction 40 rfl) rfl ?_
      refine hq_goto 88 (pm_d rk_X8_writeFunction 41 rfl) (by decide) ?_
      refine hq_drop [1, 2] rfl ?_
      exact hj88 _ _ _ h
    rw [if_pos hc] at h
    refine hq_aload_n (pm_d rk_X8_writeFunction 20 rfl) rfl 1 rfl ?_
    refine hq_getR (h := 39) 1 (pm_d rk_X8_writeFunction 21 rfl) fl_X8_22 rfl rfl ?_
    refine hq_iload (pm_d rk_X8_writeFunction 22 rfl) 0 rfl ?_
    refine pm_jn (P := fun j55 => ∀ (z55_1 : Int32) (z55_3 : Int32) (z55_S0 : Nat) (s : hp_S), j55 z55_1 z55_3 z55_S0 s = some s1 → hp_go sh_C me_X8_writeFunction (d + 5) none s1 55 [(0, .ref 41), (1, .int z55_1), (3, .int z55_3)] [.ref (1000 + z55_S0), .ref 39] s) h ?_ (fun j55 hj55 h => ?_)
    · intro z55_1 z55_3 z55_S0 s h
      dsimp only at h
      obtain ⟨t11, hq, h⟩ := pm_b1_i h
      have hM := w_C_X3_addText_39_str (d := d + 0) (h := hq)
      refine hq_callVv (a := 39) (ci := 3) [.ref (1000 + z55_S0)] [] (pm_d rk_X8_writeFunction 27 rfl) ml_X8_70 iv_X3_addText rfl rfl rfl rfl rfl (Nat.le_of_ble_eq_true rfl) hM ?_
      show hp_go _ _ _ _ _ 58 _ _ _
      refine hq_aload_n (pm_d rk_X8_writeFunction 28 rfl) rfl 0 rfl ?_
      refine hq_iload_n (pm_d rk_X8_writeFunction 29 rfl) rfl 1 rfl ?_
      refine hq_iconst (v := (1 : Int32)) (pm_d rk_X8_writeFunction 30 rfl) (by decide) ?_
      obtain ⟨t12, hq, h⟩ := pm_b1_i h
      have hM := w_C_X8_pushAgain_41 (d := d + 4) (h := hq)
      refine hq_callVv (a := 41) (ci := 8) [.int z55_1, .int (1 : Int32)] [] (pm_d rk_X8_writeFunction 31 rfl) ml_X8_89 iv_X8_pushAgain rfl rfl rfl rfl rfl (Nat.le_of_ble_eq_true rfl) hM ?_
      refine hq_aload_n (pm_d rk_X8_writeFunction 32 rfl) rfl 0 rfl ?_
      refine hq_iload_n (pm_d rk_X8_writeFunction 33 rfl) rfl 2 rfl ?_
      show hp_go _ _ _ _ _ 66 _ _ _
      obtain ⟨t13, hq, h⟩ := pm_b1_i h
      have hM := w_C_X8_push_41 (d := d + 2) (h := hq)
      refine hq_callVv (a := 41) (ci := 8) [.int z55_3] [] (pm_d rk_X8_writeFunction 34 rfl) ml_X8_39 iv_X8_push rfl rfl rfl rfl rfl (Nat.le_of_ble_eq_true rfl) hM ?_
      refine hq_goto 103 (pm_d rk_X8_writeFunction 35 rfl) (by decide) ?_
      exact hq_vret (pm_d rk_X8_writeFunction 50 rfl) rfl h
    refine hq_if_eq 53 (pm_d rk_X8_writeFunction 23 rfl) (by decide) (fun hc => ?_) (fun hc => ?_)
    · rw [if_pos hc] at h
      refine hq_ldcS 2 (pm_d rk_X8_writeFunction 26 rfl) rfl ?_
      refine hq_drop [1, 2, 4] rfl ?_
      exact hj55 _ _ _ _ h
    rw [if_neg hc] at h
    refine hq_ldcS 1 (pm_d rk_X8_writeFunction 24 rfl) rfl ?_
    show hp_go _ _ _ _ _ 50 _ _ _
    refine hq_goto 55 (pm_d rk_X8_writeFunction 25 rfl) (by decide) ?_
    refine hq_drop [1, 2, 4] rfl ?_
    exact hj55 _ _ _ _ h
  refine hq_icmp_ne 32 (pm_d rk_X8_writeFunction 13 rfl) (by decide) (fun hc => ?_) (fun hc => ?_)
  · rw [if_neg hc] at h
    refine hq_iconst (v := (0 : Int32)) (pm_d rk_X8_writeFunction 16 rfl) (by decide) ?_
    refine hq_drop [1, 2, 3, 0] rfl ?_
    exact hj33 _ _ _ _ _ h
  rw [if_pos hc] at h
  refine hq_iconst (v := (1 : Int32)) (pm_d rk_X8_writeFunction 14 rfl) (by decide) ?_
  refine hq_goto 33 (pm_d rk_X8_writeFunction 15 rfl) (by decide) ?_
  refine hq_drop [1, 2, 3, 0] rfl ?_
  exact hj33 _ _ _ _ _ h
def f_C_X8_writePair_41 (n : Nat) (a1 : Int32) (a2 : Int32) (s : hp_S) : Option hp_S :=
  if a2 = 0 then
    pm_b1 (f_C_X3_addText_39_str n 1 s) (fun t7 =>
    pm_b1 (f_C_X8_pushAgain_41 a1 (1 : Int32) t7) (fun t8 =>
    pm_bd (f_C_X9_left_31 a1 t8) (fun x10 t9 =>
    pm_b1 (f_C_X8_push_41 n x10 t9) (fun t11 =>
    some t11))))
  else
    if a2 = (1 : Int32) then
      pm_b1 (f_C_X3_addText_39_str n 5 s) (fun t2 =>
      pm_b1 (f_C_X8_pushAgain_41 a1 (2 : Int32) t2) (fun t3 =>
      pm_bd (f_C_X9_right_31 a1 t3) (fun x5 t4 =>
      pm_b1 (f_C_X8_push_41 n x5 t4) (fun t6 =>
      some t6))))
    else
      pm_b1 (f_C_X3_addText_39_str n 6 s) (fun t1 =>
      some t1)
set_option maxRecDepth 100000 in
set_option maxHeartbeats 400000 in
theorem w_C_X8_writePair_41 (d : Nat) (n : Nat) (a1 : Int32) (a2 : Int32) (s s1 : hp_S) (h : f_C_X8_writePair_41 n a1 a2 s = some s1) : hp_is sh_C me_X8_writePair (d + 5) [.ref 41, .int a1, .int a2] s none s1 := by
  refine hp_ofF [(0, .ref 41), (1, .int a1), (2, .int a2)] (by decide +kernel) (Nat.le_of_ble_eq_true rfl) rfl ?_
  unfold f_C_X8_writePair_41 at h
  refine hq_iload_n (pm_d rk_X8_writePair 0 rfl) rfl 2 rfl ?_
  refine hq_if_ne 34 (pm_d rk_X8_writePair 1 rfl) (by decide) (fun hc => ?_) (fun hc => ?_)
  · rw [if_neg hc] at h
    refine hq_iload_n (pm_d rk_X8_writePair 17 rfl) rfl 2 rfl ?_
    refine hq_iconst (v := (1 : Int32)) (pm_d rk_X8_writePair 18 rfl) (by decide) ?_
    refine hq_icmp_ne 69 (pm_d rk_X8_writePair 19 rfl) (by decide) (fun hc => ?_) (fun hc => ?_)
    · rw [if_neg hc] at h
      show hp_go _ _ _ _ _ 69 _ _ _
      refine hq_aload_n (pm_d rk_X8_writePair 35 rfl) rfl 0 rfl ?_
      refine hq_getR (h := 39) 1 (pm_d rk_X8_writePair 36 rfl) fl_X8_22 rfl rfl ?_
      refine hq_ldcS 6 (pm_d rk_X8_writePair 37 rfl) rfl ?_
      obtain ⟨t1, hq, h⟩ := pm_b1_i h
      have hM := w_C_X3_addText_39_str (d := d + 0) (h := hq)
      refine hq_callVv (a := 39) (ci := 3) [.ref (1000 + 6)] [] (pm_d rk_X8_writePair 38 rfl) ml_X8_70 iv_X3_addText rfl rfl rfl rfl rfl (Nat.le_of_ble_eq_true rfl) hM ?_
      exact hq_vret (pm_d rk_X8_writePair 39 rfl) rfl h
    rw [if_pos hc] at h
    refine hq_aload_n (pm_d rk_X8_writePair 20 rfl) rfl 0 rfl ?_
    show hp_go _ _ _ _ _ 40 _ _ _
    refine hq_getR (h := 39) 1 (pm_d rk_X8_writePair 21 rfl) fl_X8_22 rfl rfl ?_
    refine hq_ldcS 5 (pm_d rk_X8_writePair 22 rfl) rfl ?_
    obtain ⟨t2, hq, h⟩ := pm_b1_i h
    have hM := w_C_X3_addText_39_str (d := d + 0) (h := hq)
    refine hq_callVv (a := 39) (ci := 3) [.ref (1000 + 5)] [] (pm_d rk_X8_writePair 23 rfl) ml_X8_70 iv_X3_addText rfl rfl rfl rfl rfl (Nat.le_of_ble_eq_true rfl) hM ?_
    refine hq_aload_n (pm_d rk_X8_writePair 24 rfl) rfl 0 rfl ?_
    refine hq_iload_n (pm_d rk_X8_writePair 25 rfl) rfl 1 rfl ?_
    refine hq_iconst (v := (2 : Int32)) (pm_d rk_X8_writePair 26 rfl) (by decide) ?_
    show hp_go _ _ _ _ _ 51 _ _ _
    obtain ⟨t3, hq, h⟩ := pm_b1_i h
    have hM := w_C_X8_pushAgain_41 (d := d + 4) (h := hq)
    refine hq_callVv (a := 41) (ci := 8) [.int a1, .int (2 : Int32)] [] (pm_d rk_X8_writePair 27 rfl) ml_X8_89 iv_X8_pushAgain rfl rfl rfl rfl rfl (Nat.le_of_ble_eq_true rfl) hM ?_
    refine hq_aload_n (pm_d rk_X8_writePair 28 rfl) rfl 0 rfl ?_
    refine hq_aload_n (pm_d rk_X8_writePair 29 rfl) rfl 0 rfl ?_
    refine hq_getR (h := 31) 0 (pm_d rk_X8_writePair 30 rfl) fl_X8_18 rfl rfl ?_
    refine hq_iload_n (pm_d rk_X8_writePair 31 rfl) rfl 1 rfl ?_
    obtain ⟨x5, t4, hq, h⟩ := pm_bd_i h
    have hM := w_C_X9_right_31 (d := d + 4) (h := hq)
    refine hq_callVi (a := 31) (ci := 9) [.int a1] [.ref 41] (pm_d rk_X8_writePair 32 rfl) ml_X8_96 iv_X9_right rfl rfl rfl rfl rfl (Nat.le_of_ble_eq_true rfl) hM ?_
    show hp_go _ _ _ _ _ 63 _ _ _
    obtain ⟨t6, hq, h⟩ := pm_b1_i h
    have hM := w_C_X8_push_41 (d := d + 2) (h := hq)
    refine hq_callVv (a := 41) (ci := 8) [.int x5] [] (pm_d rk_X8_writePair 33 rfl) ml_X8_39 iv_X8_push rfl rfl rfl rfl rfl (Nat.le_of_ble_eq_true rfl) hM ?_
    refine hq_goto 78 (pm_d rk_X8_writePair 34 rfl) (by decide) ?_
    exact hq_vret (pm_d rk_X8_writePair 39 rfl) rfl h
  rw [if_pos hc] at h
  refine hq_aload_n (pm_d rk_X8_writePair 2 rfl) rfl 0 rfl ?_
  refine hq_getR (h := 39) 1 (pm_d rk_X8_writePair 3 rfl) fl_X8_22 rfl rfl ?_
  refine hq_ldcS 1 (pm_d rk_X8_writePair 4 rfl) rfl ?_
  show hp_go _ _ _ _ _ 10 _ _ _
  obtain ⟨t7, hq, h⟩ := pm_b1_i h
  have hM := w_C_X3_addText_39_str (d := d + 0) (h := hq)
  refine hq_callVv (a := 39) (ci := 3) [.ref (1000 + 1)] [] (pm_d rk_X8_writePair 5 rfl) ml_X8_70 iv_X3_addText rfl rfl rfl rfl rfl (Nat.le_of_ble_eq_true rfl) hM ?_
  refine hq_aload_n (pm_d rk_X8_writePair 6 rfl) rfl 0 rfl ?_
  refine hq_iload_n (pm_d rk_X8_writePair 7 rfl) rfl 1 rfl ?_
  refine hq_iconst (v := (1 : Int32)) (pm_d rk_X8_writePair 8 rfl) (by decide) ?_
  obtain ⟨t8, hq, h⟩ := pm_b1_i h
  have hM := w_C_X8_pushAgain_41 (d := d + 4) (h := hq)
  refine hq_callVv (a := 41) (ci := 8) [.int a1, .int (1 : Int32)] [] (pm_d rk_X8_writePair 9 rfl) ml_X8_89 iv_X8_pushAgain rfl rfl rfl rfl rfl (Nat.le_of_ble_eq_true rfl) hM ?_
  refine hq_aload_n (pm_d rk_X8_writePair 10 rfl) rfl 0 rfl ?_
  show hp_go _ _ _ _ _ 20 _ _ _
  refine hq_aload_n (pm_d rk_X8_writePair 11 rfl) rfl 0 rfl ?_
  refine hq_getR (h := 31) 0 (pm_d rk_X8_writePair 12 rfl) fl_X8_18 rfl rfl ?_
  refine hq_iload_n (pm_d rk_X8_writePair 13 rfl) rfl 1 rfl ?_
  obtain ⟨x10, t9, hq, h⟩ := pm_bd_i h
  have hM := w_C_X9_left_31 (d := d + 4) (h := hq)
  refine hq_callVi (a := 31) (ci := 9) [.int a1] [.ref 41] (pm_d rk_X8_writePair 14 rfl) ml_X8_79 iv_X9_left rfl rfl rfl rfl rfl (Nat.le_of_ble_eq_true rfl) hM ?_
  obtain ⟨t11, hq, h⟩ := pm_b1_i h
  have hM := w_C_X8_push_41 (d := d + 2) (h := hq)
  refine hq_callVv (a := 41) (ci := 8) [.int x10] [] (pm_d rk_X8_writePair 15 rfl) ml_X8_39 iv_X8_push rfl rfl rfl rfl rfl (Nat.le_of_ble_eq_true rfl) hM ?_
  refine hq_goto 78 (pm_d rk_X8_writePair 16 rfl) (by decide) ?_
  show hp_go _ _ _ _ _ 78 _ _ _
  exact hq_vret (pm_d rk_X8_writePair 39 rfl) rfl h
def l_C_X3_addNumber_39_29 : Nat → Int32 → Int32 → hp_S → Option hp_S
  | 0, _, _, _ => none
  | n + 1, y1, y2, s =>
    if y2 ≤ 0 then
      some s
    else
      pm_gd1 (!decide (y2 = 0)) (
      pm_b1 (f_C_X3_add_39 ((48 : Int32) + ((y1 / y2) - (y1 / y2) / (10 : Int32) * (10 : Int32))) s) (fun t1 =>
      pm_let (y2 / (10 : Int32)) (fun x2 =>
      l_C_X3_addNumber_39_29 n y1 x2 t1)))
set_option maxRecDepth 100000 in
set_option maxHeartbeats 400000 in
theorem wl_C_X3_addNumber_39_29 (d : Nat) (s1 : hp_S)  : ∀ (n : Nat) (y1 : Int32) (y2 : Int32) (s : hp_S), l_C_X3_addNumber_39_29 n y1 y2 s = some s1 → hp_go sh_C me_X3_addNumber (d + 2) none s1 29 [(0, .ref 39), (1, .int y1), (2, .int y2)] [] s := by
  intro n
  induction n with
  | zero =>
    intro y1 y2 s h
    cases h
  | succ n ih =>
    intro y1 y2 s h
    rw [l_C_X3_addNumber_39_29.eq_2] at h
    refine hq_iload_n (pm_d rk_X3_addNumber 18 rfl) rfl 2 rfl ?_
    refine hq_if_le 54 (pm_d rk_X3_addNumber 19 rfl) (by decide) (fun hc => ?_) (fun hc => ?_)
    · rw [if_pos hc] at h
      exact hq_vret (pm_d rk_X3_addNumber 34 rfl) rfl h
    rw [if_neg hc] at h
    refine hq_aload_n (pm_d rk_X3_addNumber 20 rfl) rfl 0 rfl ?_
    show hp_go _ _ _ _ _ 34 _ _ _
    refine hq_bipush (v := (48 : Int32)) (pm_d rk_X3_addNumber 21 rfl) (by decide) ?_
    refine hq_iload_n (pm_d rk_X3_addNumber 22 rfl) rfl 1 rfl ?_
    refine hq_iload_n (pm_d rk_X3_addNumber 23 rfl) rfl 2 rfl ?_
    obtain ⟨hg, h⟩ := pm_gd_i h
    refine hq_idiv (pm_d rk_X3_addNumber 24 rfl) (pm_ne0 hg) ?_
    refine hq_bipush (v := (10 : Int32)) (pm_d rk_X3_addNumber 25 rfl) (by decide) ?_
    refine hq_irem (pm_d rk_X3_addNumber 26 rfl) (by decide) ?_
    show hp_go _ _ _ _ _ 42 _ _ _
    refine hq_iadd (pm_d rk_X3_addNumber 27 rfl) ?_
    obtain ⟨t1, hq, h⟩ := pm_b1_i h
    have hM := w_C_X3_add_39 (d := d + 0) (h := hq)
    refine hq_callVv (a := 39) (ci := 3) [.int ((48 : Int32) + ((y1 / y2) - (y1 / y2) / (10 : Int32) * (10 : Int32)))] [] (pm_d rk_X3_addNumber 28 rfl) ml_X3_36 iv_X3_add rfl rfl rfl rfl rfl (Nat.le_of_ble_eq_true rfl) hM ?_
    refine hq_iload_n (pm_d rk_X3_addNumber 29 rfl) rfl 2 rfl ?_
    refine hq_bipush (v := (10 : Int32)) (pm_d rk_X3_addNumber 30 rfl) (by decide) ?_
    refine hq_idiv (pm_d rk_X3_addNumber 31 rfl) (by decide) ?_
    refine pm_nm (G := fun x2 => hp_go sh_C me_X3_addNumber (d + 2) none s1 50 [(0, .ref 39), (1, .int y1), (2, .int y2)] [.int x2] t1) h (fun x2 h => ?_)
    refine hq_istore_n (L1 := [(2, .int x2), (0, .ref 39), (1, .int y1)]) (pm_d rk_X3_addNumber 32 rfl) rfl (by decide) rfl ?_
    show hp_go _ _ _ _ _ 51 _ _ _
    refine hq_goto 29 (pm_d rk_X3_addNumber 33 rfl) (by decide) ?_
    refine hq_drop [1, 2, 0] rfl ?_
    exact ih _ _ _ h
def l_C_X3_addNumber_39_4 : Nat → Int32 → Int32 → Int32 → hp_S → Option hp_S
  | 0, _, _, _, _ => none
  | n + 1, y1, y2, y3, s =>
    if (9 : Int32) ≤ y3 then
      l_C_X3_addNumber_39_29 n y1 y2 s
    else
      pm_gd1 (!decide (y2 = 0)) (
      if (y1 / y2) < (10 : Int32) then
        l_C_X3_addNumber_39_29 n y1 y2 s
      else
        pm_let (y2 * (10 : Int32)) (fun x5 =>
        pm_let (y3 + (1 : Int32)) (fun x6 =>
        l_C_X3_addNumber_39_4 n y1 x5 x6 s)))
set_option maxRecDepth 100000 in
set_option maxHeartbeats 400000 in
theorem wl_C_X3_addNumber_39_4 (d : Nat) (s1 : hp_S)  : ∀ (n : Nat) (y1 : Int32) (y2 : Int32) (y3 : Int32) (s : hp_S), l_C_X3_addNumber_39_4 n y1 y2 y3 s = some s1 → hp_go sh_C me_X3_addNumber (d + 2) none s1 4 [(0, .ref 39), (1, .int y1), (2, .int y2), (3, .int y3)] [] s := by
  intro n
  induction n with
  | zero =>
    intro y1 y2 y3 s h
    cases h
  | succ n ih =>
    intro y1 y2 y3 s h
    rw [l_C_X3_addNumber_39_4.eq_2] at h
    refine hq_iload_n (pm_d rk_X3_addNumber 4 rfl) rfl 3 rfl ?_
    show hp_go _ _ _ _ _ 5 _ _ _
    refine hq_bipush (v := (9 : Int32)) (pm_d rk_X3_addNumber 5 rfl) (by decide) ?_
    refine hq_icmp_ge 29 (pm_d rk_X3_addNumber 6 rfl) (by decide) (fun hc => ?_) (fun hc => ?_)
    · rw [if_pos hc] at h
      refine hq_drop [0, 1, 2] rfl ?_
      exact wl_C_X3_addNumber_39_29 d _   _ _ _ _ h
    rw [if_neg hc] at h
    refine hq_iload_n (pm_d rk_X3_addNumber 7 rfl) rfl 1 rfl ?_
    refine hq_iload_n (pm_d rk_X3_addNumber 8 rfl) rfl 2 rfl ?_
    obtain ⟨hg, h⟩ := pm_gd_i h
    refine hq_idiv (pm_d rk_X3_addNumber 9 rfl) (pm_ne0 hg) ?_
    refine hq_bipush (v := (10 : Int32)) (pm_d rk_X3_addNumber 10 rfl) (by decide) ?_
    refine hq_icmp_lt 29 (pm_d rk_X3_addNumber 11 rfl) (by decide) (fun hc => ?_) (fun hc => ?_)
    · rw [if_pos hc] at h
      refine hq_drop [0, 1, 2] rfl ?_
      exact wl_C_X3_addNumber_39_29 d _   _ _ _ _ h
    rw [if_neg hc] at h
    refine hq_iload_n (pm_d rk_X3_addNumber 12 rfl) rfl 2 rfl ?_
    show hp_go _ _ _ _ _ 19 _ _ _
    refine hq_bipush (v := (10 : Int32)) (pm_d rk_X3_addNumber 13 rfl) (by decide) ?_
    refine hq_imul (pm_d rk_X3_addNumber 14 rfl) ?_
    refine pm_nm (G := fun x5 => hp_go sh_C me_X3_addNumber (d + 2) none s1 22 [(0, .ref 39), (1, .int y1), (2, .int y2), (3, .int y3)] [.int x5] s) h (fun x5 h => ?_)
    refine hq_istore_n (L1 := [(2, .int x5), (0, .ref 39), (1, .int y1), (3, .int y3)]) (pm_d rk_X3_addNumber 15 rfl) rfl (by decide) rfl ?_
    refine hq_iinc (v := y3 + (1 : Int32)) (L1 := [(3, .int (y3 + (1 : Int32))), (2, .int x5), (0, .ref 39), (1, .int y1)]) (pm_d rk_X3_addNumber 16 rfl) 3 rfl (by rw [show Int32.ofInt (1) = (1 : Int32) by decide]) (by decide) rfl ?_
    refine pm_nm (G := fun x6 => hp_go sh_C me_X3_addNumber (d + 2) none s1 26 [(3, .int x6), (2, .int x5), (0, .ref 39), (1, .int y1)] [] s) h (fun x6 h => ?_)
    refine hq_goto 4 (pm_d rk_X3_addNumber 17 rfl) (by decide) ?_
    refine hq_drop [2, 3, 1, 0] rfl ?_
    exact ih _ _ _ _ h
def f_C_X3_addNumber_39 (n : Nat) (a1 : Int32) (s : hp_S) : Option hp_S :=
  l_C_X3_addNumber_39_4 n a1 (1 : Int32) (1 : Int32) s
set_option maxRecDepth 100000 in
set_option maxHeartbeats 400000 in
theorem w_C_X3_addNumber_39 (d : Nat) (n : Nat) (a1 : Int32) (s s1 : hp_S) (h : f_C_X3_addNumber_39 n a1 s = some s1) : hp_is sh_C me_X3_addNumber (d + 2) [.ref 39, .int a1] s none s1 := by
  refine hp_ofF [(0, .ref 39), (1, .int a1)] (by decide +kernel) (Nat.le_of_ble_eq_true rfl) rfl ?_
  unfold f_C_X3_addNumber_39 at h
  refine hq_iconst (v := (1 : Int32)) (pm_d rk_X3_addNumber 0 rfl) (by decide) ?_
  refine hq_istore_n (L1 := [(2, .int (1 : Int32)), (0, .ref 39), (1, .int a1)]) (pm_d rk_X3_addNumber 1 rfl) rfl (by decide) rfl ?_
  refine hq_iconst (v := (1 : Int32)) (pm_d rk_X3_addNumber 2 rfl) (by decide) ?_
  refine hq_istore_n (L1 := [(3, .int (1 : Int32)), (2, .int (1 : Int32)), (0, .ref 39), (1, .int a1)]) (pm_d rk_X3_addNumber 3 rfl) rfl (by decide) rfl ?_
  refine hq_drop [2, 3, 1, 0] rfl ?_
  exact wl_C_X3_addNumber_39_4 d _   _ _ _ _ _ h
def f_C_X8_writeLetter_41 (n : Nat) (a1 : Int32) (s : hp_S) : Option hp_S :=
  pm_bd (f_C_X9_mark_31 a1 s) (fun x2 t1 =>
  pm_let (fun (z33_1 : Int32) (s : hp_S) =>
    pm_bd (f_C_X9_mark_31 z33_1 s) (fun x4 t3 =>
    pm_let (x4 - (1 : Int32)) (fun x5 =>
    pm_b1 (f_C_X3_add_39 ((97 : Int32) + (x5 - x5 / (26 : Int32) * (26 : Int32))) t3) (fun t6 =>
    if x5 < (26 : Int32) then
      some t6
    else
      pm_b1 (f_C_X3_addNumber_39 n (x5 / (26 : Int32)) t6) (fun t7 =>
      some t7))))) (fun j33 =>
  if x2 = 0 then
    pm_let (hs_pI t1 41 4 ((hs_I t1 41 4) + (1 : Int32))) (fun t8 =>
    pm_b1 (f_C_X9_setMark_31 a1 (hs_I t8 41 4) t8) (fun t9 =>
    j33 a1 t9))
  else
    j33 a1 t1))
set_option maxRecDepth 100000 in
set_option maxHeartbeats 400000 in
theorem w_C_X8_writeLetter_41 (d : Nat) (n : Nat) (a1 : Int32) (s s1 : hp_S) (h : f_C_X8_writeLetter_41 n a1 s = some s1) : hp_is sh_C me_X8_writeLetter (d + 3) [.ref 41, .int a1] s none s1 := by
  refine hp_ofF [(0, .ref 41), (1, .int a1)] (by decide +kernel) (Nat.le_of_ble_eq_true rfl) rfl ?_
  unfold f_C_X8_writeLetter_41 at h
  refine hq_aload_n (pm_d rk_X8_writeLetter 0 rfl) rfl 0 rfl ?_
  refine hq_getR (h := 31) 0 (pm_d rk_X8_writeLetter 1 rfl) fl_X8_18 rfl rfl ?_
  refine hq_iload_n (pm_d rk_X8_writeLetter 2 rfl) rfl 1 rfl ?_
  obtain ⟨x2, t1, hq, h⟩ := pm_bd_i h
  have hM := w_C_X9_mark_31 (d := d + 2) (h := hq)
  refine hq_callVi (a := 31) (ci := 9) [.int a1] [] (pm_d rk_X8_writeLetter 3 rfl) ml_X8_103 iv_X9_mark rfl rfl rfl rfl rfl (Nat.le_of_ble_eq_true rfl) hM ?_
  refine pm_jn (P := fun j33 => ∀ (z33_1 : Int32) (s : hp_S), j33 z33_1 s = some s1 → hp_go sh_C me_X8_writeLetter (d + 3) none s1 33 [(0, .ref 41), (1, .int z33_1)] [] s) h ?_ (fun j33 hj33 h => ?_)
  · intro z33_1 s h
    dsimp only at h
    refine hq_aload_n (pm_d rk_X8_writeLetter 17 rfl) rfl 0 rfl ?_
    show hp_go _ _ _ _ _ 34 _ _ _
    refine hq_getR (h := 31) 0 (pm_d rk_X8_writeLetter 18 rfl) fl_X8_18 rfl rfl ?_
    refine hq_iload_n (pm_d rk_X8_writeLetter 19 rfl) rfl 1 rfl ?_
    obtain ⟨x4, t3, hq, h⟩ := pm_bd_i h
    have hM := w_C_X9_mark_31 (d := d + 2) (h := hq)
    refine hq_callVi (a := 31) (ci := 9) [.int z33_1] [] (pm_d rk_X8_writeLetter 20 rfl) ml_X8_103 iv_X9_mark rfl rfl rfl rfl rfl (Nat.le_of_ble_eq_true rfl) hM ?_
    refine hq_iconst (v := (1 : Int32)) (pm_d rk_X8_writeLetter 21 rfl) (by decide) ?_
    refine hq_isub (pm_d rk_X8_writeLetter 22 rfl) ?_
    refine pm_nm (G := fun x5 => hp_go sh_C me_X8_writeLetter (d + 3) none s1 43 [(0, .ref 41), (1, .int z33_1)] [.int x5] t3) h (fun x5 h => ?_)
    refine hq_istore_n (L1 := [(2, .int x5), (0, .ref 41), (1, .int z33_1)]) (pm_d rk_X8_writeLetter 23 rfl) rfl (by decide) rfl ?_
    show hp_go _ _ _ _ _ 44 _ _ _
    refine hq_aload_n (pm_d rk_X8_writeLetter 24 rfl) rfl 1 rfl ?_
    refine hq_getR (h := 39) 1 (pm_d rk_X8_writeLetter 25 rfl) fl_X8_22 rfl rfl ?_
    refine hq_bipush (v := (97 : Int32)) (pm_d rk_X8_writeLetter 26 rfl) (by decide) ?_
    refine hq_iload_n (pm_d rk_X8_writeLetter 27 rfl) rfl 0 rfl ?_
    refine hq_bipush (v := (26 : Int32)) (pm_d rk_X8_writeLetter 28 rfl) (by decide) ?_
    refine hq_irem (pm_d rk_X8_writeLetter 29 rfl) (by decide) ?_
    show hp_go _ _ _ _ _ 54 _ _ _
    refine hq_iadd (pm_d rk_X8_writeLetter 30 rfl) ?_
    obtain ⟨t6, hq, h⟩ := pm_b1_i h
    have hM := w_C_X3_add_39 (d := d + 1) (h := hq)
    refine hq_callVv (a := 39) (ci := 3) [.int ((97 : Int32) + (x5 - x5 / (26 : Int32) * (26 : Int32)))] [] (pm_d rk_X8_writeLetter 31 rfl) ml_X8_109 iv_X3_add rfl rfl rfl rfl rfl (Nat.le_of_ble_eq_true rfl) hM ?_
    refine hq_iload_n (pm_d rk_X8_writeLetter 32 rfl) rfl 0 rfl ?_
    refine hq_bipush (v := (26 : Int32)) (pm_d rk_X8_writeLetter 33 rfl) (by decide) ?_
    refine hq_icmp_lt 75 (pm_d rk_X8_writeLetter 34 rfl) (by decide) (fun hc => ?_) (fun hc => ?_)
    · rw [if_pos hc] at h
      exact hq_vret (pm_d rk_X8_writeLetter 41 rfl) rfl h
    rw [if_neg hc] at h
    show hp_go _ _ _ _ _ 64 _ _ _
    refine hq_aload_n (pm_d rk_X8_writeLetter 35 rfl) rfl 1 rfl ?_
    refine hq_getR (h := 39) 1 (pm_d rk_X8_writeLetter 36 rfl) fl_X8_22 rfl rfl ?_
    refine hq_iload_n (pm_d rk_X8_writeLetter 37 rfl) rfl 0 rfl ?_
    refine hq_bipush (v := (26 : Int32)) (pm_d rk_X8_writeLetter 38 rfl) (by decide) ?_
    refine hq_idiv (pm_d rk_X8_writeLetter 39 rfl) (by decide) ?_
    obtain ⟨t7, hq, h⟩ := pm_b1_i h
    have hM := w_C_X3_addNumber_39 (d := d + 0) (h := hq)
    refine hq_callVv (a := 39) (ci := 3) [.int (x5 / (26 : Int32))] [] (pm_d rk_X8_writeLetter 40 rfl) ml_X8_112 iv_X3_addNumber rfl rfl rfl rfl rfl (Nat.le_of_ble_eq_true rfl) hM ?_
    show hp_go _ _ _ _ _ 75 _ _ _
    exact hq_vret (pm_d rk_X8_writeLetter 41 rfl) rfl h
  refine hq_if_ne 33 (pm_d rk_X8_writeLetter 4 rfl) (by decide) (fun hc => ?_) (fun hc => ?_)
  · rw [if_neg hc] at h
    refine hq_drop [0, 1] rfl ?_
    exact hj33 _ _ h
  rw [if_pos hc] at h
  refine hq_aload_n (pm_d rk_X8_writeLetter 5 rfl) rfl 0 rfl ?_
  refine hq_dup (pm_d rk_X8_writeLetter 6 rfl) rfl ?_
  refine hq_getI 4 (pm_d rk_X8_writeLetter 7 rfl) fl_X8_15 rfl rfl ?_
  refine hq_iconst (v := (1 : Int32)) (pm_d rk_X8_writeLetter 8 rfl) (by decide) ?_
  show hp_go _ _ _ _ _ 17 _ _ _
  refine hq_iadd (pm_d rk_X8_writeLetter 9 rfl) ?_
  refine hq_putI 4 (pm_d rk_X8_writeLetter 10 rfl) fl_X8_15 rfl rfl ?_
  refine pm_nm (G := fun t8 => hp_go sh_C me_X8_writeLetter (d + 3) none s1 21 [(0, .ref 41), (1, .int a1)] [] t8) h (fun t8 h => ?_)
  refine hq_aload_n (pm_d rk_X8_writeLetter 11 rfl) rfl 0 rfl ?_
  refine hq_getR (h := 31) 0 (pm_d rk_X8_writeLetter 12 rfl) fl_X8_18 rfl rfl ?_
  refine hq_iload_n (pm_d rk_X8_writeLetter 13 rfl) rfl 1 rfl ?_
  refine hq_aload_n (pm_d rk_X8_writeLetter 14 rfl) rfl 0 rfl ?_
  show hp_go _ _ _ _ _ 27 _ _ _
  refine hq_getI 4 (pm_d rk_X8_writeLetter 15 rfl) fl_X8_15 rfl rfl ?_
  obtain ⟨t9, hq, h⟩ := pm_b1_i h
  have hM := w_C_X9_setMark_31 (d := d + 2) (h := hq)
  refine hq_callVv (a := 31) (ci := 9) [.int a1, .int (hs_I t8 41 4)] [] (pm_d rk_X8_writeLetter 16 rfl) ml_X8_106 iv_X9_setMark rfl rfl rfl rfl rfl (Nat.le_of_ble_eq_true rfl) hM ?_
  refine hq_drop [0, 1] rfl ?_
  exact hj33 _ _ h
def f_C_X8_writeNext_41 (n : Nat) (s : hp_S) : Option hp_S :=
  pm_bd (f_C_X8_pop_41 s) (fun x2 t1 =>
  pm_let (x2 / (3 : Int32)) (fun x3 =>
  pm_let (x2 - x2 / (3 : Int32) * (3 : Int32)) (fun x4 =>
  pm_bd (f_C_X9_kind_31 x3 t1) (fun x6 t5 =>
  if x6 = (2 : Int32) then
    pm_b1 (f_C_X3_addText_39_str n 7 t5) (fun t7 =>
    some t7)
  else
  if x6 = (3 : Int32) then
    pm_b1 (f_C_X3_addText_39_str n 8 t5) (fun t8 =>
    some t8)
  else
  if x6 = (4 : Int32) then
    pm_b1 (f_C_X8_writeFunction_41 n x3 x4 t5) (fun t9 =>
    some t9)
  else
  if x6 = (5 : Int32) then
    pm_b1 (f_C_X8_writePair_41 n x3 x4 t5) (fun t10 =>
    some t10)
  else
    pm_b1 (f_C_X8_writeLetter_41 n x3 t5) (fun t11 =>
    some t11)))))
set_option maxRecDepth 100000 in
set_option maxHeartbeats 400000 in
theorem w_C_X8_writeNext_41 (d : Nat) (n : Nat) (s s1 : hp_S) (h : f_C_X8_writeNext_41 n s = some s1) : hp_is sh_C me_X8_writeNext (d + 6) [.ref 41] s none s1 := by
  refine hp_ofF [(0, .ref 41)] (by decide +kernel) (Nat.le_of_ble_eq_true rfl) rfl ?_
  unfold f_C_X8_writeNext_41 at h
  refine hq_aload_n (pm_d rk_X8_writeNext 0 rfl) rfl 0 rfl ?_
  obtain ⟨x2, t1, hq, h⟩ := pm_bd_i h
  have hM := w_C_X8_pop_41 (d := d + 5) (h := hq)
  refine hq_callVi (a := 41) (ci := 8) [] [] (pm_d rk_X8_writeNext 1 rfl) ml_X8_53 iv_X8_pop rfl rfl rfl rfl rfl (Nat.le_of_ble_eq_true rfl) hM ?_
  refine hq_istore_n (L1 := [(1, .int x2), (0, .ref 41)]) (pm_d rk_X8_writeNext 2 rfl) rfl (by decide) rfl ?_
  refine hq_iload_n (pm_d rk_X8_writeNext 3 rfl) rfl 0 rfl ?_
  refine hq_iconst (v := (3 : Int32)) (pm_d rk_X8_writeNext 4 rfl) (by decide) ?_
  show hp_go _ _ _ _ _ 7 _ _ _
  refine hq_idiv (pm_d rk_X8_writeNext 5 rfl) (by decide) ?_
  refine pm_nm (G := fun x3 => hp_go sh_C me_X8_writeNext (d + 6) none s1 8 [(1, .int x2), (0, .ref 41)] [.int x3] t1) h (fun x3 h => ?_)
  refine hq_istore_n (L1 := [(2, .int x3), (1, .int x2), (0, .ref 41)]) (pm_d rk_X8_writeNext 6 rfl) rfl (by decide) rfl ?_
  refine hq_iload_n (pm_d rk_X8_writeNext 7 rfl) rfl 1 rfl ?_
  refine hq_iconst (v := (3 : Int32)) (pm_d rk_X8_writeNext 8 rfl) (by decide) ?_
  refine hq_irem (pm_d rk_X8_writeNext 9 rfl) (by decide) ?_
  refine pm_nm (G := fun x4 => hp_go sh_C me_X8_writeNext (d + 6) none s1 12 [(2, .int x3), (1, .int x2), (0, .ref 41)] [.int x4] t1) h (fun x4 h => ?_)
  refine hq_istore_n (L1 := [(3, .int x4), (2, .int x3), (1, .int x2), (0, .ref 41)]) (pm_d rk_X8_writeNext 10 rfl) rfl (by decide) rfl ?_
  show hp_go _ _ _ _ _ 13 _ _ _
  refine hq_aload_n (pm_d rk_X8_writeNext 11 rfl) rfl 3 rfl ?_
  refine hq_getR (h := 31) 0 (pm_d rk_X8_writeNext 12 rfl) fl_X8_18 rfl rfl ?_
  refine hq_iload_n (pm_d rk_X8_writeNext 13 rfl) rfl 1 rfl ?_
  obtain ⟨x6, t5, hq, h⟩ := pm_bd_i h
  have hM := w_C_X9_kind_31 (d := d + 5) (h := hq)
  refine hq_callVi (a := 31) (ci := 9) [.int x3] [] (pm_d rk_X8_writeNext 14 rfl) ml_X8_57 iv_X9_kind rfl rfl rfl rfl rfl (Nat.le_of_ble_eq_true rfl) hM ?_
  by_cases hc0 : x6 = (2 : Int32)
  · rw [if_pos hc0] at h
    refine hq_tableIn 70 (pm_d rk_X8_writeNext 15 rfl) (by rw [hc0]; decide) (by rw [hc0]; decide) (by rw [hc0] <;> rfl) (by decide) ?_
    refine hq_aload_n (pm_d rk_X8_writeNext 26 rfl) rfl 3 rfl ?_
    show hp_go _ _ _ _ _ 71 _ _ _
    refine hq_getR (h := 39) 1 (pm_d rk_X8_writeNext 27 rfl) fl_X8_22 rfl rfl ?_
    refine hq_ldcS 7 (pm_d rk_X8_writeNext 28 rfl) rfl ?_
    obtain ⟨t7, hq, h⟩ := pm_b1_i h
    have hM := w_C_X3_addText_39_str (d := d + 1) (h := hq)
    refine hq_callVv (a := 39) (ci := 3) [.ref (1000 + 7)] [] (pm_d rk_X8_writeNext 29 rfl) ml_X8_70 iv_X3_addText rfl rfl rfl rfl rfl (Nat.le_of_ble_eq_true rfl) hM ?_
    refine hq_goto 99 (pm_d rk_X8_writeNext 30 rfl) (by decide) ?_
    exact hq_vret (pm_d rk_X8_writeNext 39 rfl) rfl h
  rw [if_neg hc0] at h
  by_cases hc1 : x6 = (3 : Int32)
  · rw [if_pos hc1] at h
    refine hq_tableIn 82 (pm_d rk_X8_writeNext 15 rfl) (by rw [hc1]; decide) (by rw [hc1]; decide) (by rw [hc1] <;> rfl) (by decide) ?_
    refine hq_aload_n (pm_d rk_X8_writeNext 31 rfl) rfl 3 rfl ?_
    show hp_go _ _ _ _ _ 83 _ _ _
    refine hq_getR (h := 39) 1 (pm_d rk_X8_writeNext 32 rfl) fl_X8_22 rfl rfl ?_
    refine hq_ldcS 8 (pm_d rk_X8_writeNext 33 rfl) rfl ?_
    obtain ⟨t8, hq, h⟩ := pm_b1_i h
    have hM := w_C_X3_addText_39_str (d := d + 1) (h := hq)
    refine hq_callVv (a := 39) (ci := 3) [.ref (1000 + 8)] [] (pm_d rk_X8_writeNext 34 rfl) ml_X8_70 iv_X3_addText rfl rfl rfl rfl rfl (Nat.le_of_ble_eq_true rfl) hM ?_
    refine hq_goto 99 (pm_d rk_X8_writeNext 35 rfl) (by decide) ?_
    exact hq_vret (pm_d rk_X8_writeNext 39 rfl) rfl h
  rw [if_neg hc1] at h
  by_cases hc2 : x6 = (4 : Int32)
  · rw [if_pos hc2] at h
    refine hq_tableIn 52 (pm_d rk_X8_writeNext 15 rfl) (by rw [hc2]; decide) (by rw [hc2]; decide) (by rw [hc2] <;> rfl) (by decide) ?_
    refine hq_aload_n (pm_d rk_X8_writeNext 16 rfl) rfl 3 rfl ?_
    show hp_go _ _ _ _ _ 53 _ _ _
    refine hq_iload_n (pm_d rk_X8_writeNext 17 rfl) rfl 1 rfl ?_
    refine hq_iload_n (pm_d rk_X8_writeNext 18 rfl) rfl 0 rfl ?_
    obtain ⟨t9, hq, h⟩ := pm_b1_i h
    have hM := w_C_X8_writeFunction_41 (d := d + 0) (h := hq)
    refine hq_callVv (a := 41) (ci := 8) [.int x3, .int x4] [] (pm_d rk_X8_writeNext 19 rfl) ml_X8_61 iv_X8_writeFunction rfl rfl rfl rfl rfl (Nat.le_of_ble_eq_true rfl) hM ?_
    refine hq_goto 99 (pm_d rk_X8_writeNext 20 rfl) (by decide) ?_
    exact hq_vret (pm_d rk_X8_writeNext 39 rfl) rfl h
  rw [if_neg hc2] at h
  by_cases hc3 : x6 = (5 : Int32)
  · rw [if_pos hc3] at h
    refine hq_tableIn 61 (pm_d rk_X8_writeNext 15 rfl) (by rw [hc3]; decide) (by rw [hc3]; decide) (by rw [hc3] <;> rfl) (by decide) ?_
    refine hq_aload_n (pm_d rk_X8_writeNext 21 rfl) rfl 3 rfl ?_
    show hp_go _ _ _ _ _ 62 _ _ _
    refine hq_iload_n (pm_d rk_X8_writeNext 22 rfl) rfl 1 rfl ?_
    refine hq_iload_n (pm_d rk_X8_writeNext 23 rfl) rfl 0 rfl ?_
    obtain ⟨t10, hq, h⟩ := pm_b1_i h
    have hM := w_C_X8_writePair_41 (d := d + 0) (h := hq)
    refine hq_callVv (a := 41) (ci := 8) [.int x3, .int x4] [] (pm_d rk_X8_writeNext 24 rfl) ml_X8_65 iv_X8_writePair rfl rfl rfl rfl rfl (Nat.le_of_ble_eq_true rfl) hM ?_
    refine hq_goto 99 (pm_d rk_X8_writeNext 25 rfl) (by decide) ?_
    exact hq_vret (pm_d rk_X8_writeNext 39 rfl) rfl h
  rw [if_neg hc3] at h
  refine hq_tableOut 94 (pm_d rk_X8_writeNext 15 rfl) (by
      rcases tb_out (t := x6.toInt) (lo := 2) 4 (fun k hk => match k, hk with | 0, _ => tb_ne hc0 (by decide) | 1, _ => tb_ne hc1 (by decide) | 2, _ => tb_ne hc2 (by decide) | 3, _ => tb_ne hc3 (by decide) | k + 4, hk => absurd hk (by omega)) with q | q
      · exact Or.inl q
      · exact Or.inr (by omega)) (by decide) ?_
  refine hq_aload_n (pm_d rk_X8_writeNext 36 rfl) rfl 3 rfl ?_
  show hp_go _ _ _ _ _ 95 _ _ _
  refine hq_iload_n (pm_d rk_X8_writeNext 37 rfl) rfl 1 rfl ?_
  obtain ⟨t11, hq, h⟩ := pm_b1_i h
  have hM := w_C_X8_writeLetter_41 (d := d + 2) (h := hq)
  refine hq_callVv (a := 41) (ci := 8) [.int x3] [] (pm_d rk_X8_writeNext 38 rfl) ml_X8_76 iv_X8_writeLetter rfl rfl rfl rfl rfl (Nat.le_of_ble_eq_true rfl) hM ?_
  exact hq_vret (pm_d rk_X8_writeNext 39 rfl) rfl h
def l_C_X8_write_41_24 : Nat → Int32 → hp_S → Option hp_S
  | 0, _, _ => none
  | n + 1, y2, s =>
    if (1000000 : Int32) ≤ y2 then
      some s
    else
      if (hs_I s 41 3) ≤ 0 then
        some s
      else
        pm_bd (f_C_X3_isFull_39 s) (fun x6 t5 =>
        if x6 = 0 then
          pm_b1 (f_C_X8_writeNext_41 n t5) (fun t7 =>
          pm_let (y2 + (1 : Int32)) (fun x8 =>
          l_C_X8_write_41_24 n x8 t7))
        else
          some t5)
set_option maxRecDepth 100000 in
set_option maxHeartbeats 400000 in
theorem wl_C_X8_write_41_24 (d : Nat) (s1 : hp_S)  : ∀ (n : Nat) (y2 : Int32) (s : hp_S), l_C_X8_write_41_24 n y2 s = some s1 → hp_go sh_C me_X8_write (d + 7) none s1 24 [(0, .ref 41), (2, .int y2)] [] s := by
  intro n
  induction n with
  | zero =>
    intro y2 s h
    cases h
  | succ n ih =>
    intro y2 s h
    rw [l_C_X8_write_41_24.eq_2] at h
    refine hq_iload_n (pm_d rk_X8_write 14 rfl) rfl 1 rfl ?_
    refine hq_ldc (pm_d rk_X8_write 15 rfl) (pm_i4 137 rfl rfl) ?_
    refine hq_icmp_ge 57 (pm_d rk_X8_write 16 rfl) (by decide) (fun hc => ?_) (fun hc => ?_)
    · rw [if_pos hc] at h
      show hp_go _ _ _ _ _ 57 _ _ _
      exact hq_vret (pm_d rk_X8_write 28 rfl) rfl h
    rw [if_neg hc] at h
    refine hq_aload_n (pm_d rk_X8_write 17 rfl) rfl 0 rfl ?_
    refine hq_getI 3 (pm_d rk_X8_write 18 rfl) fl_X8_9 rfl rfl ?_
    refine hq_if_le 57 (pm_d rk_X8_write 19 rfl) (by decide) (fun hc => ?_) (fun hc => ?_)
    · rw [if_pos hc] at h
      exact hq_vret (pm_d rk_X8_write 28 rfl) rfl h
    rw [if_neg hc] at h
    refine hq_aload_n (pm_d rk_X8_write 20 rfl) rfl 0 rfl ?_
    show hp_go _ _ _ _ _ 38 _ _ _
    refine hq_getR (h := 39) 1 (pm_d rk_X8_write 21 rfl) fl_X8_22 rfl rfl ?_
    obtain ⟨x6, t5, hq, h⟩ := pm_bd_i h
    have hM := w_C_X3_isFull_39 (d := d + 6) (h := hq)
    refine hq_callVi (a := 39) (ci := 3) [] [] (pm_d rk_X8_write 22 rfl) ml_X8_44 iv_X3_isFull rfl rfl rfl rfl rfl (Nat.le_of_ble_eq_true rfl) hM ?_
    refine hq_if_ne 57 (pm_d rk_X8_write 23 rfl) (by decide) (fun hc => ?_) (fun hc => ?_)
    · rw [if_neg hc] at h
      exact hq_vret (pm_d rk_X8_write 28 rfl) rfl h
    rw [if_pos hc] at h
    refine hq_aload_n (pm_d rk_X8_write 24 rfl) rfl 0 rfl ?_
    obtain ⟨t7, hq, h⟩ := pm_b1_i h
    have hM := w_C_X8_writeNext_41 (d := d + 0) (h := hq)
    refine hq_callVv (a := 41) (ci := 8) [] [] (pm_d rk_X8_write 25 rfl) ml_X8_50 iv_X8_writeNext rfl rfl rfl rfl rfl (Nat.le_of_ble_eq_true rfl) hM ?_
    show hp_go _ _ _ _ _ 51 _ _ _
    refine hq_iinc (v := y2 + (1 : Int32)) (L1 := [(2, .int (y2 + (1 : Int32))), (0, .ref 41)]) (pm_d rk_X8_write 26 rfl) 1 rfl (by rw [show Int32.ofInt (1) = (1 : Int32) by decide]) (by decide) rfl ?_
    refine pm_nm (G := fun x8 => hp_go sh_C me_X8_write (d + 7) none s1 54 [(2, .int x8), (0, .ref 41)] [] t7) h (fun x8 h => ?_)
    refine hq_goto 24 (pm_d rk_X8_write 27 rfl) (by decide) ?_
    refine hq_drop [1, 0] rfl ?_
    exact ih _ _ h
def f_C_X8_write_41 (n : Nat) (a1 : Int32) (s : hp_S) : Option hp_S :=
  pm_b1 (f_C_X9_clearMarks_31 n s) (fun t1 =>
  pm_let (hs_pI t1 41 4 (0 : Int32)) (fun t2 =>
  pm_let (hs_pI t2 41 3 (0 : Int32)) (fun t3 =>
  pm_b1 (f_C_X8_push_41 n a1 t3) (fun t4 =>
  l_C_X8_write_41_24 n (0 : Int32) t4))))
set_option maxRecDepth 100000 in
set_option maxHeartbeats 400000 in
theorem w_C_X8_write_41 (d : Nat) (n : Nat) (a1 : Int32) (s s1 : hp_S) (h : f_C_X8_write_41 n a1 s = some s1) : hp_is sh_C me_X8_write (d + 7) [.ref 41, .int a1] s none s1 := by
  refine hp_ofF [(0, .ref 41), (1, .int a1)] (by decide +kernel) (Nat.le_of_ble_eq_true rfl) rfl ?_
  unfold f_C_X8_write_41 at h
  refine hq_aload_n (pm_d rk_X8_write 0 rfl) rfl 0 rfl ?_
  refine hq_getR (h := 31) 0 (pm_d rk_X8_write 1 rfl) fl_X8_18 rfl rfl ?_
  obtain ⟨t1, hq, h⟩ := pm_b1_i h
  have hM := w_C_X9_clearMarks_31 (d := d + 6) (h := hq)
  refine hq_callVv (a := 31) (ci := 9) [] [] (pm_d rk_X8_write 2 rfl) ml_X8_36 iv_X9_clearMarks rfl rfl rfl rfl rfl (Nat.le_of_ble_eq_true rfl) hM ?_
  refine hq_aload_n (pm_d rk_X8_write 3 rfl) rfl 0 rfl ?_
  refine hq_iconst (v := (0 : Int32)) (pm_d rk_X8_write 4 rfl) (by decide) ?_
  show hp_go _ _ _ _ _ 9 _ _ _
  refine hq_putI 4 (pm_d rk_X8_write 5 rfl) fl_X8_15 rfl rfl ?_
  refine pm_nm (G := fun t2 => hp_go sh_C me_X8_write (d + 7) none s1 12 [(0, .ref 41), (1, .int a1)] [] t2) h (fun t2 h => ?_)
  refine hq_aload_n (pm_d rk_X8_write 6 rfl) rfl 0 rfl ?_
  refine hq_iconst (v := (0 : Int32)) (pm_d rk_X8_write 7 rfl) (by decide) ?_
  refine hq_putI 3 (pm_d rk_X8_write 8 rfl) fl_X8_9 rfl rfl ?_
  refine pm_nm (G := fun t3 => hp_go sh_C me_X8_write (d + 7) none s1 17 [(0, .ref 41), (1, .int a1)] [] t3) h (fun t3 h => ?_)
  refine hq_aload_n (pm_d rk_X8_write 9 rfl) rfl 0 rfl ?_
  refine hq_iload_n (pm_d rk_X8_write 10 rfl) rfl 1 rfl ?_
  show hp_go _ _ _ _ _ 19 _ _ _
  obtain ⟨t4, hq, h⟩ := pm_b1_i h
  have hM := w_C_X8_push_41 (d := d + 4) (h := hq)
  refine hq_callVv (a := 41) (ci := 8) [.int a1] [] (pm_d rk_X8_write 11 rfl) ml_X8_39 iv_X8_push rfl rfl rfl rfl rfl (Nat.le_of_ble_eq_true rfl) hM ?_
  refine hq_iconst (v := (0 : Int32)) (pm_d rk_X8_write 12 rfl) (by decide) ?_
  refine hq_istore_n (L1 := [(2, .int (0 : Int32)), (0, .ref 41), (1, .int a1)]) (pm_d rk_X8_write 13 rfl) rfl (by decide) rfl ?_
  refine hq_drop [1, 0] rfl ?_
  exact wl_C_X8_write_41_24 d _   _ _ _ h
def f_C_X10_fault_0 (a1 : Int32) (a2 : Int32) (s : hp_S) : Option (Int32 × hp_S) :=
  pm_let (hs_pI s 0 10 a2) (fun t1 =>
  some (a1, t1))
set_option maxRecDepth 100000 in
set_option maxHeartbeats 400000 in
theorem w_C_X10_fault_0 (d : Nat) (a1 : Int32) (a2 : Int32) (s s1 : hp_S) (x0 : Int32) (h : f_C_X10_fault_0 a1 a2 s = some (x0, s1)) : hp_is sh_C me_X10_fault (d + 0) [.ref 0, .int a1, .int a2] s (some (.int x0)) s1 := by
  refine hp_ofF [(0, .ref 0), (1, .int a1), (2, .int a2)] (by decide +kernel) (Nat.le_of_ble_eq_true rfl) rfl ?_
  unfold f_C_X10_fault_0 at h
  refine hq_aload_n (pm_d rk_X10_fault 0 rfl) rfl 0 rfl ?_
  refine hq_iload_n (pm_d rk_X10_fault 1 rfl) rfl 2 rfl ?_
  refine hq_putI 10 (pm_d rk_X10_fault 2 rfl) fl_X10_86 rfl rfl ?_
  refine pm_nm (G := fun t1 => hp_go sh_C me_X10_fault (d + 0) (some (.int x0)) s1 5 [(0, .ref 0), (1, .int a1), (2, .int a2)] [] t1) h (fun t1 h => ?_)
  refine hq_iload_n (pm_d rk_X10_fault 3 rfl) rfl 1 rfl ?_
  exact hq_iret (pm_d rk_X10_fault 4 rfl) rfl h
def f_C_X4_refusedToken_7  (s : hp_S) : Option (Int32 × hp_S) :=
  some ((hs_I s 7 7), s)
set_option maxRecDepth 100000 in
set_option maxHeartbeats 400000 in
theorem w_C_X4_refusedToken_7 (d : Nat)  (s s1 : hp_S) (x0 : Int32) (h : f_C_X4_refusedToken_7 s = some (x0, s1)) : hp_is sh_C me_X4_refusedToken (d + 0) [.ref 7] s (some (.int x0)) s1 := by
  refine hp_ofF [(0, .ref 7)] (by decide +kernel) (Nat.le_of_ble_eq_true rfl) rfl ?_
  unfold f_C_X4_refusedToken_7 at h
  refine hq_aload_n (pm_d rk_X4_refusedToken 0 rfl) rfl 0 rfl ?_
  refine hq_getI 7 (pm_d rk_X4_refusedToken 1 rfl) fl_X4_37 rfl rfl ?_
  exact hq_iret (pm_d rk_X4_refusedToken 2 rfl) rfl h
def f_C_X10_answerForTokens_0 (n : Nat) (s : hp_S) : Option (Int32 × hp_S) :=
  pm_bd (f_C_X4_parse_7 n s) (fun x2 t1 =>
  if x2 = 0 then
    pm_bd (f_C_X4_refusedToken_7 t1) (fun x36 t35 =>
    pm_bd (f_C_X6_start_3 x36 t35) (fun x38 t37 =>
    pm_bd (f_C_X10_fault_0 (-1 : Int32) x38 t37) (fun x40 t39 =>
    some (x40, t39))))
  else
    pm_b1 (f_C_X7_gather_16_3_7 n t1) (fun t3 =>
    pm_bd (f_C_X7_size_16 t3) (fun x5 t4 =>
    pm_let (hs_pI t4 0 11 x5) (fun t6 =>
    pm_bd (f_C_X4_unknownName_7 t6) (fun x8 t7 =>
    if x8 = (-1 : Int32) then
      pm_bd (f_C_X1_unfold_26 n t7) (fun x10 t9 =>
      if x10 = 0 then
        pm_bd (f_C_X5_length_1 t9) (fun x26 t25 =>
        pm_bd (f_C_X10_fault_0 (-3 : Int32) x26 t25) (fun x28 t27 =>
        some (x28, t27)))
      else
        pm_bd (f_C_X1_variables_26 t9) (fun x12 t11 =>
        pm_let (hs_pI t11 0 13 x12) (fun t13 =>
        pm_bd (f_C_X0_allFine_37 n t13) (fun x15 t14 =>
        if x15 = 0 then
          pm_bd (f_C_X0_cut_37_42 n t14) (fun x17 t16 =>
          pm_let (hs_pI t16 0 12 x17) (fun t18 =>
          pm_b1 (f_C_X10_writeSlice_0 n t18) (fun t19 =>
          some ((1 : Int32), t19))))
        else
          pm_bd (f_C_X7_root_16 t14) (fun x21 t20 =>
          pm_bd (f_C_X1_variable_26 (0 : Int32) x21 t20) (fun x23 t22 =>
          pm_b1 (f_C_X8_write_41 n x23 t22) (fun t24 =>
          some ((2 : Int32), t24))))))))
    else
      pm_bd (f_C_X4_unknownName_7 t7) (fun x30 t29 =>
      pm_bd (f_C_X6_start_3 x30 t29) (fun x32 t31 =>
      pm_bd (f_C_X10_fault_0 (-2 : Int32) x32 t31) (fun x34 t33 =>
      some (x34, t33)))))))))
set_option maxRecDepth 100000 in
set_option maxHeartbeats 400000 in
theorem w_C_X10_answerForTokens_0 (d : Nat) (n : Nat) (s s1 : hp_S) (x0 : Int32) (h : f_C_X10_answerForTokens_0 n s = some (x0, s1)) : hp_is sh_C me_X10_answerForTokens (d + 171) [.ref 0] s (some (.int x0)) s1 := by
  refine hp_ofF [(0, .ref 0)] (by decide +kernel) (Nat.le_of_ble_eq_true rfl) rfl ?_
  unfold f_C_X10_answerForTokens_0 at h
  refine hq_aload_n (pm_d rk_X10_answerForTokens 0 rfl) rfl 0 rfl ?_
  refine hq_getR (h := 7) 2 (pm_d rk_X10_answerForTokens 1 rfl) fl_X10_30 rfl rfl ?_
  obtain ⟨x2, t1, hq, h⟩ := pm_bd_i h
  have hM := w_C_X4_parse_7 (d := d + 0) (h := hq)
  refine hq_callVi (a := 7) (ci := 4) [] [] (pm_d rk_X10_answerForTokens 2 rfl) ml_X10_127 iv_X4_parse rfl rfl rfl rfl rfl (Nat.le_of_ble_eq_true rfl) hM ?_
  refine hq_if_ne 30 (pm_d rk_X10_answerForTokens 3 rfl) (by decide) (fun hc => ?_) (fun hc => ?_)
  · rw [if_neg hc] at h
    refine hq_aload_n (pm_d rk_X10_answerForTokens 14 rfl) rfl 0 rfl ?_
    show hp_go _ _ _ _ _ 31 _ _ _
    refine hq_getR (h := 16) 3 (pm_d rk_X10_answerForTokens 15 rfl) fl_X10_37 rfl rfl ?_
    refine hq_aload_n (pm_d rk_X10_answerForTokens 16 rfl) rfl 0 rfl ?_
    refine hq_getR (h := 3) 1 (pm_d rk_X10_answerForTokens 17 rfl) fl_X10_21 rfl rfl ?_
    refine hq_aload_n (pm_d rk_X10_answerForTokens 18 rfl) rfl 0 rfl ?_
    refine hq_getR (h := 7) 2 (pm_d rk_X10_answerForTokens 19 rfl) fl_X10_30 rfl rfl ?_
    obtain ⟨t3, hq, h⟩ := pm_b1_i h
    have hM := w_C_X7_gather_16_3_7 (d := d + 167) (h := hq)
    refine hq_callVv (a := 16) (ci := 7) [.ref 3, .ref 7] [] (pm_d rk_X10_answerForTokens 20 rfl) ml_X10_142 iv_X7_gather rfl rfl rfl rfl rfl (Nat.le_of_ble_eq_true rfl) hM ?_
    show hp_go _ _ _ _ _ 45 _ _ _
    refine hq_aload_n (pm_d rk_X10_answerForTokens 21 rfl) rfl 0 rfl ?_
    refine hq_aload_n (pm_d rk_X10_answerForTokens 22 rfl) rfl 0 rfl ?_
    refine hq_getR (h := 16) 3 (pm_d rk_X10_answerForTokens 23 rfl) fl_X10_37 rfl rfl ?_
    obtain ⟨x5, t4, hq, h⟩ := pm_bd_i h
    have hM := w_C_X7_size_16 (d := d + 170) (h := hq)
    refine hq_callVi (a := 16) (ci := 7) [] [.ref 0] (pm_d rk_X10_answerForTokens 24 rfl) ml_X10_146 iv_X7_size rfl rfl rfl rfl rfl (Nat.le_of_ble_eq_true rfl) hM ?_
    refine hq_putI 11 (pm_d rk_X10_answerForTokens 25 rfl) fl_X10_90 rfl rfl ?_
    refine pm_nm (G := fun t6 => hp_go sh_C me_X10_answerForTokens (d + 171) (some (.int x0)) s1 56 [(0, .ref 0)] [] t6) h (fun t6 h => ?_)
    refine hq_aload_n (pm_d rk_X10_answerForTokens 26 rfl) rfl 0 rfl ?_
    show hp_go _ _ _ _ _ 57 _ _ _
    refine hq_getR (h := 7) 2 (pm_d rk_X10_answerForTokens 27 rfl) fl_X10_30 rfl rfl ?_
    obtain ⟨x8, t7, hq, h⟩ := pm_bd_i h
    have hM := w_C_X4_unknownName_7 (d := d + 170) (h := hq)
    refine hq_callVi (a := 7) (ci := 4) [] [] (pm_d rk_X10_answerForTokens 28 rfl) ml_X10_149 iv_X4_unknownName rfl rfl rfl rfl rfl (Nat.le_of_ble_eq_true rfl) hM ?_
    refine hq_iconst (v := (-1 : Int32)) (pm_d rk_X10_answerForTokens 29 rfl) (by decide) ?_
    refine hq_icmp_eq 88 (pm_d rk_X10_answerForTokens 30 rfl) (by decide) (fun hc => ?_) (fun hc => ?_)
    · rw [if_pos hc] at h
      refine hq_aload_n (pm_d rk_X10_answerForTokens 41 rfl) rfl 0 rfl ?_
      refine hq_getR (h := 26) 4 (pm_d rk_X10_answerForTokens 42 rfl) fl_X10_46 rfl rfl ?_
      show hp_go _ _ _ _ _ 92 _ _ _
      obtain ⟨x10, t9, hq, h⟩ := pm_bd_i h
      have hM := w_C_X1_unfold_26 (d := d + 165) (h := hq)
      refine hq_callVi (a := 26) (ci := 1) [] [] (pm_d rk_X10_answerForTokens 43 rfl) ml_X10_152 iv_X1_unfold rfl rfl rfl rfl rfl (Nat.le_of_ble_eq_true rfl) hM ?_
      refine hq_if_ne 112 (pm_d rk_X10_answerForTokens 44 rfl) (by decide) (fun hc => ?_) (fun hc => ?_)
      · rw [if_neg hc] at h
        refine hq_aload_n (pm_d rk_X10_answerForTokens 52 rfl) rfl 0 rfl ?_
        refine hq_aload_n (pm_d rk_X10_answerForTokens 53 rfl) rfl 0 rfl ?_
        refine hq_getR (h := 26) 4 (pm_d rk_X10_answerForTokens 54 rfl) fl_X10_46 rfl rfl ?_
        obtain ⟨x12, t11, hq, h⟩ := pm_bd_i h
        have hM := w_C_X1_variables_26 (d := d + 170) (h := hq)
        refine hq_callVi (a := 26) (ci := 1) [] [.ref 0] (pm_d rk_X10_answerForTokens 55 rfl) ml_X10_155 iv_X1_variables rfl rfl rfl rfl rfl (Nat.le_of_ble_eq_true rfl) hM ?_
        show hp_go _ _ _ _ _ 120 _ _ _
        refine hq_putI 13 (pm_d rk_X10_answerForTokens 56 rfl) fl_X10_96 rfl rfl ?_
        refine pm_nm (G := fun t13 => hp_go sh_C me_X10_answerForTokens (d + 171) (some (.int x0)) s1 123 [(0, .ref 0)] [] t13) h (fun t13 h => ?_)
        refine hq_aload_n (pm_d rk_X10_answerForTokens 57 rfl) rfl 0 rfl ?_
        refine hq_getR (h := 37) 6 (pm_d rk_X10_answerForTokens 58 rfl) fl_X10_62 rfl rfl ?_
        obtain ⟨x15, t14, hq, h⟩ := pm_bd_i h
        have hM := w_C_X0_allFine_37 (d := d + 165) (h := hq)
        refine hq_callVi (a := 37) (ci := 0) [] [] (pm_d rk_X10_answerForTokens 59 rfl) ml_X10_157 iv_X0_allFine rfl rfl rfl rfl rfl (Nat.le_of_ble_eq_true rfl) hM ?_
        refine hq_if_eq 157 (pm_d rk_X10_answerForTokens 60 rfl) (by decide) (fun hc => ?_) (fun hc => ?_)
        · rw [if_pos hc] at h
          refine hq_aload_n (pm_d rk_X10_answerForTokens 73 rfl) rfl 0 rfl ?_
          show hp_go _ _ _ _ _ 158 _ _ _
          refine hq_aload_n (pm_d rk_X10_answerForTokens 74 rfl) rfl 0 rfl ?_
          refine hq_getR (h := 37) 6 (pm_d rk_X10_answerForTokens 75 rfl) fl_X10_62 rfl rfl ?_
          refine hq_aload_n (pm_d rk_X10_answerForTokens 76 rfl) rfl 0 rfl ?_
          refine hq_getR (h := 42) 9 (pm_d rk_X10_answerForTokens 77 rfl) fl_X10_82 rfl rfl ?_
          obtain ⟨x17, t16, hq, h⟩ := pm_bd_i h
          have hM := w_C_X0_cut_37_42 (d := d + 165) (h := hq)
          refine hq_callVi (a := 37) (ci := 0) [.ref 42] [.ref 0] (pm_d rk_X10_answerForTokens 78 rfl) ml_X10_170 iv_X0_cut rfl rfl rfl rfl rfl (Nat.le_of_ble_eq_true rfl) hM ?_
          refine hq_putI 12 (pm_d rk_X10_answerForTokens 79 rfl) fl_X10_93 rfl rfl ?_
          refine pm_nm (G := fun t18 => hp_go sh_C me_X10_answerForTokens (d + 171) (some (.int x0)) s1 172 [(0, .ref 0)] [] t18) h (fun t18 h => ?_)
          show hp_go _ _ _ _ _ 172 _ _ _
          refine hq_aload_n (pm_d rk_X10_answerForTokens 80 rfl) rfl 0 rfl ?_
          obtain ⟨t19, hq, h⟩ := pm_b1_i h
          have hM := w_C_X10_writeSlice_0 (d := d + 165) (h := hq)
          refine hq_callVv (a := 0) (ci := 10) [] [] (pm_d rk_X10_answerForTokens 81 rfl) ml_X10_174 iv_X10_writeSlice rfl rfl rfl rfl rfl (Nat.le_of_ble_eq_true rfl) hM ?_
          refine hq_iconst (v := (1 : Int32)) (pm_d rk_X10_answerForTokens 82 rfl) (by decide) ?_
          exact hq_iret (pm_d rk_X10_answerForTokens 83 rfl) rfl h
        rw [if_neg hc] at h
        refine hq_aload_n (pm_d rk_X10_answerForTokens 61 rfl) rfl 0 rfl ?_
        refine hq_getR (h := 41) 8 (pm_d rk_X10_answerForTokens 62 rfl) fl_X10_78 rfl rfl ?_
        show hp_go _ _ _ _ _ 137 _ _ _
        refine hq_aload_n (pm_d rk_X10_answerForTokens 63 rfl) rfl 0 rfl ?_
        refine hq_getR (h := 26) 4 (pm_d rk_X10_answerForTokens 64 rfl) fl_X10_46 rfl rfl ?_
        refine hq_iconst (v := (0 : Int32)) (pm_d rk_X10_answerForTokens 65 rfl) (by decide) ?_
        refine hq_aload_n (pm_d rk_X10_answerForTokens 66 rfl) rfl 0 rfl ?_
        refine hq_getR (h := 16) 3 (pm_d rk_X10_answerForTokens 67 rfl) fl_X10_37 rfl rfl ?_
        obtain ⟨x21, t20, hq, h⟩ := pm_bd_i h
        have hM := w_C_X7_root_16 (d := d + 170) (h := hq)
        refine hq_callVi (a := 16) (ci := 7) [] [.int (0 : Int32), .ref 26, .ref 41] (pm_d rk_X10_answerForTokens 68 rfl) ml_X10_160 iv_X7_root rfl rfl rfl rfl rfl (Nat.le_of_ble_eq_true rfl) hM ?_
        show hp_go _ _ _ _ _ 149 _ _ _
        obtain ⟨x23, t22, hq, h⟩ := pm_bd_i h
        have hM := w_C_X1_variable_26 (d := d + 168) (h := hq)
        refine hq_callVi (a := 26) (ci := 1) [.int (0 : Int32), .int x21] [.ref 41] (pm_d rk_X10_answerForTokens 69 rfl) ml_X10_163 iv_X1_variable rfl rfl rfl rfl rfl (Nat.le_of_ble_eq_true rfl) hM ?_
        obtain ⟨t24, hq, h⟩ := pm_b1_i h
        have hM := w_C_X8_write_41 (d := d + 163) (h := hq)
        refine hq_callVv (a := 41) (ci := 8) [.int x23] [] (pm_d rk_X10_answerForTokens 70 rfl) ml_X10_166 iv_X8_write rfl rfl rfl rfl rfl (Nat.le_of_ble_eq_true rfl) hM ?_
        refine hq_iconst (v := (2 : Int32)) (pm_d rk_X10_answerForTokens 71 rfl) (by decide) ?_
        exact hq_iret (pm_d rk_X10_answerForTokens 72 rfl) rfl h
      rw [if_pos hc] at h
      refine hq_aload_n (pm_d rk_X10_answerForTokens 45 rfl) rfl 0 rfl ?_
      refine hq_bipush (v := (-3 : Int32)) (pm_d rk_X10_answerForTokens 46 rfl) (by decide) ?_
      show hp_go _ _ _ _ _ 101 _ _ _
      refine hq_aload_n (pm_d rk_X10_answerForTokens 47 rfl) rfl 0 rfl ?_
      refine hq_getR (h := 1) 0 (pm_d rk_X10_answerForTokens 48 rfl) fl_X10_10 rfl rfl ?_
      obtain ⟨x26, t25, hq, h⟩ := pm_bd_i h
      have hM := w_C_X5_length_1 (d := d + 170) (h := hq)
      refine hq_callVi (a := 1) (ci := 5) [] [.int (-3 : Int32), .ref 0] (pm_d rk_X10_answerForTokens 49 rfl) ml_X10_99 iv_X5_length rfl rfl rfl rfl rfl (Nat.le_of_ble_eq_true rfl) hM ?_
      obtain ⟨x28, t27, hq, h⟩ := pm_bd_i h
      have hM := w_C_X10_fault_0 (d := d + 170) (h := hq)
      refine hq_callVi (a := 0) (ci := 10) [.int (-3 : Int32), .int x26] [] (pm_d rk_X10_answerForTokens 50 rfl) ml_X10_138 iv_X10_fault rfl rfl rfl rfl rfl (Nat.le_of_ble_eq_true rfl) hM ?_
      exact hq_iret (pm_d rk_X10_answerForTokens 51 rfl) rfl h
    rw [if_neg hc] at h
    refine hq_aload_n (pm_d rk_X10_answerForTokens 31 rfl) rfl 0 rfl ?_
    show hp_go _ _ _ _ _ 68 _ _ _
    refine hq_bipush (v := (-2 : Int32)) (pm_d rk_X10_answerForTokens 32 rfl) (by decide) ?_
    refine hq_aload_n (pm_d rk_X10_answerForTokens 33 rfl) rfl 0 rfl ?_
    refine hq_getR (h := 3) 1 (pm_d rk_X10_answerForTokens 34 rfl) fl_X10_21 rfl rfl ?_
    refine hq_aload_n (pm_d rk_X10_answerForTokens 35 rfl) rfl 0 rfl ?_
    refine hq_getR (h := 7) 2 (pm_d rk_X10_answerForTokens 36 rfl) fl_X10_30 rfl rfl ?_
    obtain ⟨x30, t29, hq, h⟩ := pm_bd_i h
    have hM := w_C_X4_unknownName_7 (d := d + 170) (h := hq)
    refine hq_callVi (a := 7) (ci := 4) [] [.ref 3, .int (-2 : Int32), .ref 0] (pm_d rk_X10_answerForTokens 37 rfl) ml_X10_149 iv_X4_unknownName rfl rfl rfl rfl rfl (Nat.le_of_ble_eq_true rfl) hM ?_
    show hp_go _ _ _ _ _ 81 _ _ _
    obtain ⟨x32, t31, hq, h⟩ := pm_bd_i h
    have hM := w_C_X6_start_3 (d := d + 169) (h := hq)
    refine hq_callVi (a := 3) (ci := 6) [.int x30] [.int (-2 : Int32), .ref 0] (pm_d rk_X10_answerForTokens 38 rfl) ml_X10_134 iv_X6_start rfl rfl rfl rfl rfl (Nat.le_of_ble_eq_true rfl) hM ?_
    obtain ⟨x34, t33, hq, h⟩ := pm_bd_i h
    have hM := w_C_X10_fault_0 (d := d + 170) (h := hq)
    refine hq_callVi (a := 0) (ci := 10) [.int (-2 : Int32), .int x32] [] (pm_d rk_X10_answerForTokens 39 rfl) ml_X10_138 iv_X10_fault rfl rfl rfl rfl rfl (Nat.le_of_ble_eq_true rfl) hM ?_
    exact hq_iret (pm_d rk_X10_answerForTokens 40 rfl) rfl h
  rw [if_pos hc] at h
  refine hq_aload_n (pm_d rk_X10_answerForTokens 4 rfl) rfl 0 rfl ?_
  refine hq_iconst (v := (-1 : Int32)) (pm_d rk_X10_answerForTokens 5 rfl) (by decide) ?_
  refine hq_aload_n (pm_d rk_X10_answerForTokens 6 rfl) rfl 0 rfl ?_
  show hp_go _ _ _ _ _ 13 _ _ _
  refine hq_getR (h := 3) 1 (pm_d rk_X10_answerForTokens 7 rfl) fl_X10_21 rfl rfl ?_
  refine hq_aload_n (pm_d rk_X10_answerForTokens 8 rfl) rfl 0 rfl ?_
  refine hq_getR (h := 7) 2 (pm_d rk_X10_answerForTokens 9 rfl) fl_X10_30 rfl rfl ?_
  obtain ⟨x36, t35, hq, h⟩ := pm_bd_i h
  have hM := w_C_X4_refusedToken_7 (d := d + 170) (h := hq)
  refine hq_callVi (a := 7) (ci := 4) [] [.ref 3, .int (-1 : Int32), .ref 0] (pm_d rk_X10_answerForTokens 10 rfl) ml_X10_131 iv_X4_refusedToken rfl rfl rfl rfl rfl (Nat.le_of_ble_eq_true rfl) hM ?_
  obtain ⟨x38, t37, hq, h⟩ := pm_bd_i h
  have hM := w_C_X6_start_3 (d := d + 169) (h := hq)
  refine hq_callVi (a := 3) (ci := 6) [.int x36] [.int (-1 : Int32), .ref 0] (pm_d rk_X10_answerForTokens 11 rfl) ml_X10_134 iv_X6_start rfl rfl rfl rfl rfl (Nat.le_of_ble_eq_true rfl) hM ?_
  obtain ⟨x40, t39, hq, h⟩ := pm_bd_i h
  have hM := w_C_X10_fault_0 (d := d + 170) (h := hq)
  refine hq_callVi (a := 0) (ci := 10) [.int (-1 : Int32), .int x38] [] (pm_d rk_X10_answerForTokens 12 rfl) ml_X10_138 iv_X10_fault rfl rfl rfl rfl rfl (Nat.le_of_ble_eq_true rfl) hM ?_
  show hp_go _ _ _ _ _ 29 _ _ _
  exact hq_iret (pm_d rk_X10_answerForTokens 13 rfl) rfl h
def f_C_X5_clear_1  (s : hp_S) : Option hp_S :=
  pm_let (hs_pI s 1 1 (0 : Int32)) (fun t1 =>
  some t1)
set_option maxRecDepth 100000 in
set_option maxHeartbeats 400000 in
theorem w_C_X5_clear_1 (d : Nat)  (s s1 : hp_S) (h : f_C_X5_clear_1 s = some s1) : hp_is sh_C me_X5_clear (d + 0) [.ref 1] s none s1 := by
  refine hp_ofF [(0, .ref 1)] (by decide +kernel) (Nat.le_of_ble_eq_true rfl) rfl ?_
  unfold f_C_X5_clear_1 at h
  refine hq_aload_n (pm_d rk_X5_clear 0 rfl) rfl 0 rfl ?_
  refine hq_iconst (v := (0 : Int32)) (pm_d rk_X5_clear 1 rfl) (by decide) ?_
  refine hq_putI 1 (pm_d rk_X5_clear 2 rfl) fl_X5_15 rfl rfl ?_
  refine pm_nm (G := fun t1 => hp_go sh_C me_X5_clear (d + 0) none s1 5 [(0, .ref 1)] [] t1) h (fun t1 h => ?_)
  exact hq_vret (pm_d rk_X5_clear 3 rfl) rfl h
def f_C_X10_judge_0 (n : Nat) (s : hp_S) : Option (Int32 × hp_S) :=
  pm_b1 (f_C_X10_forgetLastText_0 n s) (fun t1 =>
  pm_b1 (f_C_X6_read_3 n t1) (fun t2 =>
  pm_bd (f_C_X10_answerForTokens_0 n t2) (fun x4 t3 =>
  pm_b1 (f_C_X5_clear_1 t3) (fun t5 =>
  some (x4, t5)))))
set_option maxRecDepth 100000 in
set_option maxHeartbeats 400000 in
theorem w_C_X10_judge_0 (d : Nat) (n : Nat) (s s1 : hp_S) (x0 : Int32) (h : f_C_X10_judge_0 n s = some (x0, s1)) : hp_is sh_C me_X10_judge (d + 172) [.ref 0] s (some (.int x0)) s1 := by
  refine hp_ofF [(0, .ref 0)] (by decide +kernel) (Nat.le_of_ble_eq_true rfl) rfl ?_
  unfold f_C_X10_judge_0 at h
  refine hq_aload_n (pm_d rk_X10_judge 0 rfl) rfl 0 rfl ?_
  obtain ⟨t1, hq, h⟩ := pm_b1_i h
  have hM := w_C_X10_forgetLastText_0 (d := d + 170) (h := hq)
  refine hq_callVv (a := 0) (ci := 10) [] [] (pm_d rk_X10_judge 1 rfl) ml_X10_107 iv_X10_forgetLastText rfl rfl rfl rfl rfl (Nat.le_of_ble_eq_true rfl) hM ?_
  refine hq_aload_n (pm_d rk_X10_judge 2 rfl) rfl 0 rfl ?_
  refine hq_getR (h := 3) 1 (pm_d rk_X10_judge 3 rfl) fl_X10_21 rfl rfl ?_
  obtain ⟨t2, hq, h⟩ := pm_b1_i h
  have hM := w_C_X6_read_3 (d := d + 163) (h := hq)
  refine hq_callVv (a := 3) (ci := 6) [] [] (pm_d rk_X10_judge 4 rfl) ml_X10_110 iv_X6_read rfl rfl rfl rfl rfl (Nat.le_of_ble_eq_true rfl) hM ?_
  show hp_go _ _ _ _ _ 11 _ _ _
  refine hq_aload_n (pm_d rk_X10_judge 5 rfl) rfl 0 rfl ?_
  obtain ⟨x4, t3, hq, h⟩ := pm_bd_i h
  have hM := w_C_X10_answerForTokens_0 (d := d + 0) (h := hq)
  refine hq_callVi (a := 0) (ci := 10) [] [] (pm_d rk_X10_judge 6 rfl) ml_X10_113 iv_X10_answerForTokens rfl rfl rfl rfl rfl (Nat.le_of_ble_eq_true rfl) hM ?_
  refine hq_istore_n (L1 := [(1, .int x4), (0, .ref 0)]) (pm_d rk_X10_judge 7 rfl) rfl (by decide) rfl ?_
  refine hq_aload_n (pm_d rk_X10_judge 8 rfl) rfl 1 rfl ?_
  refine hq_getR (h := 1) 0 (pm_d rk_X10_judge 9 rfl) fl_X10_10 rfl rfl ?_
  obtain ⟨t5, hq, h⟩ := pm_b1_i h
  have hM := w_C_X5_clear_1 (d := d + 171) (h := hq)
  refine hq_callVv (a := 1) (ci := 5) [] [] (pm_d rk_X10_judge 10 rfl) ml_X10_116 iv_X5_clear rfl rfl rfl rfl rfl (Nat.le_of_ble_eq_true rfl) hM ?_
  show hp_go _ _ _ _ _ 23 _ _ _
  refine hq_iload_n (pm_d rk_X10_judge 11 rfl) rfl 0 rfl ?_
  exact hq_iret (pm_d rk_X10_judge 12 rfl) rfl h
