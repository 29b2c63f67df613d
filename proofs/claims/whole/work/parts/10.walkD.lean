def f_M_X11_place_0  (s : hp_S) : Option (Int32 × hp_S) :=
  some ((hs_I s 0 4), s)
set_option maxRecDepth 100000 in
set_option maxHeartbeats 400000 in
theorem w_M_X11_place_0 (d : Nat)  (s s1 : hp_S) (x0 : Int32) (h : f_M_X11_place_0 s = some (x0, s1)) : hp_is sh_M me_X11_place (d + 0) [.ref 0] s (some (.int x0)) s1 := by
  refine hp_ofF [(0, .ref 0)] (by decide +kernel) (Nat.le_of_ble_eq_true rfl) rfl ?_
  unfold f_M_X11_place_0 at h
  refine hq_aload_n (pm_d rk_X11_place 0 rfl) rfl 0 rfl ?_
  refine hq_getI 4 (pm_d rk_X11_place 1 rfl) fl_X11_16 rfl rfl ?_
  exact hq_iret (pm_d rk_X11_place 2 rfl) rfl h
def f_M_X11_isIn_0 (a1 : Int32) (s : hp_S) : Option (Int32 × hp_S) :=
  if (hs_I s 0 49) = 0 then
    some ((0 : Int32), s)
  else
    if a1 < 0 then
      some ((0 : Int32), s)
    else
      if (hs_I s 0 12) ≤ a1 then
        some ((0 : Int32), s)
      else
        pm_gd1 (pm_ib a1 101) (
        if (hs_A s 30 a1.toNatClampNeg) = 0 then
          some ((0 : Int32), s)
        else
          some ((1 : Int32), s))
set_option maxRecDepth 100000 in
set_option maxHeartbeats 400000 in
theorem w_M_X11_isIn_0 (d : Nat) (a1 : Int32) (s s1 : hp_S) (x0 : Int32) (h : f_M_X11_isIn_0 a1 s = some (x0, s1)) : hp_is sh_M me_X11_isIn (d + 0) [.ref 0, .int a1] s (some (.int x0)) s1 := by
  refine hp_ofF [(0, .ref 0), (1, .int a1)] (by decide +kernel) (Nat.le_of_ble_eq_true rfl) rfl ?_
  unfold f_M_X11_isIn_0 at h
  refine hq_aload_n (pm_d rk_X11_isIn 0 rfl) rfl 0 rfl ?_
  refine hq_getI 49 (pm_d rk_X11_isIn 1 rfl) fl_X11_340 rfl rfl ?_
  refine hq_if_eq 32 (pm_d rk_X11_isIn 2 rfl) (by decide) (fun hc => ?_) (fun hc => ?_)
  · rw [if_pos hc] at h
    refine hq_iconst (v := (0 : Int32)) (pm_d rk_X11_isIn 16 rfl) (by decide) ?_
    exact hq_zret (pm_d rk_X11_isIn 17 rfl) rfl rfl h
  rw [if_neg hc] at h
  show hp_go _ _ _ _ _ 7 _ _ _
  refine hq_iload_n (pm_d rk_X11_isIn 3 rfl) rfl 1 rfl ?_
  refine hq_if_lt 32 (pm_d rk_X11_isIn 4 rfl) (by decide) (fun hc => ?_) (fun hc => ?_)
  · rw [if_pos hc] at h
    refine hq_iconst (v := (0 : Int32)) (pm_d rk_X11_isIn 16 rfl) (by decide) ?_
    exact hq_zret (pm_d rk_X11_isIn 17 rfl) rfl rfl h
  rw [if_neg hc] at h
  refine hq_iload_n (pm_d rk_X11_isIn 5 rfl) rfl 1 rfl ?_
  refine hq_aload_n (pm_d rk_X11_isIn 6 rfl) rfl 0 rfl ?_
  show hp_go _ _ _ _ _ 13 _ _ _
  refine hq_getI 12 (pm_d rk_X11_isIn 7 rfl) fl_X11_196 rfl rfl ?_
  refine hq_icmp_ge 32 (pm_d rk_X11_isIn 8 rfl) (by decide) (fun hc => ?_) (fun hc => ?_)
  · rw [if_pos hc] at h
    refine hq_iconst (v := (0 : Int32)) (pm_d rk_X11_isIn 16 rfl) (by decide) ?_
    exact hq_zret (pm_d rk_X11_isIn 17 rfl) rfl rfl h
  rw [if_neg hc] at h
  refine hq_aload_n (pm_d rk_X11_isIn 9 rfl) rfl 0 rfl ?_
  refine hq_getR (h := 30) 43 (pm_d rk_X11_isIn 10 rfl) fl_X11_103 rfl rfl ?_
  show hp_go _ _ _ _ _ 23 _ _ _
  refine hq_iload_n (pm_d rk_X11_isIn 11 rfl) rfl 1 rfl ?_
  obtain ⟨hg, h⟩ := pm_gd_i h
  refine hq_zaload (pm_d rk_X11_isIn 12 rfl) rfl hg ?_
  refine hq_if_eq 32 (pm_d rk_X11_isIn 13 rfl) (by decide) (fun hc => ?_) (fun hc => ?_)
  · rw [if_pos hc] at h
    refine hq_iconst (v := (0 : Int32)) (pm_d rk_X11_isIn 16 rfl) (by decide) ?_
    exact hq_zret (pm_d rk_X11_isIn 17 rfl) rfl rfl h
  rw [if_neg hc] at h
  refine hq_iconst (v := (1 : Int32)) (pm_d rk_X11_isIn 14 rfl) (by decide) ?_
  show hp_go _ _ _ _ _ 29 _ _ _
  refine hq_goto 33 (pm_d rk_X11_isIn 15 rfl) (by decide) ?_
  exact hq_zret (pm_d rk_X11_isIn 17 rfl) rfl rfl h
def l_M_X11_put_0_30 : Nat → Int64 → Int32 → hp_S → Option (Int32 × hp_S)
  | 0, _, _, _ => none
  | n + 1, y1, y4, s =>
    if y4 < 0 then
      some ((1 : Int32), s)
    else
      pm_gd1 (pm_ib (hs_I s 0 1) 500) (
      pm_let (hs_pA s 1 (hs_I s 0 1).toNatClampNeg (vp_nar .byte (((y1 >>> (((8 : Int32) * y4).toInt64 &&& 63)).toInt32).toInt8.toInt32))) (fun t2 =>
      pm_let (hs_pI t2 0 1 ((hs_I t2 0 1) + (1 : Int32))) (fun t3 =>
      pm_let (y4 + (-1 : Int32)) (fun x4 =>
      l_M_X11_put_0_30 n y1 x4 t3))))
set_option maxRecDepth 100000 in
set_option maxHeartbeats 400000 in
theorem wl_M_X11_put_0_30 (d : Nat) (s1 : hp_S) (x0 : Int32)  : ∀ (n : Nat) (y1 : Int64) (y4 : Int32) (s : hp_S), l_M_X11_put_0_30 n y1 y4 s = some (x0, s1) → hp_go sh_M me_X11_put (d + 0) (some (.int x0)) s1 30 [(0, .ref 0), (1, .long y1), (4, .int y4)] [] s := by
  intro n
  induction n with
  | zero =>
    intro y1 y4 s h
    cases h
  | succ n ih =>
    intro y1 y4 s h
    rw [l_M_X11_put_0_30.eq_2] at h
    refine hq_iload (pm_d rk_X11_put 18 rfl) 2 rfl ?_
    refine hq_if_lt 69 (pm_d rk_X11_put 19 rfl) (by decide) (fun hc => ?_) (fun hc => ?_)
    · rw [if_pos hc] at h
      refine hq_iconst (v := (1 : Int32)) (pm_d rk_X11_put 40 rfl) (by decide) ?_
      show hp_go _ _ _ _ _ 70 _ _ _
      exact hq_zret (pm_d rk_X11_put 41 rfl) rfl rfl h
    rw [if_neg hc] at h
    refine hq_aload_n (pm_d rk_X11_put 20 rfl) rfl 0 rfl ?_
    refine hq_getR (h := 1) 0 (pm_d rk_X11_put 21 rfl) fl_X11_7 rfl rfl ?_
    refine hq_aload_n (pm_d rk_X11_put 22 rfl) rfl 0 rfl ?_
    refine hq_getI 1 (pm_d rk_X11_put 23 rfl) fl_X11_127 rfl rfl ?_
    refine hq_lload_n (pm_d rk_X11_put 24 rfl) rfl 1 rfl ?_
    show hp_go _ _ _ _ _ 44 _ _ _
    refine hq_bipush (v := (8 : Int32)) (pm_d rk_X11_put 25 rfl) (by decide) ?_
    refine hq_iload (pm_d rk_X11_put 26 rfl) 2 rfl ?_
    refine hq_imul (pm_d rk_X11_put 27 rfl) ?_
    refine hq_lshr (pm_d rk_X11_put 28 rfl) ?_
    refine hq_l2i (pm_d rk_X11_put 29 rfl) ?_
    refine hq_i2b (pm_d rk_X11_put 30 rfl) ?_
    show hp_go _ _ _ _ _ 52 _ _ _
    obtain ⟨hg, h⟩ := pm_gd_i h
    refine hq_bastore (pm_d rk_X11_put 31 rfl) rfl hg ?_
    refine pm_nm (G := fun t2 => hp_go sh_M me_X11_put (d + 0) (some (.int x0)) s1 53 [(0, .ref 0), (1, .long y1), (4, .int y4)] [] t2) h (fun t2 h => ?_)
    refine hq_aload_n (pm_d rk_X11_put 32 rfl) rfl 0 rfl ?_
    refine hq_dup (pm_d rk_X11_put 33 rfl) rfl ?_
    refine hq_getI 1 (pm_d rk_X11_put 34 rfl) fl_X11_127 rfl rfl ?_
    refine hq_iconst (v := (1 : Int32)) (pm_d rk_X11_put 35 rfl) (by decide) ?_
    refine hq_iadd (pm_d rk_X11_put 36 rfl) ?_
    show hp_go _ _ _ _ _ 60 _ _ _
    refine hq_putI 1 (pm_d rk_X11_put 37 rfl) fl_X11_127 rfl rfl ?_
    refine pm_nm (G := fun t3 => hp_go sh_M me_X11_put (d + 0) (some (.int x0)) s1 63 [(0, .ref 0), (1, .long y1), (4, .int y4)] [] t3) h (fun t3 h => ?_)
    refine hq_iinc (v := y4 + (-1 : Int32)) (L1 := [(4, .int (y4 + (-1 : Int32))), (0, .ref 0), (1, .long y1)]) (pm_d rk_X11_put 38 rfl) 2 rfl (by rw [show Int32.ofInt (-1) = (-1 : Int32) by decide]) (by decide) rfl ?_
    refine pm_nm (G := fun x4 => hp_go sh_M me_X11_put (d + 0) (some (.int x0)) s1 66 [(4, .int x4), (0, .ref 0), (1, .long y1)] [] t3) h (fun x4 h => ?_)
    refine hq_goto 30 (pm_d rk_X11_put 39 rfl) (by decide) ?_
    refine hq_drop [1, 2, 0] rfl ?_
    exact ih _ _ _ h
def f_M_X11_put_0 (n : Nat) (a1 : Int64) (a3 : Int32) (s : hp_S) : Option (Int32 × hp_S) :=
  if a3 < (1 : Int32) then
    some ((0 : Int32), s)
  else
    if (8 : Int32) < a3 then
      some ((0 : Int32), s)
    else
      if ((hs_I s 0 1) + a3) ≤ (500 : Int32) then
        pm_let (a3 - (1 : Int32)) (fun x1 =>
        l_M_X11_put_0_30 n a1 x1 s)
      else
        some ((0 : Int32), s)
set_option maxRecDepth 100000 in
set_option maxHeartbeats 400000 in
theorem w_M_X11_put_0 (d : Nat) (n : Nat) (a1 : Int64) (a3 : Int32) (s s1 : hp_S) (x0 : Int32) (h : f_M_X11_put_0 n a1 a3 s = some (x0, s1)) : hp_is sh_M me_X11_put (d + 0) [.ref 0, .long a1, .int a3] s (some (.int x0)) s1 := by
  refine hp_ofF [(0, .ref 0), (1, .long a1), (3, .int a3)] (by decide +kernel) (Nat.le_of_ble_eq_true rfl) rfl ?_
  unfold f_M_X11_put_0 at h
  refine hq_iload_n (pm_d rk_X11_put 0 rfl) rfl 2 rfl ?_
  refine hq_iconst (v := (1 : Int32)) (pm_d rk_X11_put 1 rfl) (by decide) ?_
  refine hq_icmp_lt 23 (pm_d rk_X11_put 2 rfl) (by decide) (fun hc => ?_) (fun hc => ?_)
  · rw [if_pos hc] at h
    refine hq_iconst (v := (0 : Int32)) (pm_d rk_X11_put 12 rfl) (by decide) ?_
    exact hq_zret (pm_d rk_X11_put 13 rfl) rfl rfl h
  rw [if_neg hc] at h
  show hp_go _ _ _ _ _ 5 _ _ _
  refine hq_iload_n (pm_d rk_X11_put 3 rfl) rfl 2 rfl ?_
  refine hq_bipush (v := (8 : Int32)) (pm_d rk_X11_put 4 rfl) (by decide) ?_
  refine hq_icmp_gt 23 (pm_d rk_X11_put 5 rfl) (by decide) (fun hc => ?_) (fun hc => ?_)
  · rw [if_pos hc] at h
    refine hq_iconst (v := (0 : Int32)) (pm_d rk_X11_put 12 rfl) (by decide) ?_
    exact hq_zret (pm_d rk_X11_put 13 rfl) rfl rfl h
  rw [if_neg hc] at h
  refine hq_aload_n (pm_d rk_X11_put 6 rfl) rfl 0 rfl ?_
  show hp_go _ _ _ _ _ 12 _ _ _
  refine hq_getI 1 (pm_d rk_X11_put 7 rfl) fl_X11_127 rfl rfl ?_
  refine hq_iload_n (pm_d rk_X11_put 8 rfl) rfl 2 rfl ?_
  refine hq_iadd (pm_d rk_X11_put 9 rfl) ?_
  refine hq_sipush (v := (500 : Int32)) (pm_d rk_X11_put 10 rfl) (by decide) ?_
  refine hq_icmp_le 25 (pm_d rk_X11_put 11 rfl) (by decide) (fun hc => ?_) (fun hc => ?_)
  · rw [if_pos hc] at h
    refine hq_iload_n (pm_d rk_X11_put 14 rfl) rfl 2 rfl ?_
    show hp_go _ _ _ _ _ 26 _ _ _
    refine hq_iconst (v := (1 : Int32)) (pm_d rk_X11_put 15 rfl) (by decide) ?_
    refine hq_isub (pm_d rk_X11_put 16 rfl) ?_
    refine pm_nm (G := fun x1 => hp_go sh_M me_X11_put (d + 0) (some (.int x0)) s1 28 [(0, .ref 0), (1, .long a1), (3, .int a3)] [.int x1] s) h (fun x1 h => ?_)
    refine hq_istore (L1 := [(4, .int x1), (0, .ref 0), (1, .long a1), (3, .int a3)]) (pm_d rk_X11_put 17 rfl) (by decide) rfl ?_
    refine hq_drop [1, 2, 0] rfl ?_
    exact wl_M_X11_put_0_30 d _ _   _ _ _ _ h
  rw [if_neg hc] at h
  refine hq_iconst (v := (0 : Int32)) (pm_d rk_X11_put 12 rfl) (by decide) ?_
  exact hq_zret (pm_d rk_X11_put 13 rfl) rfl rfl h
def l_M_X11_count_0_4 : Nat → Int32 → Int32 → Int32 → hp_S → Option (Int32 × hp_S)
  | 0, _, _, _, _ => none
  | n + 1, y1, y2, y3, s =>
    pm_let (fun (z42_1 : Int32) (z42_2 : Int32) (s : hp_S) =>
      if z42_1 = 0 then
        some ((hs_I s 0 1), s)
      else
        if z42_1 = (1 : Int32) then
          some ((hs_I s 0 12), s)
        else
          if z42_1 = (2 : Int32) then
            some (z42_2, s)
          else
            if z42_1 = (3 : Int32) then
              some ((hs_I s 0 32), s)
            else
              if z42_1 = (4 : Int32) then
                some ((hs_I s 0 46), s)
              else
                some ((-1 : Int32), s)) (fun j42 =>
    if (hs_I s 0 12) ≤ y3 then
      j42 y1 y2 s
    else
      if (hs_I s 0 49) = 0 then
        j42 y1 y2 s
      else
        pm_gd1 (pm_ib y3 101) (
        pm_let (fun (z34_1 : Int32) (z34_3 : Int32) (z34_S0 : Int32) (z34_S1 : Int32) (s : hp_S) =>
          pm_let (z34_S1 + z34_S0) (fun x1 =>
          pm_let (z34_3 + (1 : Int32)) (fun x2 =>
          l_M_X11_count_0_4 n z34_1 x1 x2 s))) (fun j34 =>
        if (hs_A s 30 y3.toNatClampNeg) = 0 then
          j34 y1 y3 (0 : Int32) y2 s
        else
          j34 y1 y3 (1 : Int32) y2 s)))
set_option maxRecDepth 100000 in
set_option maxHeartbeats 400000 in
theorem wl_M_X11_count_0_4 (d : Nat) (s1 : hp_S) (x0 : Int32)  : ∀ (n : Nat) (y1 : Int32) (y2 : Int32) (y3 : Int32) (s : hp_S), l_M_X11_count_0_4 n y1 y2 y3 s = some (x0, s1) → hp_go sh_M me_X11_count (d + 0) (some (.int x0)) s1 4 [(0, .ref 0), (1, .int y1), (2, .int y2), (3, .int y3)] [] s := by
  intro n
  induction n with
  | zero =>
    intro y1 y2 y3 s h
    cases h
  | succ n ih =>
    intro y1 y2 y3 s h
    rw [l_M_X11_count_0_4.eq_2] at h
    refine hq_iload_n (pm_d rk_X11_count 4 rfl) rfl 3 rfl ?_
    show hp_go _ _ _ _ _ 5 _ _ _
    refine hq_aload_n (pm_d rk_X11_count 5 rfl) rfl 0 rfl ?_
    refine hq_getI 12 (pm_d rk_X11_count 6 rfl) fl_X11_196 rfl rfl ?_
    refine pm_jn (P := fun j42 => ∀ (z42_1 : Int32) (z42_2 : Int32) (s : hp_S), j42 z42_1 z42_2 s = some (x0, s1) → hp_go sh_M me_X11_count (d + 0) (some (.int x0)) s1 42 [(0, .ref 0), (1, .int z42_1), (2, .int z42_2)] [] s) h ?_ (fun j42 hj42 h => ?_)
    · intro z42_1 z42_2 s h
      dsimp only at h
      refine hq_iload_n (pm_d rk_X11_count 24 rfl) rfl 1 rfl ?_
      refine hq_if_ne 53 (pm_d rk_X11_count 25 rfl) (by decide) (fun hc => ?_) (fun hc => ?_)
      · rw [if_neg hc] at h
        refine hq_iload_n (pm_d rk_X11_count 29 rfl) rfl 1 rfl ?_
        refine hq_iconst (v := (1 : Int32)) (pm_d rk_X11_count 30 rfl) (by decide) ?_
        show hp_go _ _ _ _ _ 55 _ _ _
        refine hq_icmp_ne 65 (pm_d rk_X11_count 31 rfl) (by decide) (fun hc => ?_) (fun hc => ?_)
        · rw [if_neg hc] at h
          refine hq_iload_n (pm_d rk_X11_count 35 rfl) rfl 1 rfl ?_
          refine hq_iconst (v := (2 : Int32)) (pm_d rk_X11_count 36 rfl) (by decide) ?_
          refine hq_icmp_ne 74 (pm_d rk_X11_count 37 rfl) (by decide) (fun hc => ?_) (fun hc => ?_)
          · rw [if_neg hc] at h
            refine hq_iload_n (pm_d rk_X11_count 40 rfl) rfl 1 rfl ?_
            refine hq_iconst (v := (3 : Int32)) (pm_d rk_X11_count 41 rfl) (by decide) ?_
            show hp_go _ _ _ _ _ 76 _ _ _
            refine hq_icmp_ne 86 (pm_d rk_X11_count 42 rfl) (by decide) (fun hc => ?_) (fun hc => ?_)
            · rw [if_neg hc] at h
              refine hq_iload_n (pm_d rk_X11_count 46 rfl) rfl 1 rfl ?_
              refine hq_iconst (v := (4 : Int32)) (pm_d rk_X11_count 47 rfl) (by decide) ?_
              refine hq_icmp_ne 98 (pm_d rk_X11_count 48 rfl) (by decide) (fun hc => ?_) (fun hc => ?_)
              · rw [if_neg hc] at h
                refine hq_iconst (v := (-1 : Int32)) (pm_d rk_X11_count 52 rfl) (by decide) ?_
                exact hq_iret (pm_d rk_X11_count 53 rfl) rfl h
              rw [if_pos hc] at h
              show hp_go _ _ _ _ _ 91 _ _ _
              refine hq_aload_n (pm_d rk_X11_count 49 rfl) rfl 0 rfl ?_
              refine hq_getI 46 (pm_d rk_X11_count 50 rfl) fl_X11_304 rfl rfl ?_
              refine hq_goto 99 (pm_d rk_X11_count 51 rfl) (by decide) ?_
              exact hq_iret (pm_d rk_X11_count 53 rfl) rfl h
            rw [if_pos hc] at h
            refine hq_aload_n (pm_d rk_X11_count 43 rfl) rfl 0 rfl ?_
            refine hq_getI 32 (pm_d rk_X11_count 44 rfl) fl_X11_253 rfl rfl ?_
            show hp_go _ _ _ _ _ 83 _ _ _
            refine hq_goto 99 (pm_d rk_X11_count 45 rfl) (by decide) ?_
            exact hq_iret (pm_d rk_X11_count 53 rfl) rfl h
          rw [if_pos hc] at h
          refine hq_iload_n (pm_d rk_X11_count 38 rfl) rfl 2 rfl ?_
          refine hq_goto 99 (pm_d rk_X11_count 39 rfl) (by decide) ?_
          exact hq_iret (pm_d rk_X11_count 53 rfl) rfl h
        rw [if_pos hc] at h
        refine hq_aload_n (pm_d rk_X11_count 32 rfl) rfl 0 rfl ?_
        show hp_go _ _ _ _ _ 59 _ _ _
        refine hq_getI 12 (pm_d rk_X11_count 33 rfl) fl_X11_196 rfl rfl ?_
        refine hq_goto 99 (pm_d rk_X11_count 34 rfl) (by decide) ?_
        exact hq_iret (pm_d rk_X11_count 53 rfl) rfl h
      rw [if_pos hc] at h
      refine hq_aload_n (pm_d rk_X11_count 26 rfl) rfl 0 rfl ?_
      refine hq_getI 1 (pm_d rk_X11_count 27 rfl) fl_X11_127 rfl rfl ?_
      refine hq_goto 99 (pm_d rk_X11_count 28 rfl) (by decide) ?_
      show hp_go _ _ _ _ _ 99 _ _ _
      exact hq_iret (pm_d rk_X11_count 53 rfl) rfl h
    refine hq_icmp_ge 42 (pm_d rk_X11_count 7 rfl) (by decide) (fun hc => ?_) (fun hc => ?_)
    · rw [if_pos hc] at h
      refine hq_drop [0, 1, 2] rfl ?_
      exact hj42 _ _ _ h
    rw [if_neg hc] at h
    refine hq_aload_n (pm_d rk_X11_count 8 rfl) rfl 0 rfl ?_
    refine hq_getI 49 (pm_d rk_X11_count 9 rfl) fl_X11_340 rfl rfl ?_
    refine hq_if_eq 42 (pm_d rk_X11_count 10 rfl) (by decide) (fun hc => ?_) (fun hc => ?_)
    · rw [if_pos hc] at h
      refine hq_drop [0, 1, 2] rfl ?_
      exact hj42 _ _ _ h
    rw [if_neg hc] at h
    refine hq_iload_n (pm_d rk_X11_count 11 rfl) rfl 2 rfl ?_
    show hp_go _ _ _ _ _ 20 _ _ _
    refine hq_aload_n (pm_d rk_X11_count 12 rfl) rfl 0 rfl ?_
    refine hq_getR (h := 30) 43 (pm_d rk_X11_count 13 rfl) fl_X11_103 rfl rfl ?_
    refine hq_iload_n (pm_d rk_X11_count 14 rfl) rfl 3 rfl ?_
    obtain ⟨hg, h⟩ := pm_gd_i h
    refine hq_zaload (pm_d rk_X11_count 15 rfl) rfl hg ?_
    refine pm_jn (P := fun j34 => ∀ (z34_1 : Int32) (z34_3 : Int32) (z34_S0 : Int32) (z34_S1 : Int32) (s : hp_S), j34 z34_1 z34_3 z34_S0 z34_S1 s = some (x0, s1) → hp_go sh_M me_X11_count (d + 0) (some (.int x0)) s1 34 [(0, .ref 0), (1, .int z34_1), (3, .int z34_3)] [.int z34_S0, .int z34_S1] s) h ?_ (fun j34 hj34 h => ?_)
    · intro z34_1 z34_3 z34_S0 z34_S1 s h
      dsimp only at h
      refine hq_iadd (pm_d rk_X11_count 20 rfl) ?_
      refine pm_nm (G := fun x1 => hp_go sh_M me_X11_count (d + 0) (some (.int x0)) s1 35 [(0, .ref 0), (1, .int z34_1), (3, .int z34_3)] [.int x1] s) h (fun x1 h => ?_)
      refine hq_istore_n (L1 := [(2, .int x1), (0, .ref 0), (1, .int z34_1), (3, .int z34_3)]) (pm_d rk_X11_count 21 rfl) rfl (by decide) rfl ?_
      show hp_go _ _ _ _ _ 36 _ _ _
      refine hq_iinc (v := z34_3 + (1 : Int32)) (L1 := [(3, .int (z34_3 + (1 : Int32))), (2, .int x1), (0, .ref 0), (1, .int z34_1)]) (pm_d rk_X11_count 22 rfl) 3 rfl (by rw [show Int32.ofInt (1) = (1 : Int32) by decide]) (by decide) rfl ?_
      refine pm_nm (G := fun x2 => hp_go sh_M me_X11_count (d + 0) (some (.int x0)) s1 39 [(3, .int x2), (2, .int x1), (0, .ref 0), (1, .int z34_1)] [] s) h (fun x2 h => ?_)
      refine hq_goto 4 (pm_d rk_X11_count 23 rfl) (by decide) ?_
      refine hq_drop [2, 3, 1, 0] rfl ?_
      exact ih _ _ _ _ h
    refine hq_if_eq 33 (pm_d rk_X11_count 16 rfl) (by decide) (fun hc => ?_) (fun hc => ?_)
    · rw [if_pos hc] at h
      refine hq_iconst (v := (0 : Int32)) (pm_d rk_X11_count 19 rfl) (by decide) ?_
      refine hq_drop [0, 1, 3] rfl ?_
      exact hj34 _ _ _ _ _ h
    rw [if_neg hc] at h
    refine hq_iconst (v := (1 : Int32)) (pm_d rk_X11_count 17 rfl) (by decide) ?_
    refine hq_goto 34 (pm_d rk_X11_count 18 rfl) (by decide) ?_
    refine hq_drop [0, 1, 3] rfl ?_
    exact hj34 _ _ _ _ _ h
def f_M_X11_count_0 (n : Nat) (a1 : Int32) (s : hp_S) : Option (Int32 × hp_S) :=
  l_M_X11_count_0_4 n a1 (0 : Int32) (0 : Int32) s
set_option maxRecDepth 100000 in
set_option maxHeartbeats 400000 in
theorem w_M_X11_count_0 (d : Nat) (n : Nat) (a1 : Int32) (s s1 : hp_S) (x0 : Int32) (h : f_M_X11_count_0 n a1 s = some (x0, s1)) : hp_is sh_M me_X11_count (d + 0) [.ref 0, .int a1] s (some (.int x0)) s1 := by
  refine hp_ofF [(0, .ref 0), (1, .int a1)] (by decide +kernel) (Nat.le_of_ble_eq_true rfl) rfl ?_
  unfold f_M_X11_count_0 at h
  refine hq_iconst (v := (0 : Int32)) (pm_d rk_X11_count 0 rfl) (by decide) ?_
  refine hq_istore_n (L1 := [(2, .int (0 : Int32)), (0, .ref 0), (1, .int a1)]) (pm_d rk_X11_count 1 rfl) rfl (by decide) rfl ?_
  refine hq_iconst (v := (0 : Int32)) (pm_d rk_X11_count 2 rfl) (by decide) ?_
  refine hq_istore_n (L1 := [(3, .int (0 : Int32)), (2, .int (0 : Int32)), (0, .ref 0), (1, .int a1)]) (pm_d rk_X11_count 3 rfl) rfl (by decide) rfl ?_
  refine hq_drop [2, 3, 1, 0] rfl ?_
  exact wl_M_X11_count_0_4 d _ _   _ _ _ _ _ h
def l_M_X11_fetch_0_67 : Nat → Int32 → Int64 → Int32 → hp_S → Option (Int64 × hp_S)
  | 0, _, _, _, _ => none
  | n + 1, y1, y2, y4, s =>
    if (hs_I s 0 46) ≤ y4 then
      pm_let (hs_pI s 0 46 ((hs_I s 0 46) - y1)) (fun t2 =>
      if y1 = 0 then
        some ((0 : Int64), t2)
      else
        some (y2, t2))
    else
      pm_gd1 (pm_ib y4 4000) (
      pm_gd1 (pm_ib (y4 - y1) 4000) (
      pm_let (hs_pA s 32 (y4 - y1).toNatClampNeg (vp_nar .byte (hs_A s 32 y4.toNatClampNeg))) (fun t3 =>
      pm_let (y4 + (1 : Int32)) (fun x4 =>
      l_M_X11_fetch_0_67 n y1 y2 x4 t3))))
set_option maxRecDepth 100000 in
set_option maxHeartbeats 400000 in
theorem wl_M_X11_fetch_0_67 (d : Nat) (s1 : hp_S) (x0 : Int64)  : ∀ (n : Nat) (y1 : Int32) (y2 : Int64) (y4 : Int32) (s : hp_S), l_M_X11_fetch_0_67 n y1 y2 y4 s = some (x0, s1) → hp_go sh_M me_X11_fetch (d + 0) (some (.long x0)) s1 67 [(0, .ref 0), (1, .int y1), (2, .long y2), (4, .int y4)] [] s := by
  intro n
  induction n with
  | zero =>
    intro y1 y2 y4 s h
    cases h
  | succ n ih =>
    intro y1 y2 y4 s h
    rw [l_M_X11_fetch_0_67.eq_2] at h
    refine hq_iload (pm_d rk_X11_fetch 39 rfl) 3 rfl ?_
    show hp_go _ _ _ _ _ 69 _ _ _
    refine hq_aload_n (pm_d rk_X11_fetch 40 rfl) rfl 0 rfl ?_
    refine hq_getI 46 (pm_d rk_X11_fetch 41 rfl) fl_X11_304 rfl rfl ?_
    refine hq_icmp_ge 98 (pm_d rk_X11_fetch 42 rfl) (by decide) (fun hc => ?_) (fun hc => ?_)
    · rw [if_pos hc] at h
      refine hq_aload_n (pm_d rk_X11_fetch 55 rfl) rfl 0 rfl ?_
      refine hq_aload_n (pm_d rk_X11_fetch 56 rfl) rfl 0 rfl ?_
      refine hq_getI 46 (pm_d rk_X11_fetch 57 rfl) fl_X11_304 rfl rfl ?_
      show hp_go _ _ _ _ _ 103 _ _ _
      refine hq_iload_n (pm_d rk_X11_fetch 58 rfl) rfl 1 rfl ?_
      refine hq_isub (pm_d rk_X11_fetch 59 rfl) ?_
      refine hq_putI 46 (pm_d rk_X11_fetch 60 rfl) fl_X11_304 rfl rfl ?_
      refine pm_nm (G := fun t2 => hp_go sh_M me_X11_fetch (d + 0) (some (.long x0)) s1 108 [(0, .ref 0), (1, .int y1), (2, .long y2), (4, .int y4)] [] t2) h (fun t2 h => ?_)
      refine hq_iload_n (pm_d rk_X11_fetch 61 rfl) rfl 1 rfl ?_
      refine hq_if_ne 116 (pm_d rk_X11_fetch 62 rfl) (by decide) (fun hc => ?_) (fun hc => ?_)
      · rw [if_neg hc] at h
        refine hq_lload_n (pm_d rk_X11_fetch 65 rfl) rfl 2 rfl ?_
        show hp_go _ _ _ _ _ 117 _ _ _
        exact hq_lret (pm_d rk_X11_fetch 66 rfl) rfl h
      rw [if_pos hc] at h
      refine hq_lconst (v := (0 : Int64)) (pm_d rk_X11_fetch 63 rfl) (by decide) ?_
      refine hq_goto 117 (pm_d rk_X11_fetch 64 rfl) (by decide) ?_
      exact hq_lret (pm_d rk_X11_fetch 66 rfl) rfl h
    rw [if_neg hc] at h
    refine hq_aload_n (pm_d rk_X11_fetch 43 rfl) rfl 0 rfl ?_
    refine hq_getR (h := 32) 45 (pm_d rk_X11_fetch 44 rfl) fl_X11_109 rfl rfl ?_
    show hp_go _ _ _ _ _ 80 _ _ _
    refine hq_iload (pm_d rk_X11_fetch 45 rfl) 3 rfl ?_
    refine hq_iload_n (pm_d rk_X11_fetch 46 rfl) rfl 1 rfl ?_
    refine hq_isub (pm_d rk_X11_fetch 47 rfl) ?_
    refine hq_aload_n (pm_d rk_X11_fetch 48 rfl) rfl 0 rfl ?_
    refine hq_getR (h := 32) 45 (pm_d rk_X11_fetch 49 rfl) fl_X11_109 rfl rfl ?_
    refine hq_iload (pm_d rk_X11_fetch 50 rfl) 3 rfl ?_
    show hp_go _ _ _ _ _ 90 _ _ _
    obtain ⟨hg, h⟩ := pm_gd_i h
    refine hq_baload (pm_d rk_X11_fetch 51 rfl) rfl hg ?_
    obtain ⟨hg, h⟩ := pm_gd_i h
    refine hq_bastore (pm_d rk_X11_fetch 52 rfl) rfl hg ?_
    refine pm_nm (G := fun t3 => hp_go sh_M me_X11_fetch (d + 0) (some (.long x0)) s1 92 [(0, .ref 0), (1, .int y1), (2, .long y2), (4, .int y4)] [] t3) h (fun t3 h => ?_)
    refine hq_iinc (v := y4 + (1 : Int32)) (L1 := [(4, .int (y4 + (1 : Int32))), (0, .ref 0), (1, .int y1), (2, .long y2)]) (pm_d rk_X11_fetch 53 rfl) 3 rfl (by rw [show Int32.ofInt (1) = (1 : Int32) by decide]) (by decide) rfl ?_
    refine pm_nm (G := fun x4 => hp_go sh_M me_X11_fetch (d + 0) (some (.long x0)) s1 95 [(4, .int x4), (0, .ref 0), (1, .int y1), (2, .long y2)] [] t3) h (fun x4 h => ?_)
    refine hq_goto 67 (pm_d rk_X11_fetch 54 rfl) (by decide) ?_
    refine hq_drop [1, 2, 3, 0] rfl ?_
    exact ih _ _ _ _ h
def l_M_X11_fetch_0_28 : Nat → Int32 → Int64 → Int32 → hp_S → Option (Int64 × hp_S)
  | 0, _, _, _, _ => none
  | n + 1, y1, y2, y4, s =>
    if y1 ≤ y4 then
      l_M_X11_fetch_0_67 n y1 y2 y1 s
    else
      pm_gd1 (pm_ib y4 4000) (
      pm_let (y2 ||| ((((hs_A s 32 y4.toNatClampNeg).toInt64) &&& (255 : Int64)) <<< (((48 : Int32) - ((8 : Int32) * y4)).toInt64 &&& 63))) (fun x5 =>
      pm_let (y4 + (1 : Int32)) (fun x6 =>
      l_M_X11_fetch_0_28 n y1 x5 x6 s)))
set_option maxRecDepth 100000 in
set_option maxHeartbeats 400000 in
theorem wl_M_X11_fetch_0_28 (d : Nat) (s1 : hp_S) (x0 : Int64)  : ∀ (n : Nat) (y1 : Int32) (y2 : Int64) (y4 : Int32) (s : hp_S), l_M_X11_fetch_0_28 n y1 y2 y4 s = some (x0, s1) → hp_go sh_M me_X11_fetch (d + 0) (some (.long x0)) s1 28 [(0, .ref 0), (1, .int y1), (2, .long y2), (4, .int y4)] [] s := by
  intro n
  induction n with
  | zero =>
    intro y1 y2 y4 s h
    cases h
  | succ n ih =>
    intro y1 y2 y4 s h
    rw [l_M_X11_fetch_0_28.eq_2] at h
    show hp_go _ _ _ _ _ 28 _ _ _
    refine hq_iload (pm_d rk_X11_fetch 16 rfl) 3 rfl ?_
    refine hq_iload_n (pm_d rk_X11_fetch 17 rfl) rfl 1 rfl ?_
    refine hq_icmp_ge 64 (pm_d rk_X11_fetch 18 rfl) (by decide) (fun hc => ?_) (fun hc => ?_)
    · rw [if_pos hc] at h
      refine hq_iload_n (pm_d rk_X11_fetch 37 rfl) rfl 1 rfl ?_
      refine hq_istore (L1 := [(4, .int y1), (0, .ref 0), (1, .int y1), (2, .long y2)]) (pm_d rk_X11_fetch 38 rfl) (by decide) rfl ?_
      refine hq_drop [1, 2, 3, 0] rfl ?_
      exact wl_M_X11_fetch_0_67 d _ _   _ _ _ _ _ h
    rw [if_neg hc] at h
    refine hq_lload_n (pm_d rk_X11_fetch 19 rfl) rfl 2 rfl ?_
    refine hq_aload_n (pm_d rk_X11_fetch 20 rfl) rfl 0 rfl ?_
    show hp_go _ _ _ _ _ 36 _ _ _
    refine hq_getR (h := 32) 45 (pm_d rk_X11_fetch 21 rfl) fl_X11_109 rfl rfl ?_
    refine hq_iload (pm_d rk_X11_fetch 22 rfl) 3 rfl ?_
    obtain ⟨hg, h⟩ := pm_gd_i h
    refine hq_baload (pm_d rk_X11_fetch 23 rfl) rfl hg ?_
    refine hq_i2l (pm_d rk_X11_fetch 24 rfl) ?_
    refine hq_ldc2 (pm_d rk_X11_fetch 25 rfl) (pm_i6 117 rfl rfl) ?_
    refine hq_land (pm_d rk_X11_fetch 26 rfl) ?_
    show hp_go _ _ _ _ _ 47 _ _ _
    refine hq_bipush (v := (48 : Int32)) (pm_d rk_X11_fetch 27 rfl) (by decide) ?_
    refine hq_bipush (v := (8 : Int32)) (pm_d rk_X11_fetch 28 rfl) (by decide) ?_
    refine hq_iload (pm_d rk_X11_fetch 29 rfl) 3 rfl ?_
    refine hq_imul (pm_d rk_X11_fetch 30 rfl) ?_
    refine hq_isub (pm_d rk_X11_fetch 31 rfl) ?_
    refine hq_lshl (pm_d rk_X11_fetch 32 rfl) ?_
    show hp_go _ _ _ _ _ 56 _ _ _
    refine hq_lor (pm_d rk_X11_fetch 33 rfl) ?_
    refine pm_nm (G := fun x5 => hp_go sh_M me_X11_fetch (d + 0) (some (.long x0)) s1 57 [(0, .ref 0), (1, .int y1), (2, .long y2), (4, .int y4)] [.long x5] s) h (fun x5 h => ?_)
    refine hq_lstore_n (L1 := [(2, .long x5), (0, .ref 0), (1, .int y1), (4, .int y4)]) (pm_d rk_X11_fetch 34 rfl) rfl (by decide) rfl ?_
    refine hq_iinc (v := y4 + (1 : Int32)) (L1 := [(4, .int (y4 + (1 : Int32))), (2, .long x5), (0, .ref 0), (1, .int y1)]) (pm_d rk_X11_fetch 35 rfl) 3 rfl (by rw [show Int32.ofInt (1) = (1 : Int32) by decide]) (by decide) rfl ?_
    refine pm_nm (G := fun x6 => hp_go sh_M me_X11_fetch (d + 0) (some (.long x0)) s1 61 [(4, .int x6), (2, .long x5), (0, .ref 0), (1, .int y1)] [] s) h (fun x6 h => ?_)
    refine hq_goto 28 (pm_d rk_X11_fetch 36 rfl) (by decide) ?_
    refine hq_drop [2, 3, 1, 0] rfl ?_
    exact ih _ _ _ _ h
def f_M_X11_fetch_0 (n : Nat) (s : hp_S) : Option (Int64 × hp_S) :=
  pm_let (fun (z18_S0 : Int32) (s : hp_S) =>
    pm_let ((z18_S0.toInt64) <<< ((56 : Int32).toInt64 &&& 63)) (fun x1 =>
    l_M_X11_fetch_0_28 n z18_S0 x1 (0 : Int32) s)) (fun j18 =>
  if (7 : Int32) ≤ (hs_I s 0 46) then
    j18 (7 : Int32) s
  else
    j18 (hs_I s 0 46) s)
set_option maxRecDepth 100000 in
set_option maxHeartbeats 400000 in
theorem w_M_X11_fetch_0 (d : Nat) (n : Nat) (s s1 : hp_S) (x0 : Int64) (h : f_M_X11_fetch_0 n s = some (x0, s1)) : hp_is sh_M me_X11_fetch (d + 0) [.ref 0] s (some (.long x0)) s1 := by
  refine hp_ofF [(0, .ref 0)] (by decide +kernel) (Nat.le_of_ble_eq_true rfl) rfl ?_
  unfold f_M_X11_fetch_0 at h
  refine hq_aload_n (pm_d rk_X11_fetch 0 rfl) rfl 0 rfl ?_
  refine hq_getI 46 (pm_d rk_X11_fetch 1 rfl) fl_X11_304 rfl rfl ?_
  refine hq_bipush (v := (7 : Int32)) (pm_d rk_X11_fetch 2 rfl) (by decide) ?_
  refine pm_jn (P := fun j18 => ∀ (z18_S0 : Int32) (s : hp_S), j18 z18_S0 s = some (x0, s1) → hp_go sh_M me_X11_fetch (d + 0) (some (.long x0)) s1 18 [(0, .ref 0)] [.int z18_S0] s) h ?_ (fun j18 hj18 h => ?_)
  · intro z18_S0 s h
    dsimp only at h
    refine hq_istore_n (L1 := [(1, .int z18_S0), (0, .ref 0)]) (pm_d rk_X11_fetch 8 rfl) rfl (by decide) rfl ?_
    refine hq_iload_n (pm_d rk_X11_fetch 9 rfl) rfl 0 rfl ?_
    show hp_go _ _ _ _ _ 20 _ _ _
    refine hq_i2l (pm_d rk_X11_fetch 10 rfl) ?_
    refine hq_bipush (v := (56 : Int32)) (pm_d rk_X11_fetch 11 rfl) (by decide) ?_
    refine hq_lshl (pm_d rk_X11_fetch 12 rfl) ?_
    refine pm_nm (G := fun x1 => hp_go sh_M me_X11_fetch (d + 0) (some (.long x0)) s1 24 [(1, .int z18_S0), (0, .ref 0)] [.long x1] s) h (fun x1 h => ?_)
    refine hq_lstore_n (L1 := [(2, .long x1), (1, .int z18_S0), (0, .ref 0)]) (pm_d rk_X11_fetch 13 rfl) rfl (by decide) rfl ?_
    refine hq_iconst (v := (0 : Int32)) (pm_d rk_X11_fetch 14 rfl) (by decide) ?_
    refine hq_istore (L1 := [(4, .int (0 : Int32)), (2, .long x1), (1, .int z18_S0), (0, .ref 0)]) (pm_d rk_X11_fetch 15 rfl) (by decide) rfl ?_
    refine hq_drop [3, 2, 1, 0] rfl ?_
    exact wl_M_X11_fetch_0_28 d _ _   _ _ _ _ _ h
  refine hq_icmp_ge 16 (pm_d rk_X11_fetch 3 rfl) (by decide) (fun hc => ?_) (fun hc => ?_)
  · rw [if_pos hc] at h
    refine hq_bipush (v := (7 : Int32)) (pm_d rk_X11_fetch 7 rfl) (by decide) ?_
    refine hq_drop [0] rfl ?_
    exact hj18 _ _ h
  rw [if_neg hc] at h
  show hp_go _ _ _ _ _ 9 _ _ _
  refine hq_aload_n (pm_d rk_X11_fetch 4 rfl) rfl 0 rfl ?_
  refine hq_getI 46 (pm_d rk_X11_fetch 5 rfl) fl_X11_304 rfl rfl ?_
  refine hq_goto 18 (pm_d rk_X11_fetch 6 rfl) (by decide) ?_
  refine hq_drop [0] rfl ?_
  exact hj18 _ _ h
def f_M_X11_need_0 (a1 : Int32) (s : hp_S) : Option (Int32 × hp_S) :=
  if a1 = 0 then
    if (hs_I s 0 50) = 0 then
      pm_let (hs_pI s 0 50 (1 : Int32)) (fun t1 =>
      pm_let (hs_pI t1 0 4 (hs_I t1 0 7)) (fun t2 =>
      pm_gd1 (pm_bl a1) (some (a1, t2))))
    else
      pm_gd1 (pm_bl a1) (some (a1, s))
  else
    pm_gd1 (pm_bl a1) (some (a1, s))
set_option maxRecDepth 100000 in
set_option maxHeartbeats 400000 in
theorem w_M_X11_need_0 (d : Nat) (a1 : Int32) (s s1 : hp_S) (x0 : Int32) (h : f_M_X11_need_0 a1 s = some (x0, s1)) : hp_is sh_M me_X11_need (d + 0) [.ref 0, .int a1] s (some (.int x0)) s1 := by
  refine hp_ofF [(0, .ref 0), (1, .int a1)] (by decide +kernel) (Nat.le_of_ble_eq_true rfl) rfl ?_
  unfold f_M_X11_need_0 at h
  refine hq_iload_n (pm_d rk_X11_need 0 rfl) rfl 1 rfl ?_
  refine hq_if_ne 24 (pm_d rk_X11_need 1 rfl) (by decide) (fun hc => ?_) (fun hc => ?_)
  · rw [if_neg hc] at h
    refine hq_iload_n (pm_d rk_X11_need 12 rfl) rfl 1 rfl ?_
    obtain ⟨hg, h⟩ := pm_gd_i h
    exact hq_zret (pm_d rk_X11_need 13 rfl) rfl (pm_bl_n hg) h
  rw [if_pos hc] at h
  refine hq_aload_n (pm_d rk_X11_need 2 rfl) rfl 0 rfl ?_
  show hp_go _ _ _ _ _ 5 _ _ _
  refine hq_getI 50 (pm_d rk_X11_need 3 rfl) fl_X11_179 rfl rfl ?_
  refine hq_if_ne 24 (pm_d rk_X11_need 4 rfl) (by decide) (fun hc => ?_) (fun hc => ?_)
  · rw [if_neg hc] at h
    refine hq_iload_n (pm_d rk_X11_need 12 rfl) rfl 1 rfl ?_
    obtain ⟨hg, h⟩ := pm_gd_i h
    exact hq_zret (pm_d rk_X11_need 13 rfl) rfl (pm_bl_n hg) h
  rw [if_pos hc] at h
  refine hq_aload_n (pm_d rk_X11_need 5 rfl) rfl 0 rfl ?_
  refine hq_iconst (v := (1 : Int32)) (pm_d rk_X11_need 6 rfl) (by decide) ?_
  show hp_go _ _ _ _ _ 13 _ _ _
  refine hq_putZ 50 (pm_d rk_X11_need 7 rfl) fl_X11_179 rfl rfl rfl rfl ?_
  refine pm_nm (G := fun t1 => hp_go sh_M me_X11_need (d + 0) (some (.int x0)) s1 16 [(0, .ref 0), (1, .int a1)] [] t1) h (fun t1 h => ?_)
  refine hq_aload_n (pm_d rk_X11_need 8 rfl) rfl 0 rfl ?_
  refine hq_aload_n (pm_d rk_X11_need 9 rfl) rfl 0 rfl ?_
  refine hq_getI 7 (pm_d rk_X11_need 10 rfl) fl_X11_136 rfl rfl ?_
  refine hq_putI 4 (pm_d rk_X11_need 11 rfl) fl_X11_16 rfl rfl ?_
  refine pm_nm (G := fun t2 => hp_go sh_M me_X11_need (d + 0) (some (.int x0)) s1 24 [(0, .ref 0), (1, .int a1)] [] t2) h (fun t2 h => ?_)
  refine hq_iload_n (pm_d rk_X11_need 12 rfl) rfl 1 rfl ?_
  show hp_go _ _ _ _ _ 25 _ _ _
  obtain ⟨hg, h⟩ := pm_gd_i h
  exact hq_zret (pm_d rk_X11_need 13 rfl) rfl (pm_bl_n hg) h
def f_M_X11_enter_0 (a1 : Int32) (a2 : Int32) (s : hp_S) : Option hp_S :=
  pm_let (fun (z15_1 : Int32) (z15_2 : Int32) (z15_S0 : Int32) (s : hp_S) =>
    pm_bd (f_M_X11_need_0 z15_S0 s) (fun x2 t1 =>
    if x2 = 0 then
      some t1
    else
      pm_gd1 (pm_ib (hs_I t1 0 23) 22) (
      pm_let (hs_pA t1 34 (hs_I t1 0 23).toNatClampNeg z15_1) (fun t3 =>
      pm_gd1 (pm_ib (hs_I t3 0 23) 22) (
      pm_let (hs_pA t3 35 (hs_I t3 0 23).toNatClampNeg z15_2) (fun t4 =>
      pm_gd1 (pm_ib (hs_I t4 0 23) 22) (
      pm_let (hs_pA t4 36 (hs_I t4 0 23).toNatClampNeg (-1 : Int32)) (fun t5 =>
      pm_gd1 (pm_ib (hs_I t5 0 23) 22) (
      pm_let (hs_pA t5 37 (hs_I t5 0 23).toNatClampNeg (-1 : Int32)) (fun t6 =>
      pm_let (hs_pI t6 0 23 ((hs_I t6 0 23) + (1 : Int32))) (fun t7 =>
      pm_let (hs_pI t7 0 55 (0 : Int32)) (fun t8 =>
      some t8)))))))))))) (fun j15 =>
  if (20 : Int32) ≤ (hs_I s 0 23) then
    j15 a1 a2 (0 : Int32) s
  else
    j15 a1 a2 (1 : Int32) s)
set_option maxRecDepth 100000 in
set_option maxHeartbeats 400000 in
theorem w_M_X11_enter_0 (d : Nat) (a1 : Int32) (a2 : Int32) (s s1 : hp_S) (h : f_M_X11_enter_0 a1 a2 s = some s1) : hp_is sh_M me_X11_enter (d + 1) [.ref 0, .int a1, .int a2] s none s1 := by
  refine hp_ofF [(0, .ref 0), (1, .int a1), (2, .int a2)] (by decide +kernel) (Nat.le_of_ble_eq_true rfl) rfl ?_
  unfold f_M_X11_enter_0 at h
  refine hq_aload_n (pm_d rk_X11_enter 0 rfl) rfl 0 rfl ?_
  refine hq_aload_n (pm_d rk_X11_enter 1 rfl) rfl 0 rfl ?_
  refine hq_getI 23 (pm_d rk_X11_enter 2 rfl) fl_X11_199 rfl rfl ?_
  refine hq_bipush (v := (20 : Int32)) (pm_d rk_X11_enter 3 rfl) (by decide) ?_
  refine pm_jn (P := fun j15 => ∀ (z15_1 : Int32) (z15_2 : Int32) (z15_S0 : Int32) (s : hp_S), j15 z15_1 z15_2 z15_S0 s = some s1 → hp_go sh_M me_X11_enter (d + 1) none s1 15 [(0, .ref 0), (1, .int z15_1), (2, .int z15_2)] [.int z15_S0, .ref 0] s) h ?_ (fun j15 hj15 h => ?_)
  · intro z15_1 z15_2 z15_S0 s h
    dsimp only at h
    obtain ⟨x2, t1, hq, h⟩ := pm_bd_i h
    have hM := w_M_X11_need_0 (d := d + 0) (h := hq)
    refine hq_callVi (a := 0) (ci := 11) [.int z15_S0] [] (pm_d rk_X11_enter 8 rfl) ml_X11_189 iv_X11_need rfl rfl rfl rfl rfl (Nat.le_of_ble_eq_true rfl) hM ?_
    show hp_go _ _ _ _ _ 18 _ _ _
    refine hq_if_ne 22 (pm_d rk_X11_enter 9 rfl) (by decide) (fun hc => ?_) (fun hc => ?_)
    · rw [if_neg hc] at h
      refine hq_aload_n (pm_d rk_X11_enter 11 rfl) rfl 0 rfl ?_
      refine hq_getR (h := 34) 51 (pm_d rk_X11_enter 12 rfl) fl_X11_115 rfl rfl ?_
      refine hq_aload_n (pm_d rk_X11_enter 13 rfl) rfl 0 rfl ?_
      refine hq_getI 23 (pm_d rk_X11_enter 14 rfl) fl_X11_199 rfl rfl ?_
      refine hq_iload_n (pm_d rk_X11_enter 15 rfl) rfl 1 rfl ?_
      show hp_go _ _ _ _ _ 31 _ _ _
      obtain ⟨hg, h⟩ := pm_gd_i h
      refine hq_iastore (pm_d rk_X11_enter 16 rfl) rfl hg ?_
      refine pm_nm (G := fun t3 => hp_go sh_M me_X11_enter (d + 1) none s1 32 [(0, .ref 0), (1, .int z15_1), (2, .int z15_2)] [] t3) h (fun t3 h => ?_)
      refine hq_aload_n (pm_d rk_X11_enter 17 rfl) rfl 0 rfl ?_
      refine hq_getR (h := 35) 52 (pm_d rk_X11_enter 18 rfl) fl_X11_118 rfl rfl ?_
      refine hq_aload_n (pm_d rk_X11_enter 19 rfl) rfl 0 rfl ?_
      refine hq_getI 23 (pm_d rk_X11_enter 20 rfl) fl_X11_199 rfl rfl ?_
      refine hq_iload_n (pm_d rk_X11_enter 21 rfl) rfl 2 rfl ?_
      show hp_go _ _ _ _ _ 41 _ _ _
      obtain ⟨hg, h⟩ := pm_gd_i h
      refine hq_iastore (pm_d rk_X11_enter 22 rfl) rfl hg ?_
      refine pm_nm (G := fun t4 => hp_go sh_M me_X11_enter (d + 1) none s1 42 [(0, .ref 0), (1, .int z15_1), (2, .int z15_2)] [] t4) h (fun t4 h => ?_)
      refine hq_aload_n (pm_d rk_X11_enter 23 rfl) rfl 0 rfl ?_
      refine hq_getR (h := 36) 53 (pm_d rk_X11_enter 24 rfl) fl_X11_121 rfl rfl ?_
      refine hq_aload_n (pm_d rk_X11_enter 25 rfl) rfl 0 rfl ?_
      refine hq_getI 23 (pm_d rk_X11_enter 26 rfl) fl_X11_199 rfl rfl ?_
      refine hq_iconst (v := (-1 : Int32)) (pm_d rk_X11_enter 27 rfl) (by decide) ?_
      show hp_go _ _ _ _ _ 51 _ _ _
      obtain ⟨hg, h⟩ := pm_gd_i h
      refine hq_iastore (pm_d rk_X11_enter 28 rfl) rfl hg ?_
      refine pm_nm (G := fun t5 => hp_go sh_M me_X11_enter (d + 1) none s1 52 [(0, .ref 0), (1, .int z15_1), (2, .int z15_2)] [] t5) h (fun t5 h => ?_)
      refine hq_aload_n (pm_d rk_X11_enter 29 rfl) rfl 0 rfl ?_
      refine hq_getR (h := 37) 54 (pm_d rk_X11_enter 30 rfl) fl_X11_124 rfl rfl ?_
      refine hq_aload_n (pm_d rk_X11_enter 31 rfl) rfl 0 rfl ?_
      refine hq_getI 23 (pm_d rk_X11_enter 32 rfl) fl_X11_199 rfl rfl ?_
      refine hq_iconst (v := (-1 : Int32)) (pm_d rk_X11_enter 33 rfl) (by decide) ?_
      show hp_go _ _ _ _ _ 61 _ _ _
      obtain ⟨hg, h⟩ := pm_gd_i h
      refine hq_iastore (pm_d rk_X11_enter 34 rfl) rfl hg ?_
      refine pm_nm (G := fun t6 => hp_go sh_M me_X11_enter (d + 1) none s1 62 [(0, .ref 0), (1, .int z15_1), (2, .int z15_2)] [] t6) h (fun t6 h => ?_)
      refine hq_aload_n (pm_d rk_X11_enter 35 rfl) rfl 0 rfl ?_
      refine hq_dup (pm_d rk_X11_enter 36 rfl) rfl ?_
      refine hq_getI 23 (pm_d rk_X11_enter 37 rfl) fl_X11_199 rfl rfl ?_
      refine hq_iconst (v := (1 : Int32)) (pm_d rk_X11_enter 38 rfl) (by decide) ?_
      refine hq_iadd (pm_d rk_X11_enter 39 rfl) ?_
      show hp_go _ _ _ _ _ 69 _ _ _
      refine hq_putI 23 (pm_d rk_X11_enter 40 rfl) fl_X11_199 rfl rfl ?_
      refine pm_nm (G := fun t7 => hp_go sh_M me_X11_enter (d + 1) none s1 72 [(0, .ref 0), (1, .int z15_1), (2, .int z15_2)] [] t7) h (fun t7 h => ?_)
      refine hq_aload_n (pm_d rk_X11_enter 41 rfl) rfl 0 rfl ?_
      refine hq_iconst (v := (0 : Int32)) (pm_d rk_X11_enter 42 rfl) (by decide) ?_
      refine hq_putI 55 (pm_d rk_X11_enter 43 rfl) fl_X11_202 rfl rfl ?_
      refine pm_nm (G := fun t8 => hp_go sh_M me_X11_enter (d + 1) none s1 77 [(0, .ref 0), (1, .int z15_1), (2, .int z15_2)] [] t8) h (fun t8 h => ?_)
      exact hq_vret (pm_d rk_X11_enter 44 rfl) rfl h
    rw [if_pos hc] at h
    exact hq_vret (pm_d rk_X11_enter 10 rfl) rfl h
  show hp_go _ _ _ _ _ 7 _ _ _
  refine hq_icmp_ge 14 (pm_d rk_X11_enter 4 rfl) (by decide) (fun hc => ?_) (fun hc => ?_)
  · rw [if_pos hc] at h
    refine hq_iconst (v := (0 : Int32)) (pm_d rk_X11_enter 7 rfl) (by decide) ?_
    refine hq_drop [0, 1, 2] rfl ?_
    exact hj15 _ _ _ _ h
  rw [if_neg hc] at h
  refine hq_iconst (v := (1 : Int32)) (pm_d rk_X11_enter 5 rfl) (by decide) ?_
  refine hq_goto 15 (pm_d rk_X11_enter 6 rfl) (by decide) ?_
  refine hq_drop [0, 1, 2] rfl ?_
  exact hj15 _ _ _ _ h
def f_M_X11_here_0 (a1 : Int32) (s : hp_S) : Option (Int32 × hp_S) :=
  if (hs_I s 0 3) ≤ ((hs_I s 0 5) + a1) then
    some ((-1 : Int32), s)
  else
    pm_gd1 (pm_ib ((hs_I s 0 5) + a1) 500) (
    some (((hs_A s 2 ((hs_I s 0 5) + a1).toNatClampNeg) &&& (255 : Int32)), s))
set_option maxRecDepth 100000 in
set_option maxHeartbeats 400000 in
theorem w_M_X11_here_0 (d : Nat) (a1 : Int32) (s s1 : hp_S) (x0 : Int32) (h : f_M_X11_here_0 a1 s = some (x0, s1)) : hp_is sh_M me_X11_here (d + 0) [.ref 0, .int a1] s (some (.int x0)) s1 := by
  refine hp_ofF [(0, .ref 0), (1, .int a1)] (by decide +kernel) (Nat.le_of_ble_eq_true rfl) rfl ?_
  unfold f_M_X11_here_0 at h
  refine hq_aload_n (pm_d rk_X11_here 0 rfl) rfl 0 rfl ?_
  refine hq_getI 5 (pm_d rk_X11_here 1 rfl) fl_X11_130 rfl rfl ?_
  refine hq_iload_n (pm_d rk_X11_here 2 rfl) rfl 1 rfl ?_
  refine hq_iadd (pm_d rk_X11_here 3 rfl) ?_
  refine hq_aload_n (pm_d rk_X11_here 4 rfl) rfl 0 rfl ?_
  show hp_go _ _ _ _ _ 7 _ _ _
  refine hq_getI 3 (pm_d rk_X11_here 5 rfl) fl_X11_133 rfl rfl ?_
  refine hq_icmp_ge 31 (pm_d rk_X11_here 6 rfl) (by decide) (fun hc => ?_) (fun hc => ?_)
  · rw [if_pos hc] at h
    refine hq_iconst (v := (-1 : Int32)) (pm_d rk_X11_here 17 rfl) (by decide) ?_
    exact hq_iret (pm_d rk_X11_here 18 rfl) rfl h
  rw [if_neg hc] at h
  refine hq_aload_n (pm_d rk_X11_here 7 rfl) rfl 0 rfl ?_
  refine hq_getR (h := 2) 2 (pm_d rk_X11_here 8 rfl) fl_X11_13 rfl rfl ?_
  show hp_go _ _ _ _ _ 17 _ _ _
  refine hq_aload_n (pm_d rk_X11_here 9 rfl) rfl 0 rfl ?_
  refine hq_getI 5 (pm_d rk_X11_here 10 rfl) fl_X11_130 rfl rfl ?_
  refine hq_iload_n (pm_d rk_X11_here 11 rfl) rfl 1 rfl ?_
  refine hq_iadd (pm_d rk_X11_here 12 rfl) ?_
  obtain ⟨hg, h⟩ := pm_gd_i h
  refine hq_baload (pm_d rk_X11_here 13 rfl) rfl hg ?_
  refine hq_sipush (v := (255 : Int32)) (pm_d rk_X11_here 14 rfl) (by decide) ?_
  show hp_go _ _ _ _ _ 27 _ _ _
  refine hq_iand (pm_d rk_X11_here 15 rfl) ?_
  refine hq_goto 32 (pm_d rk_X11_here 16 rfl) (by decide) ?_
  exact hq_iret (pm_d rk_X11_here 18 rfl) rfl h
def f_M_X11_isLetter (a0 : Int32) (s : hp_S) : Option (Int32 × hp_S) :=
  if a0 < (97 : Int32) then
    some ((0 : Int32), s)
  else
    if (122 : Int32) < a0 then
      some ((0 : Int32), s)
    else
      some ((1 : Int32), s)
set_option maxRecDepth 100000 in
set_option maxHeartbeats 400000 in
theorem w_M_X11_isLetter (d : Nat) (a0 : Int32) (s s1 : hp_S) (x0 : Int32) (h : f_M_X11_isLetter a0 s = some (x0, s1)) : hp_is sh_M me_X11_isLetter (d + 0) [.int a0] s (some (.int x0)) s1 := by
  refine hp_ofF [(0, .int a0)] (by decide +kernel) (Nat.le_of_ble_eq_true rfl) rfl ?_
  unfold f_M_X11_isLetter at h
  refine hq_iload_n (pm_d rk_X11_isLetter 0 rfl) rfl 0 rfl ?_
  refine hq_bipush (v := (97 : Int32)) (pm_d rk_X11_isLetter 1 rfl) (by decide) ?_
  refine hq_icmp_lt 16 (pm_d rk_X11_isLetter 2 rfl) (by decide) (fun hc => ?_) (fun hc => ?_)
  · rw [if_pos hc] at h
    refine hq_iconst (v := (0 : Int32)) (pm_d rk_X11_isLetter 8 rfl) (by decide) ?_
    exact hq_zret (pm_d rk_X11_isLetter 9 rfl) rfl rfl h
  rw [if_neg hc] at h
  show hp_go _ _ _ _ _ 6 _ _ _
  refine hq_iload_n (pm_d rk_X11_isLetter 3 rfl) rfl 0 rfl ?_
  refine hq_bipush (v := (122 : Int32)) (pm_d rk_X11_isLetter 4 rfl) (by decide) ?_
  refine hq_icmp_gt 16 (pm_d rk_X11_isLetter 5 rfl) (by decide) (fun hc => ?_) (fun hc => ?_)
  · rw [if_pos hc] at h
    refine hq_iconst (v := (0 : Int32)) (pm_d rk_X11_isLetter 8 rfl) (by decide) ?_
    exact hq_zret (pm_d rk_X11_isLetter 9 rfl) rfl rfl h
  rw [if_neg hc] at h
  refine hq_iconst (v := (1 : Int32)) (pm_d rk_X11_isLetter 6 rfl) (by decide) ?_
  show hp_go _ _ _ _ _ 13 _ _ _
  refine hq_goto 17 (pm_d rk_X11_isLetter 7 rfl) (by decide) ?_
  exact hq_zret (pm_d rk_X11_isLetter 9 rfl) rfl rfl h
def f_M_X11_isDigit (a0 : Int32) (s : hp_S) : Option (Int32 × hp_S) :=
  if a0 < (48 : Int32) then
    some ((0 : Int32), s)
  else
    if (57 : Int32) < a0 then
      some ((0 : Int32), s)
    else
      some ((1 : Int32), s)
set_option maxRecDepth 100000 in
set_option maxHeartbeats 400000 in
theorem w_M_X11_isDigit (d : Nat) (a0 : Int32) (s s1 : hp_S) (x0 : Int32) (h : f_M_X11_isDigit a0 s = some (x0, s1)) : hp_is sh_M me_X11_isDigit (d + 0) [.int a0] s (some (.int x0)) s1 := by
  refine hp_ofF [(0, .int a0)] (by decide +kernel) (Nat.le_of_ble_eq_true rfl) rfl ?_
  unfold f_M_X11_isDigit at h
  refine hq_iload_n (pm_d rk_X11_isDigit 0 rfl) rfl 0 rfl ?_
  refine hq_bipush (v := (48 : Int32)) (pm_d rk_X11_isDigit 1 rfl) (by decide) ?_
  refine hq_icmp_lt 16 (pm_d rk_X11_isDigit 2 rfl) (by decide) (fun hc => ?_) (fun hc => ?_)
  · rw [if_pos hc] at h
    refine hq_iconst (v := (0 : Int32)) (pm_d rk_X11_isDigit 8 rfl) (by decide) ?_
    exact hq_zret (pm_d rk_X11_isDigit 9 rfl) rfl rfl h
  rw [if_neg hc] at h
  show hp_go _ _ _ _ _ 6 _ _ _
  refine hq_iload_n (pm_d rk_X11_isDigit 3 rfl) rfl 0 rfl ?_
  refine hq_bipush (v := (57 : Int32)) (pm_d rk_X11_isDigit 4 rfl) (by decide) ?_
  refine hq_icmp_gt 16 (pm_d rk_X11_isDigit 5 rfl) (by decide) (fun hc => ?_) (fun hc => ?_)
  · rw [if_pos hc] at h
    refine hq_iconst (v := (0 : Int32)) (pm_d rk_X11_isDigit 8 rfl) (by decide) ?_
    exact hq_zret (pm_d rk_X11_isDigit 9 rfl) rfl rfl h
  rw [if_neg hc] at h
  refine hq_iconst (v := (1 : Int32)) (pm_d rk_X11_isDigit 6 rfl) (by decide) ?_
  show hp_go _ _ _ _ _ 13 _ _ _
  refine hq_goto 17 (pm_d rk_X11_isDigit 7 rfl) (by decide) ?_
  exact hq_zret (pm_d rk_X11_isDigit 9 rfl) rfl rfl h
def l_M_X11_wordOf_0_7 : Nat → Int64 → Int32 → hp_S → Option (Int32 × hp_S)
  | 0, _, _, _ => none
  | n + 1, y1, y3, s =>
    pm_let (fun (z45_1 : Int64) (s : hp_S) =>
      pm_let (fun (z121_1 : Int64) (z121_S0 : Int32) (s : hp_S) =>
        pm_let (fun (z188_S0 : Int32) (s : hp_S) =>
          if ((hs_I s 0 5) - (hs_I s 0 7)) ≤ (10 : Int32) then
            some (z188_S0, s)
          else
            some ((21 : Int32), s)) (fun j188 =>
        if (lg_cmp z121_1 (1953658213 : Int64)) = 0 then
          j188 (9 : Int32) s
        else
          if (lg_cmp z121_1 (439721161573 : Int64)) = 0 then
            j188 (10 : Int32) s
          else
            if (lg_cmp z121_1 (7237492 : Int64)) = 0 then
              j188 (11 : Int32) s
            else
              if (lg_cmp z121_1 (6714228 : Int64)) = 0 then
                j188 (12 : Int32) s
              else
                if (lg_cmp z121_1 (7564900 : Int64)) = 0 then
                  j188 (13 : Int32) s
                else
                  j188 z121_S0 s)) (fun j121 =>
      if (lg_cmp z45_1 (26222 : Int64)) = 0 then
        j121 z45_1 (3 : Int32) s
      else
        if (lg_cmp z45_1 (7103860 : Int64)) = 0 then
          j121 z45_1 (4 : Int32) s
        else
          if (lg_cmp z45_1 (26990 : Int64)) = 0 then
            j121 z45_1 (5 : Int32) s
          else
            if (lg_cmp z45_1 (26982 : Int64)) = 0 then
              j121 z45_1 (6 : Int32) s
            else
              if (lg_cmp z45_1 (1952998766 : Int64)) = 0 then
                j121 z45_1 (7 : Int32) s
              else
                if (lg_cmp z45_1 (1701606245 : Int64)) = 0 then
                  j121 z45_1 (8 : Int32) s
                else
                  j121 z45_1 (1 : Int32) s)) (fun j45 =>
    if (hs_I s 0 5) ≤ y3 then
      j45 y1 s
    else
      if ((hs_I s 0 7) + (7 : Int32)) ≤ y3 then
        j45 y1 s
      else
        pm_gd1 (pm_ib y3 500) (
        pm_let ((y1 <<< ((8 : Int32).toInt64 &&& 63)) ||| ((hs_A s 2 y3.toNatClampNeg).toInt64)) (fun x2 =>
        pm_let (y3 + (1 : Int32)) (fun x3 =>
        l_M_X11_wordOf_0_7 n x2 x3 s))))
set_option maxRecDepth 100000 in
set_option maxHeartbeats 400000 in
theorem wl_M_X11_wordOf_0_7 (d : Nat) (s1 : hp_S) (x0 : Int32)  : ∀ (n : Nat) (y1 : Int64) (y3 : Int32) (s : hp_S), l_M_X11_wordOf_0_7 n y1 y3 s = some (x0, s1) → hp_go sh_M me_X11_wordOf (d + 0) (some (.int x0)) s1 7 [(0, .ref 0), (1, .long y1), (3, .int y3)] [] s := by
  intro n
  induction n with
  | zero =>
    intro y1 y3 s h
    cases h
  | succ n ih =>
    intro y1 y3 s h
    rw [l_M_X11_wordOf_0_7.eq_2] at h
    show hp_go _ _ _ _ _ 7 _ _ _
    refine hq_iload_n (pm_d rk_X11_wordOf 5 rfl) rfl 2 rfl ?_
    refine hq_aload_n (pm_d rk_X11_wordOf 6 rfl) rfl 0 rfl ?_
    refine hq_getI 5 (pm_d rk_X11_wordOf 7 rfl) fl_X11_130 rfl rfl ?_
    refine pm_jn (P := fun j45 => ∀ (z45_1 : Int64) (s : hp_S), j45 z45_1 s = some (x0, s1) → hp_go sh_M me_X11_wordOf (d + 0) (some (.int x0)) s1 45 [(0, .ref 0), (1, .long z45_1)] [] s) h ?_ (fun j45 hj45 h => ?_)
    · intro z45_1 s h
      dsimp only at h
      refine hq_lload_n (pm_d rk_X11_wordOf 27 rfl) rfl 1 rfl ?_
      refine hq_ldc2 (pm_d rk_X11_wordOf 28 rfl) (pm_i5 218 rfl rfl) ?_
      refine hq_lcmp (pm_d rk_X11_wordOf 29 rfl) ?_
      refine pm_jn (P := fun j121 => ∀ (z121_1 : Int64) (z121_S0 : Int32) (s : hp_S), j121 z121_1 z121_S0 s = some (x0, s1) → hp_go sh_M me_X11_wordOf (d + 0) (some (.int x0)) s1 121 [(0, .ref 0), (1, .long z121_1)] [.int z121_S0] s) h ?_ (fun j121 hj121 h => ?_)
      · intro z121_1 z121_S0 s h
        dsimp only at h
        show hp_go _ _ _ _ _ 121 _ _ _
        refine hq_istore_n (L1 := [(3, .int z121_S0), (0, .ref 0), (1, .long z121_1)]) (pm_d rk_X11_wordOf 64 rfl) rfl (by decide) rfl ?_
        refine hq_lload_n (pm_d rk_X11_wordOf 65 rfl) rfl 2 rfl ?_
        refine hq_ldc2 (pm_d rk_X11_wordOf 66 rfl) (pm_i5 224 rfl rfl) ?_
        refine hq_lcmp (pm_d rk_X11_wordOf 67 rfl) ?_
        refine pm_jn (P := fun j188 => ∀ (z188_S0 : Int32) (s : hp_S), j188 z188_S0 s = some (x0, s1) → hp_go sh_M me_X11_wordOf (d + 0) (some (.int x0)) s1 188 [(0, .ref 0)] [.int z188_S0] s) h ?_ (fun j188 hj188 h => ?_)
        · intro z188_S0 s h
          dsimp only at h
          refine hq_istore_n (L1 := [(3, .int z188_S0), (0, .ref 0)]) (pm_d rk_X11_wordOf 96 rfl) rfl (by decide) rfl ?_
          refine hq_aload_n (pm_d rk_X11_wordOf 97 rfl) rfl 1 rfl ?_
          show hp_go _ _ _ _ _ 190 _ _ _
          refine hq_getI 5 (pm_d rk_X11_wordOf 98 rfl) fl_X11_130 rfl rfl ?_
          refine hq_aload_n (pm_d rk_X11_wordOf 99 rfl) rfl 1 rfl ?_
          refine hq_getI 7 (pm_d rk_X11_wordOf 100 rfl) fl_X11_136 rfl rfl ?_
          refine hq_isub (pm_d rk_X11_wordOf 101 rfl) ?_
          refine hq_bipush (v := (10 : Int32)) (pm_d rk_X11_wordOf 102 rfl) (by decide) ?_
          refine hq_icmp_le 208 (pm_d rk_X11_wordOf 103 rfl) (by decide) (fun hc => ?_) (fun hc => ?_)
          · rw [if_pos hc] at h
            show hp_go _ _ _ _ _ 208 _ _ _
            refine hq_iload_n (pm_d rk_X11_wordOf 106 rfl) rfl 0 rfl ?_
            exact hq_iret (pm_d rk_X11_wordOf 107 rfl) rfl h
          rw [if_neg hc] at h
          refine hq_bipush (v := (21 : Int32)) (pm_d rk_X11_wordOf 104 rfl) (by decide) ?_
          refine hq_goto 209 (pm_d rk_X11_wordOf 105 rfl) (by decide) ?_
          exact hq_iret (pm_d rk_X11_wordOf 107 rfl) rfl h
        refine hq_if_ne 135 (pm_d rk_X11_wordOf 68 rfl) (by decide) (fun hc => ?_) (fun hc => ?_)
        · rw [if_neg hc] at h
          show hp_go _ _ _ _ _ 135 _ _ _
          refine hq_lload_n (pm_d rk_X11_wordOf 71 rfl) rfl 2 rfl ?_
          refine hq_ldc2 (pm_d rk_X11_wordOf 72 rfl) (pm_i5 225 rfl rfl) ?_
          refine hq_lcmp (pm_d rk_X11_wordOf 73 rfl) ?_
          refine hq_if_ne 148 (pm_d rk_X11_wordOf 74 rfl) (by decide) (fun hc => ?_) (fun hc => ?_)
          · rw [if_neg hc] at h
            refine hq_lload_n (pm_d rk_X11_wordOf 77 rfl) rfl 2 rfl ?_
            refine hq_ldc2 (pm_d rk_X11_wordOf 78 rfl) (pm_i5 226 rfl rfl) ?_
            show hp_go _ _ _ _ _ 152 _ _ _
            refine hq_lcmp (pm_d rk_X11_wordOf 79 rfl) ?_
            refine hq_if_ne 161 (pm_d rk_X11_wordOf 80 rfl) (by decide) (fun hc => ?_) (fun hc => ?_)
            · rw [if_neg hc] at h
              refine hq_lload_n (pm_d rk_X11_wordOf 83 rfl) rfl 2 rfl ?_
              refine hq_ldc2 (pm_d rk_X11_wordOf 84 rfl) (pm_i5 227 rfl rfl) ?_
              refine hq_lcmp (pm_d rk_X11_wordOf 85 rfl) ?_
              refine hq_if_ne 174 (pm_d rk_X11_wordOf 86 rfl) (by decide) (fun hc => ?_) (fun hc => ?_)
              · rw [if_neg hc] at h
                show hp_go _ _ _ _ _ 174 _ _ _
                refine hq_lload_n (pm_d rk_X11_wordOf 89 rfl) rfl 2 rfl ?_
                refine hq_ldc2 (pm_d rk_X11_wordOf 90 rfl) (pm_i5 228 rfl rfl) ?_
                refine hq_lcmp (pm_d rk_X11_wordOf 91 rfl) ?_
                refine hq_if_ne 187 (pm_d rk_X11_wordOf 92 rfl) (by decide) (fun hc => ?_) (fun hc => ?_)
                · rw [if_neg hc] at h
                  refine hq_iload_n (pm_d rk_X11_wordOf 95 rfl) rfl 0 rfl ?_
                  refine hq_drop [1] rfl ?_
                  exact hj188 _ _ h
                rw [if_pos hc] at h
                refine hq_bipush (v := (13 : Int32)) (pm_d rk_X11_wordOf 93 rfl) (by decide) ?_
                show hp_go _ _ _ _ _ 184 _ _ _
                refine hq_goto 188 (pm_d rk_X11_wordOf 94 rfl) (by decide) ?_
                refine hq_drop [1] rfl ?_
                exact hj188 _ _ h
              rw [if_pos hc] at h
              refine hq_bipush (v := (12 : Int32)) (pm_d rk_X11_wordOf 87 rfl) (by decide) ?_
              refine hq_goto 188 (pm_d rk_X11_wordOf 88 rfl) (by decide) ?_
              refine hq_drop [1] rfl ?_
              exact hj188 _ _ h
            rw [if_pos hc] at h
            refine hq_bipush (v := (11 : Int32)) (pm_d rk_X11_wordOf 81 rfl) (by decide) ?_
            refine hq_goto 188 (pm_d rk_X11_wordOf 82 rfl) (by decide) ?_
            refine hq_drop [1] rfl ?_
            exact hj188 _ _ h
          rw [if_pos hc] at h
          refine hq_bipush (v := (10 : Int32)) (pm_d rk_X11_wordOf 75 rfl) (by decide) ?_
          show hp_go _ _ _ _ _ 145 _ _ _
          refine hq_goto 188 (pm_d rk_X11_wordOf 76 rfl) (by decide) ?_
          refine hq_drop [1] rfl ?_
          exact hj188 _ _ h
        rw [if_pos hc] at h
        refine hq_bipush (v := (9 : Int32)) (pm_d rk_X11_wordOf 69 rfl) (by decide) ?_
        refine hq_goto 188 (pm_d rk_X11_wordOf 70 rfl) (by decide) ?_
        refine hq_drop [1] rfl ?_
        exact hj188 _ _ h
      refine hq_if_ne 57 (pm_d rk_X11_wordOf 30 rfl) (by decide) (fun hc => ?_) (fun hc => ?_)
      · rw [if_neg hc] at h
        refine hq_lload_n (pm_d rk_X11_wordOf 33 rfl) rfl 1 rfl ?_
        refine hq_ldc2 (pm_d rk_X11_wordOf 34 rfl) (pm_i5 219 rfl rfl) ?_
        show hp_go _ _ _ _ _ 61 _ _ _
        refine hq_lcmp (pm_d rk_X11_wordOf 35 rfl) ?_
        refine hq_if_ne 69 (pm_d rk_X11_wordOf 36 rfl) (by decide) (fun hc => ?_) (fun hc => ?_)
        · rw [if_neg hc] at h
          refine hq_lload_n (pm_d rk_X11_wordOf 39 rfl) rfl 1 rfl ?_
          refine hq_ldc2 (pm_d rk_X11_wordOf 40 rfl) (pm_i5 220 rfl rfl) ?_
          refine hq_lcmp (pm_d rk_X11_wordOf 41 rfl) ?_
          refine hq_if_ne 81 (pm_d rk_X11_wordOf 42 rfl) (by decide) (fun hc => ?_) (fun hc => ?_)
          · rw [if_neg hc] at h
            show hp_go _ _ _ _ _ 81 _ _ _
            refine hq_lload_n (pm_d rk_X11_wordOf 45 rfl) rfl 1 rfl ?_
            refine hq_ldc2 (pm_d rk_X11_wordOf 46 rfl) (pm_i5 221 rfl rfl) ?_
            refine hq_lcmp (pm_d rk_X11_wordOf 47 rfl) ?_
            refine hq_if_ne 94 (pm_d rk_X11_wordOf 48 rfl) (by decide) (fun hc => ?_) (fun hc => ?_)
            · rw [if_neg hc] at h
              refine hq_lload_n (pm_d rk_X11_wordOf 51 rfl) rfl 1 rfl ?_
              refine hq_ldc2 (pm_d rk_X11_wordOf 52 rfl) (pm_i5 222 rfl rfl) ?_
              show hp_go _ _ _ _ _ 98 _ _ _
              refine hq_lcmp (pm_d rk_X11_wordOf 53 rfl) ?_
              refine hq_if_ne 107 (pm_d rk_X11_wordOf 54 rfl) (by decide) (fun hc => ?_) (fun hc => ?_)
              · rw [if_neg hc] at h
                refine hq_lload_n (pm_d rk_X11_wordOf 57 rfl) rfl 1 rfl ?_
                refine hq_ldc2 (pm_d rk_X11_wordOf 58 rfl) (pm_i5 223 rfl rfl) ?_
                refine hq_lcmp (pm_d rk_X11_wordOf 59 rfl) ?_
                refine hq_if_ne 120 (pm_d rk_X11_wordOf 60 rfl) (by decide) (fun hc => ?_) (fun hc => ?_)
                · rw [if_neg hc] at h
                  show hp_go _ _ _ _ _ 120 _ _ _
                  refine hq_iconst (v := (1 : Int32)) (pm_d rk_X11_wordOf 63 rfl) (by decide) ?_
                  refine hq_drop [0, 1] rfl ?_
                  exact hj121 _ _ _ h
                rw [if_pos hc] at h
                refine hq_bipush (v := (8 : Int32)) (pm_d rk_X11_wordOf 61 rfl) (by decide) ?_
                refine hq_goto 121 (pm_d rk_X11_wordOf 62 rfl) (by decide) ?_
                refine hq_drop [0, 1] rfl ?_
                exact hj121 _ _ _ h
              rw [if_pos hc] at h
              refine hq_bipush (v := (7 : Int32)) (pm_d rk_X11_wordOf 55 rfl) (by decide) ?_
              refine hq_goto 121 (pm_d rk_X11_wordOf 56 rfl) (by decide) ?_
              refine hq_drop [0, 1] rfl ?_
              exact hj121 _ _ _ h
            rw [if_pos hc] at h
            refine hq_bipush (v := (6 : Int32)) (pm_d rk_X11_wordOf 49 rfl) (by decide) ?_
            show hp_go _ _ _ _ _ 91 _ _ _
            refine hq_goto 121 (pm_d rk_X11_wordOf 50 rfl) (by decide) ?_
            refine hq_drop [0, 1] rfl ?_
            exact hj121 _ _ _ h
          rw [if_pos hc] at h
          refine hq_iconst (v := (5 : Int32)) (pm_d rk_X11_wordOf 43 rfl) (by decide) ?_
          refine hq_goto 121 (pm_d rk_X11_wordOf 44 rfl) (by decide) ?_
          refine hq_drop [0, 1] rfl ?_
          exact hj121 _ _ _ h
        rw [if_pos hc] at h
        refine hq_iconst (v := (4 : Int32)) (pm_d rk_X11_wordOf 37 rfl) (by decide) ?_
        refine hq_goto 121 (pm_d rk_X11_wordOf 38 rfl) (by decide) ?_
        refine hq_drop [0, 1] rfl ?_
        exact hj121 _ _ _ h
      rw [if_pos hc] at h
      refine hq_iconst (v := (3 : Int32)) (pm_d rk_X11_wordOf 31 rfl) (by decide) ?_
      show hp_go _ _ _ _ _ 54 _ _ _
      refine hq_goto 121 (pm_d rk_X11_wordOf 32 rfl) (by decide) ?_
      refine hq_drop [0, 1] rfl ?_
      exact hj121 _ _ _ h
    refine hq_icmp_ge 45 (pm_d rk_X11_wordOf 8 rfl) (by decide) (fun hc => ?_) (fun hc => ?_)
    · rw [if_pos hc] at h
      refine hq_drop [0, 1] rfl ?_
      exact hj45 _ _ h
    rw [if_neg hc] at h
    refine hq_iload_n (pm_d rk_X11_wordOf 9 rfl) rfl 2 rfl ?_
    refine hq_aload_n (pm_d rk_X11_wordOf 10 rfl) rfl 0 rfl ?_
    refine hq_getI 7 (pm_d rk_X11_wordOf 11 rfl) fl_X11_136 rfl rfl ?_
    refine hq_bipush (v := (7 : Int32)) (pm_d rk_X11_wordOf 12 rfl) (by decide) ?_
    show hp_go _ _ _ _ _ 22 _ _ _
    refine hq_iadd (pm_d rk_X11_wordOf 13 rfl) ?_
    refine hq_icmp_ge 45 (pm_d rk_X11_wordOf 14 rfl) (by decide) (fun hc => ?_) (fun hc => ?_)
    · rw [if_pos hc] at h
      refine hq_drop [0, 1] rfl ?_
      exact hj45 _ _ h
    rw [if_neg hc] at h
    refine hq_lload_n (pm_d rk_X11_wordOf 15 rfl) rfl 1 rfl ?_
    refine hq_bipush (v := (8 : Int32)) (pm_d rk_X11_wordOf 16 rfl) (by decide) ?_
    refine hq_lshl (pm_d rk_X11_wordOf 17 rfl) ?_
    refine hq_aload_n (pm_d rk_X11_wordOf 18 rfl) rfl 0 rfl ?_
    show hp_go _ _ _ _ _ 31 _ _ _
    refine hq_getR (h := 2) 2 (pm_d rk_X11_wordOf 19 rfl) fl_X11_13 rfl rfl ?_
    refine hq_iload_n (pm_d rk_X11_wordOf 20 rfl) rfl 2 rfl ?_
    obtain ⟨hg, h⟩ := pm_gd_i h
    refine hq_baload (pm_d rk_X11_wordOf 21 rfl) rfl hg ?_
    refine hq_i2l (pm_d rk_X11_wordOf 22 rfl) ?_
    refine hq_lor (pm_d rk_X11_wordOf 23 rfl) ?_
    refine pm_nm (G := fun x2 => hp_go sh_M me_X11_wordOf (d + 0) (some (.int x0)) s1 38 [(0, .ref 0), (1, .long y1), (3, .int y3)] [.long x2] s) h (fun x2 h => ?_)
    refine hq_lstore_n (L1 := [(1, .long x2), (0, .ref 0), (3, .int y3)]) (pm_d rk_X11_wordOf 24 rfl) rfl (by decide) rfl ?_
    show hp_go _ _ _ _ _ 39 _ _ _
    refine hq_iinc (v := y3 + (1 : Int32)) (L1 := [(3, .int (y3 + (1 : Int32))), (1, .long x2), (0, .ref 0)]) (pm_d rk_X11_wordOf 25 rfl) 2 rfl (by rw [show Int32.ofInt (1) = (1 : Int32) by decide]) (by decide) rfl ?_
    refine pm_nm (G := fun x3 => hp_go sh_M me_X11_wordOf (d + 0) (some (.int x0)) s1 42 [(3, .int x3), (1, .long x2), (0, .ref 0)] [] s) h (fun x3 h => ?_)
    refine hq_goto 7 (pm_d rk_X11_wordOf 26 rfl) (by decide) ?_
    refine hq_drop [2, 1, 0] rfl ?_
    exact ih _ _ _ h
def f_M_X11_wordOf_0 (n : Nat) (s : hp_S) : Option (Int32 × hp_S) :=
  pm_let (hs_I s 0 7) (fun x1 =>
  l_M_X11_wordOf_0_7 n (0 : Int64) x1 s)
set_option maxRecDepth 100000 in
set_option maxHeartbeats 400000 in
theorem w_M_X11_wordOf_0 (d : Nat) (n : Nat) (s s1 : hp_S) (x0 : Int32) (h : f_M_X11_wordOf_0 n s = some (x0, s1)) : hp_is sh_M me_X11_wordOf (d + 0) [.ref 0] s (some (.int x0)) s1 := by
  refine hp_ofF [(0, .ref 0)] (by decide +kernel) (Nat.le_of_ble_eq_true rfl) rfl ?_
  unfold f_M_X11_wordOf_0 at h
  refine hq_lconst (v := (0 : Int64)) (pm_d rk_X11_wordOf 0 rfl) (by decide) ?_
  refine hq_lstore_n (L1 := [(1, .long (0 : Int64)), (0, .ref 0)]) (pm_d rk_X11_wordOf 1 rfl) rfl (by decide) rfl ?_
  refine hq_aload_n (pm_d rk_X11_wordOf 2 rfl) rfl 1 rfl ?_
  refine hq_getI 7 (pm_d rk_X11_wordOf 3 rfl) fl_X11_136 rfl rfl ?_
  refine pm_nm (G := fun x1 => hp_go sh_M me_X11_wordOf (d + 0) (some (.int x0)) s1 6 [(1, .long (0 : Int64)), (0, .ref 0)] [.int x1] s) h (fun x1 h => ?_)
  refine hq_istore_n (L1 := [(3, .int x1), (1, .long (0 : Int64)), (0, .ref 0)]) (pm_d rk_X11_wordOf 4 rfl) rfl (by decide) rfl ?_
  refine hq_drop [2, 1, 0] rfl ?_
  exact wl_M_X11_wordOf_0_7 d _ _   _ _ _ _ h
def l_M_X11_look_0_119 : Nat → hp_S → Option hp_S
  | 0, _ => none
  | n + 1, s =>
    pm_bd (f_M_X11_here_0 (0 : Int32) s) (fun x23 t22 =>
    pm_bd (f_M_X11_isDigit x23 t22) (fun x25 t24 =>
    if x25 = 0 then
      pm_let (fun (s : hp_S) =>
        pm_let (hs_pI s 0 6 (21 : Int32)) (fun t26 =>
        some t26)) (fun j169 =>
      if (9 : Int32) < ((hs_I t24 0 5) - (hs_I t24 0 7)) then
        j169  t24
      else
        pm_bd (f_M_X11_here_0 (0 : Int32) t24) (fun x28 t27 =>
        pm_bd (f_M_X11_isLetter x28 t27) (fun x30 t29 =>
        if x30 = 0 then
          pm_let (hs_pI t29 0 6 (2 : Int32)) (fun t31 =>
          some t31)
        else
          j169  t29)))
    else
      pm_let (hs_pI t24 0 5 ((hs_I t24 0 5) + (1 : Int32))) (fun t32 =>
      l_M_X11_look_0_119 n  t32)))
set_option maxRecDepth 100000 in
set_option maxHeartbeats 400000 in
theorem wl_M_X11_look_0_119 (d : Nat) (s1 : hp_S)  : ∀ (n : Nat) (s : hp_S), l_M_X11_look_0_119 n  s = some s1 → hp_go sh_M me_X11_look (d + 1) none s1 119 [(0, .ref 0)] [] s := by
  intro n
  induction n with
  | zero =>
    intro  s h
    cases h
  | succ n ih =>
    intro  s h
    rw [l_M_X11_look_0_119.eq_2] at h
    refine hq_aload_n (pm_d rk_X11_look 59 rfl) rfl 0 rfl ?_
    show hp_go _ _ _ _ _ 120 _ _ _
    refine hq_iconst (v := (0 : Int32)) (pm_d rk_X11_look 60 rfl) (by decide) ?_
    obtain ⟨x23, t22, hq, h⟩ := pm_bd_i h
    have hM := w_M_X11_here_0 (d := d + 0) (h := hq)
    refine hq_callVi (a := 0) (ci := 11) [.int (0 : Int32)] [] (pm_d rk_X11_look 61 rfl) ml_X11_161 iv_X11_here rfl rfl rfl rfl rfl (Nat.le_of_ble_eq_true rfl) hM ?_
    obtain ⟨x25, t24, hq, h⟩ := pm_bd_i h
    have hM := w_M_X11_isDigit (d := d + 0) (h := hq)
    refine hq_callSi [.int x23] [] (pm_d rk_X11_look 62 rfl) ml_X11_172 iv_X11_isDigit rfl rfl (Nat.le_of_ble_eq_true rfl) hM ?_
    refine hq_if_eq 143 (pm_d rk_X11_look 63 rfl) (by decide) (fun hc => ?_) (fun hc => ?_)
    · rw [if_pos hc] at h
      refine hq_aload_n (pm_d rk_X11_look 71 rfl) rfl 0 rfl ?_
      refine hq_aload_n (pm_d rk_X11_look 72 rfl) rfl 0 rfl ?_
      show hp_go _ _ _ _ _ 145 _ _ _
      refine hq_getI 5 (pm_d rk_X11_look 73 rfl) fl_X11_130 rfl rfl ?_
      refine hq_aload_n (pm_d rk_X11_look 74 rfl) rfl 0 rfl ?_
      refine hq_getI 7 (pm_d rk_X11_look 75 rfl) fl_X11_136 rfl rfl ?_
      refine hq_isub (pm_d rk_X11_look 76 rfl) ?_
      refine hq_bipush (v := (9 : Int32)) (pm_d rk_X11_look 77 rfl) (by decide) ?_
      refine pm_jn (P := fun j169 => ∀ (s : hp_S), j169  s = some s1 → hp_go sh_M me_X11_look (d + 1) none s1 169 [] [.ref 0] s) h ?_ (fun j169 hj169 h => ?_)
      · intro  s h
        dsimp only at h
        refine hq_bipush (v := (21 : Int32)) (pm_d rk_X11_look 84 rfl) (by decide) ?_
        show hp_go _ _ _ _ _ 171 _ _ _
        refine hq_goto 175 (pm_d rk_X11_look 85 rfl) (by decide) ?_
        refine hq_putI 6 (pm_d rk_X11_look 87 rfl) fl_X11_165 rfl rfl ?_
        refine pm_nm (G := fun t26 => hp_go sh_M me_X11_look (d + 1) none s1 178 [] [] t26) h (fun t26 h => ?_)
        refine hq_goto 304 (pm_d rk_X11_look 88 rfl) (by decide) ?_
        exact hq_vret (pm_d rk_X11_look 148 rfl) rfl h
      refine hq_icmp_gt 169 (pm_d rk_X11_look 78 rfl) (by decide) (fun hc => ?_) (fun hc => ?_)
      · rw [if_pos hc] at h
        refine hq_drop [] rfl ?_
        exact hj169  _ h
      rw [if_neg hc] at h
      refine hq_aload_n (pm_d rk_X11_look 79 rfl) rfl 0 rfl ?_
      show hp_go _ _ _ _ _ 159 _ _ _
      refine hq_iconst (v := (0 : Int32)) (pm_d rk_X11_look 80 rfl) (by decide) ?_
      obtain ⟨x28, t27, hq, h⟩ := pm_bd_i h
      have hM := w_M_X11_here_0 (d := d + 0) (h := hq)
      refine hq_callVi (a := 0) (ci := 11) [.int (0 : Int32)] [.ref 0] (pm_d rk_X11_look 81 rfl) ml_X11_161 iv_X11_here rfl rfl rfl rfl rfl (Nat.le_of_ble_eq_true rfl) hM ?_
      obtain ⟨x30, t29, hq, h⟩ := pm_bd_i h
      have hM := w_M_X11_isLetter (d := d + 0) (h := hq)
      refine hq_callSi [.int x28] [.ref 0] (pm_d rk_X11_look 82 rfl) ml_X11_168 iv_X11_isLetter rfl rfl (Nat.le_of_ble_eq_true rfl) hM ?_
      refine hq_if_eq 174 (pm_d rk_X11_look 83 rfl) (by decide) (fun hc => ?_) (fun hc => ?_)
      · rw [if_pos hc] at h
        refine hq_iconst (v := (2 : Int32)) (pm_d rk_X11_look 86 rfl) (by decide) ?_
        refine hq_putI 6 (pm_d rk_X11_look 87 rfl) fl_X11_165 rfl rfl ?_
        refine pm_nm (G := fun t31 => hp_go sh_M me_X11_look (d + 1) none s1 178 [(0, .ref 0)] [] t31) h (fun t31 h => ?_)
        show hp_go _ _ _ _ _ 178 _ _ _
        refine hq_goto 304 (pm_d rk_X11_look 88 rfl) (by decide) ?_
        exact hq_vret (pm_d rk_X11_look 148 rfl) rfl h
      rw [if_neg hc] at h
      refine hq_drop [] rfl ?_
      exact hj169  _ h
    rw [if_neg hc] at h
    refine hq_aload_n (pm_d rk_X11_look 64 rfl) rfl 0 rfl ?_
    refine hq_dup (pm_d rk_X11_look 65 rfl) rfl ?_
    refine hq_getI 5 (pm_d rk_X11_look 66 rfl) fl_X11_130 rfl rfl ?_
    refine hq_iconst (v := (1 : Int32)) (pm_d rk_X11_look 67 rfl) (by decide) ?_
    show hp_go _ _ _ _ _ 136 _ _ _
    refine hq_iadd (pm_d rk_X11_look 68 rfl) ?_
    refine hq_putI 5 (pm_d rk_X11_look 69 rfl) fl_X11_130 rfl rfl ?_
    refine pm_nm (G := fun t32 => hp_go sh_M me_X11_look (d + 1) none s1 140 [(0, .ref 0)] [] t32) h (fun t32 h => ?_)
    refine hq_goto 119 (pm_d rk_X11_look 70 rfl) (by decide) ?_
    refine hq_drop [0] rfl ?_
    exact ih  _ h
def l_M_X11_look_0_66 : Nat → hp_S → Option hp_S
  | 0, _ => none
  | n + 1, s =>
    pm_bd (f_M_X11_here_0 (0 : Int32) s) (fun x34 t33 =>
    pm_bd (f_M_X11_isLetter x34 t33) (fun x36 t35 =>
    pm_let (fun (s : hp_S) =>
      pm_let (hs_pI s 0 5 ((hs_I s 0 5) + (1 : Int32))) (fun t37 =>
      l_M_X11_look_0_66 n  t37)) (fun j88 =>
    if x36 = 0 then
      pm_bd (f_M_X11_here_0 (0 : Int32) t35) (fun x39 t38 =>
      pm_bd (f_M_X11_isDigit x39 t38) (fun x41 t40 =>
      if x41 = 0 then
        pm_bd (f_M_X11_wordOf_0 n t40) (fun x43 t42 =>
        pm_let (hs_pI t42 0 6 x43) (fun t44 =>
        some t44))
      else
        j88  t40))
    else
      j88  t35)))
set_option maxRecDepth 100000 in
set_option maxHeartbeats 400000 in
theorem wl_M_X11_look_0_66 (d : Nat) (s1 : hp_S)  : ∀ (n : Nat) (s : hp_S), l_M_X11_look_0_66 n  s = some s1 → hp_go sh_M me_X11_look (d + 1) none s1 66 [(0, .ref 0)] [] s := by
  intro n
  induction n with
  | zero =>
    intro  s h
    cases h
  | succ n ih =>
    intro  s h
    rw [l_M_X11_look_0_66.eq_2] at h
    refine hq_aload_n (pm_d rk_X11_look 34 rfl) rfl 0 rfl ?_
    refine hq_iconst (v := (0 : Int32)) (pm_d rk_X11_look 35 rfl) (by decide) ?_
    obtain ⟨x34, t33, hq, h⟩ := pm_bd_i h
    have hM := w_M_X11_here_0 (d := d + 0) (h := hq)
    refine hq_callVi (a := 0) (ci := 11) [.int (0 : Int32)] [] (pm_d rk_X11_look 36 rfl) ml_X11_161 iv_X11_here rfl rfl rfl rfl rfl (Nat.le_of_ble_eq_true rfl) hM ?_
    show hp_go _ _ _ _ _ 71 _ _ _
    obtain ⟨x36, t35, hq, h⟩ := pm_bd_i h
    have hM := w_M_X11_isLetter (d := d + 0) (h := hq)
    refine hq_callSi [.int x34] [] (pm_d rk_X11_look 37 rfl) ml_X11_168 iv_X11_isLetter rfl rfl (Nat.le_of_ble_eq_true rfl) hM ?_
    refine pm_jn (P := fun j88 => ∀ (s : hp_S), j88  s = some s1 → hp_go sh_M me_X11_look (d + 1) none s1 88 [(0, .ref 0)] [] s) h ?_ (fun j88 hj88 h => ?_)
    · intro  s h
      dsimp only at h
      refine hq_aload_n (pm_d rk_X11_look 44 rfl) rfl 0 rfl ?_
      refine hq_dup (pm_d rk_X11_look 45 rfl) rfl ?_
      refine hq_getI 5 (pm_d rk_X11_look 46 rfl) fl_X11_130 rfl rfl ?_
      refine hq_iconst (v := (1 : Int32)) (pm_d rk_X11_look 47 rfl) (by decide) ?_
      refine hq_iadd (pm_d rk_X11_look 48 rfl) ?_
      show hp_go _ _ _ _ _ 95 _ _ _
      refine hq_putI 5 (pm_d rk_X11_look 49 rfl) fl_X11_130 rfl rfl ?_
      refine pm_nm (G := fun t37 => hp_go sh_M me_X11_look (d + 1) none s1 98 [(0, .ref 0)] [] t37) h (fun t37 h => ?_)
      refine hq_goto 66 (pm_d rk_X11_look 50 rfl) (by decide) ?_
      refine hq_drop [0] rfl ?_
      exact ih  _ h
    refine hq_if_ne 88 (pm_d rk_X11_look 38 rfl) (by decide) (fun hc => ?_) (fun hc => ?_)
    · rw [if_neg hc] at h
      refine hq_drop [0] rfl ?_
      exact hj88  _ h
    rw [if_pos hc] at h
    refine hq_aload_n (pm_d rk_X11_look 39 rfl) rfl 0 rfl ?_
    refine hq_iconst (v := (0 : Int32)) (pm_d rk_X11_look 40 rfl) (by decide) ?_
    obtain ⟨x39, t38, hq, h⟩ := pm_bd_i h
    have hM := w_M_X11_here_0 (d := d + 0) (h := hq)
    refine hq_callVi (a := 0) (ci := 11) [.int (0 : Int32)] [] (pm_d rk_X11_look 41 rfl) ml_X11_161 iv_X11_here rfl rfl rfl rfl rfl (Nat.le_of_ble_eq_true rfl) hM ?_
    show hp_go _ _ _ _ _ 82 _ _ _
    obtain ⟨x41, t40, hq, h⟩ := pm_bd_i h
    have hM := w_M_X11_isDigit (d := d + 0) (h := hq)
    refine hq_callSi [.int x39] [] (pm_d rk_X11_look 42 rfl) ml_X11_172 iv_X11_isDigit rfl rfl (Nat.le_of_ble_eq_true rfl) hM ?_
    refine hq_if_eq 101 (pm_d rk_X11_look 43 rfl) (by decide) (fun hc => ?_) (fun hc => ?_)
    · rw [if_pos hc] at h
      refine hq_aload_n (pm_d rk_X11_look 51 rfl) rfl 0 rfl ?_
      refine hq_aload_n (pm_d rk_X11_look 52 rfl) rfl 0 rfl ?_
      obtain ⟨x43, t42, hq, h⟩ := pm_bd_i h
      have hM := w_M_X11_wordOf_0 (d := d + 0) (h := hq)
      refine hq_callVi (a := 0) (ci := 11) [] [.ref 0] (pm_d rk_X11_look 53 rfl) ml_X11_175 iv_X11_wordOf rfl rfl rfl rfl rfl (Nat.le_of_ble_eq_true rfl) hM ?_
      refine hq_putI 6 (pm_d rk_X11_look 54 rfl) fl_X11_165 rfl rfl ?_
      refine pm_nm (G := fun t44 => hp_go sh_M me_X11_look (d + 1) none s1 109 [(0, .ref 0)] [] t44) h (fun t44 h => ?_)
      show hp_go _ _ _ _ _ 109 _ _ _
      refine hq_goto 304 (pm_d rk_X11_look 55 rfl) (by decide) ?_
      exact hq_vret (pm_d rk_X11_look 148 rfl) rfl h
    rw [if_neg hc] at h
    refine hq_drop [0] rfl ?_
    exact hj88  _ h
def l_M_X11_look_0_0 : Nat → hp_S → Option hp_S
  | 0, _ => none
  | n + 1, s =>
    pm_bd (f_M_X11_here_0 (0 : Int32) s) (fun x5 t4 =>
    pm_let (fun (s : hp_S) =>
      pm_let (hs_pI s 0 5 ((hs_I s 0 5) + (1 : Int32))) (fun t6 =>
      l_M_X11_look_0_0 n  t6)) (fun j20 =>
    if x5 = (32 : Int32) then
      j20  t4
    else
      pm_bd (f_M_X11_here_0 (0 : Int32) t4) (fun x8 t7 =>
      if x8 = (10 : Int32) then
        j20  t7
      else
        pm_let (hs_pI t7 0 7 (hs_I t7 0 5)) (fun t9 =>
        pm_bd (f_M_X11_here_0 (0 : Int32) t9) (fun x11 t10 =>
        if 0 ≤ x11 then
          pm_bd (f_M_X11_isLetter x11 t10) (fun x13 t12 =>
          if x13 = 0 then
            pm_bd (f_M_X11_isDigit x11 t12) (fun x15 t14 =>
            if x15 = 0 then
              pm_let (hs_pI t14 0 5 ((hs_I t14 0 5) + (1 : Int32))) (fun t16 =>
              pm_let (fun (z275_S0 : Int32) (s : hp_S) =>
                pm_let (hs_pI s 0 6 z275_S0) (fun t17 =>
                if (hs_I t17 0 6) = (14 : Int32) then
                  pm_let (hs_pI t17 0 5 ((hs_I t17 0 5) + (1 : Int32))) (fun t19 =>
                  some t19)
                else
                  pm_let (hs_pI t17 0 5 (hs_I t17 0 5)) (fun t18 =>
                  some t18))) (fun j275 =>
              if x11 = (61 : Int32) then
                pm_bd (f_M_X11_here_0 (0 : Int32) t16) (fun x21 t20 =>
                if x21 = (62 : Int32) then
                  j275 (14 : Int32) t20
                else
                  j275 (15 : Int32) t20)
              else
                if x11 = (40 : Int32) then
                  j275 (16 : Int32) t16
                else
                  if x11 = (41 : Int32) then
                    j275 (17 : Int32) t16
                  else
                    if x11 = (44 : Int32) then
                      j275 (18 : Int32) t16
                    else
                      if x11 = (43 : Int32) then
                        j275 (19 : Int32) t16
                      else
                        if x11 = (60 : Int32) then
                          j275 (20 : Int32) t16
                        else
                          j275 (21 : Int32) t16))
            else
              l_M_X11_look_0_119 n  t14)
          else
            l_M_X11_look_0_66 n  t12)
        else
          pm_let (hs_pI t10 0 6 (0 : Int32)) (fun t45 =>
          some t45))))))
set_option maxRecDepth 100000 in
set_option maxHeartbeats 400000 in
theorem wl_M_X11_look_0_0 (d : Nat) (s1 : hp_S)  : ∀ (n : Nat) (s : hp_S), l_M_X11_look_0_0 n  s = some s1 → hp_go sh_M me_X11_look (d + 1) none s1 0 [(0, .ref 0)] [] s := by
  intro n
  induction n with
  | zero =>
    intro  s h
    cases h
  | succ n ih =>
    intro  s h
    rw [l_M_X11_look_0_0.eq_2] at h
    show hp_go _ _ _ _ _ 0 _ _ _
    refine hq_aload_n (pm_d rk_X11_look 0 rfl) rfl 0 rfl ?_
    refine hq_iconst (v := (0 : Int32)) (pm_d rk_X11_look 1 rfl) (by decide) ?_
    obtain ⟨x5, t4, hq, h⟩ := pm_bd_i h
    have hM := w_M_X11_here_0 (d := d + 0) (h := hq)
    refine hq_callVi (a := 0) (ci := 11) [.int (0 : Int32)] [] (pm_d rk_X11_look 2 rfl) ml_X11_161 iv_X11_here rfl rfl rfl rfl rfl (Nat.le_of_ble_eq_true rfl) hM ?_
    refine hq_bipush (v := (32 : Int32)) (pm_d rk_X11_look 3 rfl) (by decide) ?_
    refine pm_jn (P := fun j20 => ∀ (s : hp_S), j20  s = some s1 → hp_go sh_M me_X11_look (d + 1) none s1 20 [(0, .ref 0)] [] s) h ?_ (fun j20 hj20 h => ?_)
    · intro  s h
      dsimp only at h
      refine hq_aload_n (pm_d rk_X11_look 10 rfl) rfl 0 rfl ?_
      refine hq_dup (pm_d rk_X11_look 11 rfl) rfl ?_
      show hp_go _ _ _ _ _ 22 _ _ _
      refine hq_getI 5 (pm_d rk_X11_look 12 rfl) fl_X11_130 rfl rfl ?_
      refine hq_iconst (v := (1 : Int32)) (pm_d rk_X11_look 13 rfl) (by decide) ?_
      refine hq_iadd (pm_d rk_X11_look 14 rfl) ?_
      refine hq_putI 5 (pm_d rk_X11_look 15 rfl) fl_X11_130 rfl rfl ?_
      refine pm_nm (G := fun t6 => hp_go sh_M me_X11_look (d + 1) none s1 30 [(0, .ref 0)] [] t6) h (fun t6 h => ?_)
      refine hq_goto 0 (pm_d rk_X11_look 16 rfl) (by decide) ?_
      refine hq_drop [0] rfl ?_
      exact ih  _ h
    refine hq_icmp_eq 20 (pm_d rk_X11_look 4 rfl) (by decide) (fun hc => ?_) (fun hc => ?_)
    · rw [if_pos hc] at h
      refine hq_drop [0] rfl ?_
      exact hj20  _ h
    rw [if_neg hc] at h
    show hp_go _ _ _ _ _ 10 _ _ _
    refine hq_aload_n (pm_d rk_X11_look 5 rfl) rfl 0 rfl ?_
    refine hq_iconst (v := (0 : Int32)) (pm_d rk_X11_look 6 rfl) (by decide) ?_
    obtain ⟨x8, t7, hq, h⟩ := pm_bd_i h
    have hM := w_M_X11_here_0 (d := d + 0) (h := hq)
    refine hq_callVi (a := 0) (ci := 11) [.int (0 : Int32)] [] (pm_d rk_X11_look 7 rfl) ml_X11_161 iv_X11_here rfl rfl rfl rfl rfl (Nat.le_of_ble_eq_true rfl) hM ?_
    refine hq_bipush (v := (10 : Int32)) (pm_d rk_X11_look 8 rfl) (by decide) ?_
    refine hq_icmp_ne 33 (pm_d rk_X11_look 9 rfl) (by decide) (fun hc => ?_) (fun hc => ?_)
    · rw [if_neg hc] at h
      refine hq_aload_n (pm_d rk_X11_look 17 rfl) rfl 0 rfl ?_
      show hp_go _ _ _ _ _ 34 _ _ _
      refine hq_aload_n (pm_d rk_X11_look 18 rfl) rfl 0 rfl ?_
      refine hq_getI 5 (pm_d rk_X11_look 19 rfl) fl_X11_130 rfl rfl ?_
      refine hq_putI 7 (pm_d rk_X11_look 20 rfl) fl_X11_136 rfl rfl ?_
      refine pm_nm (G := fun t9 => hp_go sh_M me_X11_look (d + 1) none s1 41 [(0, .ref 0)] [] t9) h (fun t9 h => ?_)
      refine hq_aload_n (pm_d rk_X11_look 21 rfl) rfl 0 rfl ?_
      refine hq_iconst (v := (0 : Int32)) (pm_d rk_X11_look 22 rfl) (by decide) ?_
      obtain ⟨x11, t10, hq, h⟩ := pm_bd_i h
      have hM := w_M_X11_here_0 (d := d + 0) (h := hq)
      refine hq_callVi (a := 0) (ci := 11) [.int (0 : Int32)] [] (pm_d rk_X11_look 23 rfl) ml_X11_161 iv_X11_here rfl rfl rfl rfl rfl (Nat.le_of_ble_eq_true rfl) hM ?_
      show hp_go _ _ _ _ _ 46 _ _ _
      refine hq_istore_n (L1 := [(1, .int x11), (0, .ref 0)]) (pm_d rk_X11_look 24 rfl) rfl (by decide) rfl ?_
      refine hq_iload_n (pm_d rk_X11_look 25 rfl) rfl 0 rfl ?_
      refine hq_if_ge 59 (pm_d rk_X11_look 26 rfl) (by decide) (fun hc => ?_) (fun hc => ?_)
      · rw [if_pos hc] at h
        refine hq_iload_n (pm_d rk_X11_look 31 rfl) rfl 0 rfl ?_
        obtain ⟨x13, t12, hq, h⟩ := pm_bd_i h
        have hM := w_M_X11_isLetter (d := d + 0) (h := hq)
        refine hq_callSi [.int x11] [] (pm_d rk_X11_look 32 rfl) ml_X11_168 iv_X11_isLetter rfl rfl (Nat.le_of_ble_eq_true rfl) hM ?_
        refine hq_if_eq 112 (pm_d rk_X11_look 33 rfl) (by decide) (fun hc => ?_) (fun hc => ?_)
        · rw [if_pos hc] at h
          show hp_go _ _ _ _ _ 112 _ _ _
          refine hq_iload_n (pm_d rk_X11_look 56 rfl) rfl 0 rfl ?_
          obtain ⟨x15, t14, hq, h⟩ := pm_bd_i h
          have hM := w_M_X11_isDigit (d := d + 0) (h := hq)
          refine hq_callSi [.int x11] [] (pm_d rk_X11_look 57 rfl) ml_X11_172 iv_X11_isDigit rfl rfl (Nat.le_of_ble_eq_true rfl) hM ?_
          refine hq_if_eq 181 (pm_d rk_X11_look 58 rfl) (by decide) (fun hc => ?_) (fun hc => ?_)
          · rw [if_pos hc] at h
            refine hq_aload_n (pm_d rk_X11_look 89 rfl) rfl 1 rfl ?_
            refine hq_dup (pm_d rk_X11_look 90 rfl) rfl ?_
            refine hq_getI 5 (pm_d rk_X11_look 91 rfl) fl_X11_130 rfl rfl ?_
            show hp_go _ _ _ _ _ 186 _ _ _
            refine hq_iconst (v := (1 : Int32)) (pm_d rk_X11_look 92 rfl) (by decide) ?_
            refine hq_iadd (pm_d rk_X11_look 93 rfl) ?_
            refine hq_putI 5 (pm_d rk_X11_look 94 rfl) fl_X11_130 rfl rfl ?_
            refine pm_nm (G := fun t16 => hp_go sh_M me_X11_look (d + 1) none s1 191 [(1, .int x11), (0, .ref 0)] [] t16) h (fun t16 h => ?_)
            refine hq_aload_n (pm_d rk_X11_look 95 rfl) rfl 1 rfl ?_
            refine hq_iload_n (pm_d rk_X11_look 96 rfl) rfl 0 rfl ?_
            refine hq_bipush (v := (61 : Int32)) (pm_d rk_X11_look 97 rfl) (by decide) ?_
            refine pm_jn (P := fun j275 => ∀ (z275_S0 : Int32) (s : hp_S), j275 z275_S0 s = some s1 → hp_go sh_M me_X11_look (d + 1) none s1 275 [(0, .ref 0)] [.int z275_S0, .ref 0] s) h ?_ (fun j275 hj275 h => ?_)
            · intro z275_S0 s h
              dsimp only at h
              show hp_go _ _ _ _ _ 275 _ _ _
              refine hq_putI 6 (pm_d rk_X11_look 134 rfl) fl_X11_165 rfl rfl ?_
              refine pm_nm (G := fun t17 => hp_go sh_M me_X11_look (d + 1) none s1 278 [(0, .ref 0)] [] t17) h (fun t17 h => ?_)
              refine hq_aload_n (pm_d rk_X11_look 135 rfl) rfl 0 rfl ?_
              refine hq_aload_n (pm_d rk_X11_look 136 rfl) rfl 0 rfl ?_
              refine hq_getI 6 (pm_d rk_X11_look 137 rfl) fl_X11_165 rfl rfl ?_
              refine hq_bipush (v := (14 : Int32)) (pm_d rk_X11_look 138 rfl) (by decide) ?_
              refine hq_icmp_ne 297 (pm_d rk_X11_look 139 rfl) (by decide) (fun hc => ?_) (fun hc => ?_)
              · rw [if_neg hc] at h
                show hp_go _ _ _ _ _ 297 _ _ _
                refine hq_aload_n (pm_d rk_X11_look 145 rfl) rfl 0 rfl ?_
                refine hq_getI 5 (pm_d rk_X11_look 146 rfl) fl_X11_130 rfl rfl ?_
                refine hq_putI 5 (pm_d rk_X11_look 147 rfl) fl_X11_130 rfl rfl ?_
                refine pm_nm (G := fun t18 => hp_go sh_M me_X11_look (d + 1) none s1 304 [(0, .ref 0)] [] t18) h (fun t18 h => ?_)
                exact hq_vret (pm_d rk_X11_look 148 rfl) rfl h
              rw [if_pos hc] at h
              refine hq_aload_n (pm_d rk_X11_look 140 rfl) rfl 0 rfl ?_
              refine hq_getI 5 (pm_d rk_X11_look 141 rfl) fl_X11_130 rfl rfl ?_
              show hp_go _ _ _ _ _ 292 _ _ _
              refine hq_iconst (v := (1 : Int32)) (pm_d rk_X11_look 142 rfl) (by decide) ?_
              refine hq_iadd (pm_d rk_X11_look 143 rfl) ?_
              refine hq_goto 301 (pm_d rk_X11_look 144 rfl) (by decide) ?_
              refine hq_putI 5 (pm_d rk_X11_look 147 rfl) fl_X11_130 rfl rfl ?_
              refine pm_nm (G := fun t19 => hp_go sh_M me_X11_look (d + 1) none s1 304 [(0, .ref 0)] [] t19) h (fun t19 h => ?_)
              exact hq_vret (pm_d rk_X11_look 148 rfl) rfl h
            refine hq_icmp_ne 218 (pm_d rk_X11_look 98 rfl) (by decide) (fun hc => ?_) (fun hc => ?_)
            · rw [if_neg hc] at h
              show hp_go _ _ _ _ _ 218 _ _ _
              refine hq_iload_n (pm_d rk_X11_look 108 rfl) rfl 0 rfl ?_
              refine hq_bipush (v := (40 : Int32)) (pm_d rk_X11_look 109 rfl) (by decide) ?_
              refine hq_icmp_ne 229 (pm_d rk_X11_look 110 rfl) (by decide) (fun hc => ?_) (fun hc => ?_)
              · rw [if_neg hc] at h
                refine hq_iload_n (pm_d rk_X11_look 113 rfl) rfl 0 rfl ?_
                refine hq_bipush (v := (41 : Int32)) (pm_d rk_X11_look 114 rfl) (by decide) ?_
                refine hq_icmp_ne 240 (pm_d rk_X11_look 115 rfl) (by decide) (fun hc => ?_) (fun hc => ?_)
                · rw [if_neg hc] at h
                  show hp_go _ _ _ _ _ 240 _ _ _
                  refine hq_iload_n (pm_d rk_X11_look 118 rfl) rfl 0 rfl ?_
                  refine hq_bipush (v := (44 : Int32)) (pm_d rk_X11_look 119 rfl) (by decide) ?_
                  refine hq_icmp_ne 251 (pm_d rk_X11_look 120 rfl) (by decide) (fun hc => ?_) (fun hc => ?_)
                  · rw [if_neg hc] at h
                    refine hq_iload_n (pm_d rk_X11_look 123 rfl) rfl 0 rfl ?_
                    refine hq_bipush (v := (43 : Int32)) (pm_d rk_X11_look 124 rfl) (by decide) ?_
                    refine hq_icmp_ne 262 (pm_d rk_X11_look 125 rfl) (by decide) (fun hc => ?_) (fun hc => ?_)
                    · rw [if_neg hc] at h
                      show hp_go _ _ _ _ _ 262 _ _ _
                      refine hq_iload_n (pm_d rk_X11_look 128 rfl) rfl 0 rfl ?_
                      refine hq_bipush (v := (60 : Int32)) (pm_d rk_X11_look 129 rfl) (by decide) ?_
                      refine hq_icmp_ne 273 (pm_d rk_X11_look 130 rfl) (by decide) (fun hc => ?_) (fun hc => ?_)
                      · rw [if_neg hc] at h
                        refine hq_bipush (v := (21 : Int32)) (pm_d rk_X11_look 133 rfl) (by decide) ?_
                        refine hq_drop [1] rfl ?_
                        exact hj275 _ _ h
                      rw [if_pos hc] at h
                      refine hq_bipush (v := (20 : Int32)) (pm_d rk_X11_look 131 rfl) (by decide) ?_
                      refine hq_goto 275 (pm_d rk_X11_look 132 rfl) (by decide) ?_
                      refine hq_drop [1] rfl ?_
                      exact hj275 _ _ h
                    rw [if_pos hc] at h
                    show hp_go _ _ _ _ _ 257 _ _ _
                    refine hq_bipush (v := (19 : Int32)) (pm_d rk_X11_look 126 rfl) (by decide) ?_
                    refine hq_goto 275 (pm_d rk_X11_look 127 rfl) (by decide) ?_
                    refine hq_drop [1] rfl ?_
                    exact hj275 _ _ h
                  rw [if_pos hc] at h
                  refine hq_bipush (v := (18 : Int32)) (pm_d rk_X11_look 121 rfl) (by decide) ?_
                  refine hq_goto 275 (pm_d rk_X11_look 122 rfl) (by decide) ?_
                  refine hq_drop [1] rfl ?_
                  exact hj275 _ _ h
                rw [if_pos hc] at h
                refine hq_bipush (v := (17 : Int32)) (pm_d rk_X11_look 116 rfl) (by decide) ?_
                refine hq_goto 275 (pm_d rk_X11_look 117 rfl) (by decide) ?_
                refine hq_drop [1] rfl ?_
                exact hj275 _ _ h
              rw [if_pos hc] at h
              show hp_go _ _ _ _ _ 224 _ _ _
              refine hq_bipush (v := (16 : Int32)) (pm_d rk_X11_look 111 rfl) (by decide) ?_
              refine hq_goto 275 (pm_d rk_X11_look 112 rfl) (by decide) ?_
              refine hq_drop [1] rfl ?_
              exact hj275 _ _ h
            rw [if_pos hc] at h
            refine hq_aload_n (pm_d rk_X11_look 99 rfl) rfl 1 rfl ?_
            refine hq_iconst (v := (0 : Int32)) (pm_d rk_X11_look 100 rfl) (by decide) ?_
            obtain ⟨x21, t20, hq, h⟩ := pm_bd_i h
            have hM := w_M_X11_here_0 (d := d + 0) (h := hq)
            refine hq_callVi (a := 0) (ci := 11) [.int (0 : Int32)] [.ref 0] (pm_d rk_X11_look 101 rfl) ml_X11_161 iv_X11_here rfl rfl rfl rfl rfl (Nat.le_of_ble_eq_true rfl) hM ?_
            refine hq_bipush (v := (62 : Int32)) (pm_d rk_X11_look 102 rfl) (by decide) ?_
            show hp_go _ _ _ _ _ 205 _ _ _
            refine hq_icmp_ne 213 (pm_d rk_X11_look 103 rfl) (by decide) (fun hc => ?_) (fun hc => ?_)
            · rw [if_neg hc] at h
              refine hq_bipush (v := (15 : Int32)) (pm_d rk_X11_look 106 rfl) (by decide) ?_
              refine hq_goto 275 (pm_d rk_X11_look 107 rfl) (by decide) ?_
              refine hq_drop [1] rfl ?_
              exact hj275 _ _ h
            rw [if_pos hc] at h
            refine hq_bipush (v := (14 : Int32)) (pm_d rk_X11_look 104 rfl) (by decide) ?_
            refine hq_goto 275 (pm_d rk_X11_look 105 rfl) (by decide) ?_
            refine hq_drop [1] rfl ?_
            exact hj275 _ _ h
          rw [if_neg hc] at h
          refine hq_drop [1] rfl ?_
          exact wl_M_X11_look_0_119 d _   _  _ h
        rw [if_neg hc] at h
        refine hq_drop [1] rfl ?_
        exact wl_M_X11_look_0_66 d _   _  _ h
      rw [if_neg hc] at h
      refine hq_aload_n (pm_d rk_X11_look 27 rfl) rfl 1 rfl ?_
      refine hq_iconst (v := (0 : Int32)) (pm_d rk_X11_look 28 rfl) (by decide) ?_
      refine hq_putI 6 (pm_d rk_X11_look 29 rfl) fl_X11_165 rfl rfl ?_
      refine pm_nm (G := fun t45 => hp_go sh_M me_X11_look (d + 1) none s1 56 [(1, .int x11), (0, .ref 0)] [] t45) h (fun t45 h => ?_)
      refine hq_goto 304 (pm_d rk_X11_look 30 rfl) (by decide) ?_
      show hp_go _ _ _ _ _ 304 _ _ _
      exact hq_vret (pm_d rk_X11_look 148 rfl) rfl h
    rw [if_pos hc] at h
    refine hq_drop [0] rfl ?_
    exact hj20  _ h
def f_M_X11_look_0 (n : Nat) (s : hp_S) : Option hp_S :=
  pm_bd (f_M_X11_here_0 (0 : Int32) s) (fun x2 t1 =>
  pm_let (fun (s : hp_S) =>
    pm_let (hs_pI s 0 5 ((hs_I s 0 5) + (1 : Int32))) (fun t3 =>
    l_M_X11_look_0_0 n  t3)) (fun j20 =>
  if x2 = (32 : Int32) then
    j20  t1
  else
    pm_bd (f_M_X11_here_0 (0 : Int32) t1) (fun x47 t46 =>
    if x47 = (10 : Int32) then
      j20  t46
    else
      pm_let (hs_pI t46 0 7 (hs_I t46 0 5)) (fun t48 =>
      pm_bd (f_M_X11_here_0 (0 : Int32) t48) (fun x50 t49 =>
      if 0 ≤ x50 then
        pm_bd (f_M_X11_isLetter x50 t49) (fun x52 t51 =>
        if x52 = 0 then
          pm_bd (f_M_X11_isDigit x50 t51) (fun x54 t53 =>
          if x54 = 0 then
            pm_let (hs_pI t53 0 5 ((hs_I t53 0 5) + (1 : Int32))) (fun t55 =>
            pm_let (fun (z275_S0 : Int32) (s : hp_S) =>
              pm_let (hs_pI s 0 6 z275_S0) (fun t56 =>
              if (hs_I t56 0 6) = (14 : Int32) then
                pm_let (hs_pI t56 0 5 ((hs_I t56 0 5) + (1 : Int32))) (fun t58 =>
                some t58)
              else
                pm_let (hs_pI t56 0 5 (hs_I t56 0 5)) (fun t57 =>
                some t57))) (fun j275 =>
            if x50 = (61 : Int32) then
              pm_bd (f_M_X11_here_0 (0 : Int32) t55) (fun x60 t59 =>
              if x60 = (62 : Int32) then
                j275 (14 : Int32) t59
              else
                j275 (15 : Int32) t59)
            else
              if x50 = (40 : Int32) then
                j275 (16 : Int32) t55
              else
                if x50 = (41 : Int32) then
                  j275 (17 : Int32) t55
                else
                  if x50 = (44 : Int32) then
                    j275 (18 : Int32) t55
                  else
                    if x50 = (43 : Int32) then
                      j275 (19 : Int32) t55
                    else
                      if x50 = (60 : Int32) then
                        j275 (20 : Int32) t55
                      else
                        j275 (21 : Int32) t55))
          else
            l_M_X11_look_0_119 n  t53)
        else
          l_M_X11_look_0_66 n  t51)
      else
        pm_let (hs_pI t49 0 6 (0 : Int32)) (fun t84 =>
        some t84))))))
set_option maxRecDepth 100000 in
set_option maxHeartbeats 400000 in
theorem w_M_X11_look_0 (d : Nat) (n : Nat) (s s1 : hp_S) (h : f_M_X11_look_0 n s = some s1) : hp_is sh_M me_X11_look (d + 1) [.ref 0] s none s1 := by
  refine hp_ofF [(0, .ref 0)] (by decide +kernel) (Nat.le_of_ble_eq_true rfl) rfl ?_
  unfold f_M_X11_look_0 at h
  refine hq_aload_n (pm_d rk_X11_look 0 rfl) rfl 0 rfl ?_
  refine hq_iconst (v := (0 : Int32)) (pm_d rk_X11_look 1 rfl) (by decide) ?_
  obtain ⟨x2, t1, hq, h⟩ := pm_bd_i h
  have hM := w_M_X11_here_0 (d := d + 0) (h := hq)
  refine hq_callVi (a := 0) (ci := 11) [.int (0 : Int32)] [] (pm_d rk_X11_look 2 rfl) ml_X11_161 iv_X11_here rfl rfl rfl rfl rfl (Nat.le_of_ble_eq_true rfl) hM ?_
  refine hq_bipush (v := (32 : Int32)) (pm_d rk_X11_look 3 rfl) (by decide) ?_
  refine pm_jn (P := fun j20 => ∀ (s : hp_S), j20  s = some s1 → hp_go sh_M me_X11_look (d + 1) none s1 20 [(0, .ref 0)] [] s) h ?_ (fun j20 hj20 h => ?_)
  · intro  s h
    dsimp only at h
    refine hq_aload_n (pm_d rk_X11_look 10 rfl) rfl 0 rfl ?_
    show hp_go _ _ _ _ _ 21 _ _ _
    refine hq_dup (pm_d rk_X11_look 11 rfl) rfl ?_
    refine hq_getI 5 (pm_d rk_X11_look 12 rfl) fl_X11_130 rfl rfl ?_
    refine hq_iconst (v := (1 : Int32)) (pm_d rk_X11_look 13 rfl) (by decide) ?_
    refine hq_iadd (pm_d rk_X11_look 14 rfl) ?_
    refine hq_putI 5 (pm_d rk_X11_look 15 rfl) fl_X11_130 rfl rfl ?_
    refine pm_nm (G := fun t3 => hp_go sh_M me_X11_look (d + 1) none s1 30 [(0, .ref 0)] [] t3) h (fun t3 h => ?_)
    refine hq_goto 0 (pm_d rk_X11_look 16 rfl) (by decide) ?_
    refine hq_drop [0] rfl ?_
    exact wl_M_X11_look_0_0 d _   _  _ h
  refine hq_icmp_eq 20 (pm_d rk_X11_look 4 rfl) (by decide) (fun hc => ?_) (fun hc => ?_)
  · rw [if_pos hc] at h
    refine hq_drop [0] rfl ?_
    exact hj20  _ h
  rw [if_neg hc] at h
  refine hq_aload_n (pm_d rk_X11_look 5 rfl) rfl 0 rfl ?_
  refine hq_iconst (v := (0 : Int32)) (pm_d rk_X11_look 6 rfl) (by decide) ?_
  obtain ⟨x47, t46, hq, h⟩ := pm_bd_i h
  have hM := w_M_X11_here_0 (d := d + 0) (h := hq)
  refine hq_callVi (a := 0) (ci := 11) [.int (0 : Int32)] [] (pm_d rk_X11_look 7 rfl) ml_X11_161 iv_X11_here rfl rfl rfl rfl rfl (Nat.le_of_ble_eq_true rfl) hM ?_
  refine hq_bipush (v := (10 : Int32)) (pm_d rk_X11_look 8 rfl) (by decide) ?_
  show hp_go _ _ _ _ _ 17 _ _ _
  refine hq_icmp_ne 33 (pm_d rk_X11_look 9 rfl) (by decide) (fun hc => ?_) (fun hc => ?_)
  · rw [if_neg hc] at h
    refine hq_aload_n (pm_d rk_X11_look 17 rfl) rfl 0 rfl ?_
    refine hq_aload_n (pm_d rk_X11_look 18 rfl) rfl 0 rfl ?_
    refine hq_getI 5 (pm_d rk_X11_look 19 rfl) fl_X11_130 rfl rfl ?_
    refine hq_putI 7 (pm_d rk_X11_look 20 rfl) fl_X11_136 rfl rfl ?_
    refine pm_nm (G := fun t48 => hp_go sh_M me_X11_look (d + 1) none s1 41 [(0, .ref 0)] [] t48) h (fun t48 h => ?_)
    refine hq_aload_n (pm_d rk_X11_look 21 rfl) rfl 0 rfl ?_
    show hp_go _ _ _ _ _ 42 _ _ _
    refine hq_iconst (v := (0 : Int32)) (pm_d rk_X11_look 22 rfl) (by decide) ?_
    obtain ⟨x50, t49, hq, h⟩ := pm_bd_i h
    have hM := w_M_X11_here_0 (d := d + 0) (h := hq)
    refine hq_callVi (a := 0) (ci := 11) [.int (0 : Int32)] [] (pm_d rk_X11_look 23 rfl) ml_X11_161 iv_X11_here rfl rfl rfl rfl rfl (Nat.le_of_ble_eq_true rfl) hM ?_
    refine hq_istore_n (L1 := [(1, .int x50), (0, .ref 0)]) (pm_d rk_X11_look 24 rfl) rfl (by decide) rfl ?_
    refine hq_iload_n (pm_d rk_X11_look 25 rfl) rfl 0 rfl ?_
    refine hq_if_ge 59 (pm_d rk_X11_look 26 rfl) (by decide) (fun hc => ?_) (fun hc => ?_)
    · rw [if_pos hc] at h
      refine hq_iload_n (pm_d rk_X11_look 31 rfl) rfl 0 rfl ?_
      show hp_go _ _ _ _ _ 60 _ _ _
      obtain ⟨x52, t51, hq, h⟩ := pm_bd_i h
      have hM := w_M_X11_isLetter (d := d + 0) (h := hq)
      refine hq_callSi [.int x50] [] (pm_d rk_X11_look 32 rfl) ml_X11_168 iv_X11_isLetter rfl rfl (Nat.le_of_ble_eq_true rfl) hM ?_
      refine hq_if_eq 112 (pm_d rk_X11_look 33 rfl) (by decide) (fun hc => ?_) (fun hc => ?_)
      · rw [if_pos hc] at h
        refine hq_iload_n (pm_d rk_X11_look 56 rfl) rfl 0 rfl ?_
        obtain ⟨x54, t53, hq, h⟩ := pm_bd_i h
        have hM := w_M_X11_isDigit (d := d + 0) (h := hq)
        refine hq_callSi [.int x50] [] (pm_d rk_X11_look 57 rfl) ml_X11_172 iv_X11_isDigit rfl rfl (Nat.le_of_ble_eq_true rfl) hM ?_
        refine hq_if_eq 181 (pm_d rk_X11_look 58 rfl) (by decide) (fun hc => ?_) (fun hc => ?_)
        · rw [if_pos hc] at h
          refine hq_aload_n (pm_d rk_X11_look 89 rfl) rfl 1 rfl ?_
          show hp_go _ _ _ _ _ 182 _ _ _
          refine hq_dup (pm_d rk_X11_look 90 rfl) rfl ?_
          refine hq_getI 5 (pm_d rk_X11_look 91 rfl) fl_X11_130 rfl rfl ?_
          refine hq_iconst (v := (1 : Int32)) (pm_d rk_X11_look 92 rfl) (by decide) ?_
          refine hq_iadd (pm_d rk_X11_look 93 rfl) ?_
          refine hq_putI 5 (pm_d rk_X11_look 94 rfl) fl_X11_130 rfl rfl ?_
          refine pm_nm (G := fun t55 => hp_go sh_M me_X11_look (d + 1) none s1 191 [(1, .int x50), (0, .ref 0)] [] t55) h (fun t55 h => ?_)
          refine hq_aload_n (pm_d rk_X11_look 95 rfl) rfl 1 rfl ?_
          show hp_go _ _ _ _ _ 192 _ _ _
          refine hq_iload_n (pm_d rk_X11_look 96 rfl) rfl 0 rfl ?_
          refine hq_bipush (v := (61 : Int32)) (pm_d rk_X11_look 97 rfl) (by decide) ?_
          refine pm_jn (P := fun j275 => ∀ (z275_S0 : Int32) (s : hp_S), j275 z275_S0 s = some s1 → hp_go sh_M me_X11_look (d + 1) none s1 275 [(0, .ref 0)] [.int z275_S0, .ref 0] s) h ?_ (fun j275 hj275 h => ?_)
          · intro z275_S0 s h
            dsimp only at h
            refine hq_putI 6 (pm_d rk_X11_look 134 rfl) fl_X11_165 rfl rfl ?_
            refine pm_nm (G := fun t56 => hp_go sh_M me_X11_look (d + 1) none s1 278 [(0, .ref 0)] [] t56) h (fun t56 h => ?_)
            refine hq_aload_n (pm_d rk_X11_look 135 rfl) rfl 0 rfl ?_
            refine hq_aload_n (pm_d rk_X11_look 136 rfl) rfl 0 rfl ?_
            refine hq_getI 6 (pm_d rk_X11_look 137 rfl) fl_X11_165 rfl rfl ?_
            show hp_go _ _ _ _ _ 283 _ _ _
            refine hq_bipush (v := (14 : Int32)) (pm_d rk_X11_look 138 rfl) (by decide) ?_
            refine hq_icmp_ne 297 (pm_d rk_X11_look 139 rfl) (by decide) (fun hc => ?_) (fun hc => ?_)
            · rw [if_neg hc] at h
              refine hq_aload_n (pm_d rk_X11_look 145 rfl) rfl 0 rfl ?_
              refine hq_getI 5 (pm_d rk_X11_look 146 rfl) fl_X11_130 rfl rfl ?_
              refine hq_putI 5 (pm_d rk_X11_look 147 rfl) fl_X11_130 rfl rfl ?_
              refine pm_nm (G := fun t57 => hp_go sh_M me_X11_look (d + 1) none s1 304 [(0, .ref 0)] [] t57) h (fun t57 h => ?_)
              exact hq_vret (pm_d rk_X11_look 148 rfl) rfl h
            rw [if_pos hc] at h
            show hp_go _ _ _ _ _ 288 _ _ _
            refine hq_aload_n (pm_d rk_X11_look 140 rfl) rfl 0 rfl ?_
            refine hq_getI 5 (pm_d rk_X11_look 141 rfl) fl_X11_130 rfl rfl ?_
            refine hq_iconst (v := (1 : Int32)) (pm_d rk_X11_look 142 rfl) (by decide) ?_
            refine hq_iadd (pm_d rk_X11_look 143 rfl) ?_
            refine hq_goto 301 (pm_d rk_X11_look 144 rfl) (by decide) ?_
            refine hq_putI 5 (pm_d rk_X11_look 147 rfl) fl_X11_130 rfl rfl ?_
            refine pm_nm (G := fun t58 => hp_go sh_M me_X11_look (d + 1) none s1 304 [(0, .ref 0)] [] t58) h (fun t58 h => ?_)
            show hp_go _ _ _ _ _ 304 _ _ _
            exact hq_vret (pm_d rk_X11_look 148 rfl) rfl h
          refine hq_icmp_ne 218 (pm_d rk_X11_look 98 rfl) (by decide) (fun hc => ?_) (fun hc => ?_)
          · rw [if_neg hc] at h
            refine hq_iload_n (pm_d rk_X11_look 108 rfl) rfl 0 rfl ?_
            refine hq_bipush (v := (40 : Int32)) (pm_d rk_X11_look 109 rfl) (by decide) ?_
            refine hq_icmp_ne 229 (pm_d rk_X11_look 110 rfl) (by decide) (fun hc => ?_) (fun hc => ?_)
            · rw [if_neg hc] at h
              refine hq_iload_n (pm_d rk_X11_look 113 rfl) rfl 0 rfl ?_
              show hp_go _ _ _ _ _ 230 _ _ _
              refine hq_bipush (v := (41 : Int32)) (pm_d rk_X11_look 114 rfl) (by decide) ?_
              refine hq_icmp_ne 240 (pm_d rk_X11_look 115 rfl) (by decide) (fun hc => ?_) (fun hc => ?_)
              · rw [if_neg hc] at h
                refine hq_iload_n (pm_d rk_X11_look 118 rfl) rfl 0 rfl ?_
                refine hq_bipush (v := (44 : Int32)) (pm_d rk_X11_look 119 rfl) (by decide) ?_
                refine hq_icmp_ne 251 (pm_d rk_X11_look 120 rfl) (by decide) (fun hc => ?_) (fun hc => ?_)
                · rw [if_neg hc] at h
                  refine hq_iload_n (pm_d rk_X11_look 123 rfl) rfl 0 rfl ?_
                  show hp_go _ _ _ _ _ 252 _ _ _
                  refine hq_bipush (v := (43 : Int32)) (pm_d rk_X11_look 124 rfl) (by decide) ?_
                  refine hq_icmp_ne 262 (pm_d rk_X11_look 125 rfl) (by decide) (fun hc => ?_) (fun hc => ?_)
                  · rw [if_neg hc] at h
                    refine hq_iload_n (pm_d rk_X11_look 128 rfl) rfl 0 rfl ?_
                    refine hq_bipush (v := (60 : Int32)) (pm_d rk_X11_look 129 rfl) (by decide) ?_
                    refine hq_icmp_ne 273 (pm_d rk_X11_look 130 rfl) (by decide) (fun hc => ?_) (fun hc => ?_)
                    · rw [if_neg hc] at h
                      refine hq_bipush (v := (21 : Int32)) (pm_d rk_X11_look 133 rfl) (by decide) ?_
                      refine hq_drop [1] rfl ?_
                      exact hj275 _ _ h
                    rw [if_pos hc] at h
                    show hp_go _ _ _ _ _ 268 _ _ _
                    refine hq_bipush (v := (20 : Int32)) (pm_d rk_X11_look 131 rfl) (by decide) ?_
                    refine hq_goto 275 (pm_d rk_X11_look 132 rfl) (by decide) ?_
                    refine hq_drop [1] rfl ?_
                    exact hj275 _ _ h
                  rw [if_pos hc] at h
                  refine hq_bipush (v := (19 : Int32)) (pm_d rk_X11_look 126 rfl) (by decide) ?_
                  refine hq_goto 275 (pm_d rk_X11_look 127 rfl) (by decide) ?_
                  refine hq_drop [1] rfl ?_
                  exact hj275 _ _ h
                rw [if_pos hc] at h
                refine hq_bipush (v := (18 : Int32)) (pm_d rk_X11_look 121 rfl) (by decide) ?_
                refine hq_goto 275 (pm_d rk_X11_look 122 rfl) (by decide) ?_
                refine hq_drop [1] rfl ?_
                exact hj275 _ _ h
              rw [if_pos hc] at h
              show hp_go _ _ _ _ _ 235 _ _ _
              refine hq_bipush (v := (17 : Int32)) (pm_d rk_X11_look 116 rfl) (by decide) ?_
              refine hq_goto 275 (pm_d rk_X11_look 117 rfl) (by decide) ?_
              refine hq_drop [1] rfl ?_
              exact hj275 _ _ h
            rw [if_pos hc] at h
            refine hq_bipush (v := (16 : Int32)) (pm_d rk_X11_look 111 rfl) (by decide) ?_
            refine hq_goto 275 (pm_d rk_X11_look 112 rfl) (by decide) ?_
            refine hq_drop [1] rfl ?_
            exact hj275 _ _ h
          rw [if_pos hc] at h
          refine hq_aload_n (pm_d rk_X11_look 99 rfl) rfl 1 rfl ?_
          refine hq_iconst (v := (0 : Int32)) (pm_d rk_X11_look 100 rfl) (by decide) ?_
          show hp_go _ _ _ _ _ 200 _ _ _
          obtain ⟨x60, t59, hq, h⟩ := pm_bd_i h
          have hM := w_M_X11_here_0 (d := d + 0) (h := hq)
          refine hq_callVi (a := 0) (ci := 11) [.int (0 : Int32)] [.ref 0] (pm_d rk_X11_look 101 rfl) ml_X11_161 iv_X11_here rfl rfl rfl rfl rfl (Nat.le_of_ble_eq_true rfl) hM ?_
          refine hq_bipush (v := (62 : Int32)) (pm_d rk_X11_look 102 rfl) (by decide) ?_
          refine hq_icmp_ne 213 (pm_d rk_X11_look 103 rfl) (by decide) (fun hc => ?_) (fun hc => ?_)
          · rw [if_neg hc] at h
            refine hq_bipush (v := (15 : Int32)) (pm_d rk_X11_look 106 rfl) (by decide) ?_
            refine hq_goto 275 (pm_d rk_X11_look 107 rfl) (by decide) ?_
            refine hq_drop [1] rfl ?_
            exact hj275 _ _ h
          rw [if_pos hc] at h
          refine hq_bipush (v := (14 : Int32)) (pm_d rk_X11_look 104 rfl) (by decide) ?_
          show hp_go _ _ _ _ _ 210 _ _ _
          refine hq_goto 275 (pm_d rk_X11_look 105 rfl) (by decide) ?_
          refine hq_drop [1] rfl ?_
          exact hj275 _ _ h
        rw [if_neg hc] at h
        refine hq_drop [1] rfl ?_
        exact wl_M_X11_look_0_119 d _   _  _ h
      rw [if_neg hc] at h
      refine hq_drop [1] rfl ?_
      exact wl_M_X11_look_0_66 d _   _  _ h
    rw [if_neg hc] at h
    refine hq_aload_n (pm_d rk_X11_look 27 rfl) rfl 1 rfl ?_
    refine hq_iconst (v := (0 : Int32)) (pm_d rk_X11_look 28 rfl) (by decide) ?_
    show hp_go _ _ _ _ _ 53 _ _ _
    refine hq_putI 6 (pm_d rk_X11_look 29 rfl) fl_X11_165 rfl rfl ?_
    refine pm_nm (G := fun t84 => hp_go sh_M me_X11_look (d + 1) none s1 56 [(1, .int x50), (0, .ref 0)] [] t84) h (fun t84 h => ?_)
    refine hq_goto 304 (pm_d rk_X11_look 30 rfl) (by decide) ?_
    exact hq_vret (pm_d rk_X11_look 148 rfl) rfl h
  rw [if_pos hc] at h
  refine hq_drop [0] rfl ?_
  exact hj20  _ h
def f_M_X11_pass_0 (n : Nat) (a1 : Int32) (s : hp_S) : Option (Int32 × hp_S) :=
  pm_gd1 (pm_ib (hs_I s 0 11) 501) (
  pm_let (hs_pA s 3 (hs_I s 0 11).toNatClampNeg (hs_I s 0 7)) (fun t1 =>
  pm_gd1 (pm_ib (hs_I t1 0 11) 501) (
  pm_let (hs_pA t1 4 (hs_I t1 0 11).toNatClampNeg (hs_I t1 0 5)) (fun t2 =>
  pm_gd1 (pm_ib (hs_I t2 0 11) 501) (
  pm_let (hs_pA t2 5 (hs_I t2 0 11).toNatClampNeg a1) (fun t3 =>
  pm_let (hs_pI t3 0 11 ((hs_I t3 0 11) + (1 : Int32))) (fun t4 =>
  pm_b1 (f_M_X11_look_0 n t4) (fun t5 =>
  some (((hs_I t5 0 11) - (1 : Int32)), t5)))))))))
set_option maxRecDepth 100000 in
set_option maxHeartbeats 400000 in
theorem w_M_X11_pass_0 (d : Nat) (n : Nat) (a1 : Int32) (s s1 : hp_S) (x0 : Int32) (h : f_M_X11_pass_0 n a1 s = some (x0, s1)) : hp_is sh_M me_X11_pass (d + 2) [.ref 0, .int a1] s (some (.int x0)) s1 := by
  refine hp_ofF [(0, .ref 0), (1, .int a1)] (by decide +kernel) (Nat.le_of_ble_eq_true rfl) rfl ?_
  unfold f_M_X11_pass_0 at h
  refine hq_aload_n (pm_d rk_X11_pass 0 rfl) rfl 0 rfl ?_
  refine hq_getR (h := 3) 8 (pm_d rk_X11_pass 1 rfl) fl_X11_20 rfl rfl ?_
  refine hq_aload_n (pm_d rk_X11_pass 2 rfl) rfl 0 rfl ?_
  refine hq_getI 11 (pm_d rk_X11_pass 3 rfl) fl_X11_183 rfl rfl ?_
  refine hq_aload_n (pm_d rk_X11_pass 4 rfl) rfl 0 rfl ?_
  show hp_go _ _ _ _ _ 9 _ _ _
  refine hq_getI 7 (pm_d rk_X11_pass 5 rfl) fl_X11_136 rfl rfl ?_
  obtain ⟨hg, h⟩ := pm_gd_i h
  refine hq_iastore (pm_d rk_X11_pass 6 rfl) rfl hg ?_
  refine pm_nm (G := fun t1 => hp_go sh_M me_X11_pass (d + 2) (some (.int x0)) s1 13 [(0, .ref 0), (1, .int a1)] [] t1) h (fun t1 h => ?_)
  refine hq_aload_n (pm_d rk_X11_pass 7 rfl) rfl 0 rfl ?_
  refine hq_getR (h := 4) 9 (pm_d rk_X11_pass 8 rfl) fl_X11_24 rfl rfl ?_
  refine hq_aload_n (pm_d rk_X11_pass 9 rfl) rfl 0 rfl ?_
  refine hq_getI 11 (pm_d rk_X11_pass 10 rfl) fl_X11_183 rfl rfl ?_
  show hp_go _ _ _ _ _ 21 _ _ _
  refine hq_aload_n (pm_d rk_X11_pass 11 rfl) rfl 0 rfl ?_
  refine hq_getI 5 (pm_d rk_X11_pass 12 rfl) fl_X11_130 rfl rfl ?_
  obtain ⟨hg, h⟩ := pm_gd_i h
  refine hq_iastore (pm_d rk_X11_pass 13 rfl) rfl hg ?_
  refine pm_nm (G := fun t2 => hp_go sh_M me_X11_pass (d + 2) (some (.int x0)) s1 26 [(0, .ref 0), (1, .int a1)] [] t2) h (fun t2 h => ?_)
  refine hq_aload_n (pm_d rk_X11_pass 14 rfl) rfl 0 rfl ?_
  refine hq_getR (h := 5) 10 (pm_d rk_X11_pass 15 rfl) fl_X11_27 rfl rfl ?_
  refine hq_aload_n (pm_d rk_X11_pass 16 rfl) rfl 0 rfl ?_
  show hp_go _ _ _ _ _ 31 _ _ _
  refine hq_getI 11 (pm_d rk_X11_pass 17 rfl) fl_X11_183 rfl rfl ?_
  refine hq_iload_n (pm_d rk_X11_pass 18 rfl) rfl 1 rfl ?_
  obtain ⟨hg, h⟩ := pm_gd_i h
  refine hq_iastore (pm_d rk_X11_pass 19 rfl) rfl hg ?_
  refine pm_nm (G := fun t3 => hp_go sh_M me_X11_pass (d + 2) (some (.int x0)) s1 36 [(0, .ref 0), (1, .int a1)] [] t3) h (fun t3 h => ?_)
  refine hq_aload_n (pm_d rk_X11_pass 20 rfl) rfl 0 rfl ?_
  refine hq_dup (pm_d rk_X11_pass 21 rfl) rfl ?_
  refine hq_getI 11 (pm_d rk_X11_pass 22 rfl) fl_X11_183 rfl rfl ?_
  show hp_go _ _ _ _ _ 41 _ _ _
  refine hq_iconst (v := (1 : Int32)) (pm_d rk_X11_pass 23 rfl) (by decide) ?_
  refine hq_iadd (pm_d rk_X11_pass 24 rfl) ?_
  refine hq_putI 11 (pm_d rk_X11_pass 25 rfl) fl_X11_183 rfl rfl ?_
  refine pm_nm (G := fun t4 => hp_go sh_M me_X11_pass (d + 2) (some (.int x0)) s1 46 [(0, .ref 0), (1, .int a1)] [] t4) h (fun t4 h => ?_)
  refine hq_aload_n (pm_d rk_X11_pass 26 rfl) rfl 0 rfl ?_
  obtain ⟨t5, hq, h⟩ := pm_b1_i h
  have hM := w_M_X11_look_0 (d := d + 0) (h := hq)
  refine hq_callVv (a := 0) (ci := 11) [] [] (pm_d rk_X11_pass 27 rfl) ml_X11_186 iv_X11_look rfl rfl rfl rfl rfl (Nat.le_of_ble_eq_true rfl) hM ?_
  refine hq_aload_n (pm_d rk_X11_pass 28 rfl) rfl 0 rfl ?_
  show hp_go _ _ _ _ _ 51 _ _ _
  refine hq_getI 11 (pm_d rk_X11_pass 29 rfl) fl_X11_183 rfl rfl ?_
  refine hq_iconst (v := (1 : Int32)) (pm_d rk_X11_pass 30 rfl) (by decide) ?_
  refine hq_isub (pm_d rk_X11_pass 31 rfl) ?_
  exact hq_iret (pm_d rk_X11_pass 32 rfl) rfl h
def f_M_X11_take_0 (n : Nat) (a1 : Int32) (a2 : Int32) (s : hp_S) : Option (Int32 × hp_S) :=
  pm_let (fun (z14_2 : Int32) (z14_S0 : Int32) (s : hp_S) =>
    pm_bd (f_M_X11_need_0 z14_S0 s) (fun x2 t1 =>
    if x2 = 0 then
      some ((0 : Int32), t1)
    else
      pm_bd (f_M_X11_pass_0 n z14_2 t1) (fun x4 t3 =>
      some (x4, t3)))) (fun j14 =>
  if (hs_I s 0 6) = a1 then
    j14 a2 (1 : Int32) s
  else
    j14 a2 (0 : Int32) s)
set_option maxRecDepth 100000 in
set_option maxHeartbeats 400000 in
theorem w_M_X11_take_0 (d : Nat) (n : Nat) (a1 : Int32) (a2 : Int32) (s s1 : hp_S) (x0 : Int32) (h : f_M_X11_take_0 n a1 a2 s = some (x0, s1)) : hp_is sh_M me_X11_take (d + 3) [.ref 0, .int a1, .int a2] s (some (.int x0)) s1 := by
  refine hp_ofF [(0, .ref 0), (1, .int a1), (2, .int a2)] (by decide +kernel) (Nat.le_of_ble_eq_true rfl) rfl ?_
  unfold f_M_X11_take_0 at h
  refine hq_aload_n (pm_d rk_X11_take 0 rfl) rfl 0 rfl ?_
  refine hq_aload_n (pm_d rk_X11_take 1 rfl) rfl 0 rfl ?_
  refine hq_getI 6 (pm_d rk_X11_take 2 rfl) fl_X11_165 rfl rfl ?_
  refine hq_iload_n (pm_d rk_X11_take 3 rfl) rfl 1 rfl ?_
  refine pm_jn (P := fun j14 => ∀ (z14_2 : Int32) (z14_S0 : Int32) (s : hp_S), j14 z14_2 z14_S0 s = some (x0, s1) → hp_go sh_M me_X11_take (d + 3) (some (.int x0)) s1 14 [(0, .ref 0), (2, .int z14_2)] [.int z14_S0, .ref 0] s) h ?_ (fun j14 hj14 h => ?_)
  · intro z14_2 z14_S0 s h
    dsimp only at h
    obtain ⟨x2, t1, hq, h⟩ := pm_bd_i h
    have hM := w_M_X11_need_0 (d := d + 2) (h := hq)
    refine hq_callVi (a := 0) (ci := 11) [.int z14_S0] [] (pm_d rk_X11_take 8 rfl) ml_X11_189 iv_X11_need rfl rfl rfl rfl rfl (Nat.le_of_ble_eq_true rfl) hM ?_
    show hp_go _ _ _ _ _ 17 _ _ _
    refine hq_if_eq 28 (pm_d rk_X11_take 9 rfl) (by decide) (fun hc => ?_) (fun hc => ?_)
    · rw [if_pos hc] at h
      refine hq_iconst (v := (0 : Int32)) (pm_d rk_X11_take 14 rfl) (by decide) ?_
      exact hq_iret (pm_d rk_X11_take 15 rfl) rfl h
    rw [if_neg hc] at h
    refine hq_aload_n (pm_d rk_X11_take 10 rfl) rfl 0 rfl ?_
    refine hq_iload_n (pm_d rk_X11_take 11 rfl) rfl 1 rfl ?_
    obtain ⟨x4, t3, hq, h⟩ := pm_bd_i h
    have hM := w_M_X11_pass_0 (d := d + 0) (h := hq)
    refine hq_callVi (a := 0) (ci := 11) [.int z14_2] [] (pm_d rk_X11_take 12 rfl) ml_X11_193 iv_X11_pass rfl rfl rfl rfl rfl (Nat.le_of_ble_eq_true rfl) hM ?_
    show hp_go _ _ _ _ _ 25 _ _ _
    refine hq_goto 29 (pm_d rk_X11_take 13 rfl) (by decide) ?_
    exact hq_iret (pm_d rk_X11_take 15 rfl) rfl h
  refine hq_icmp_ne 13 (pm_d rk_X11_take 4 rfl) (by decide) (fun hc => ?_) (fun hc => ?_)
  · rw [if_neg hc] at h
    refine hq_iconst (v := (0 : Int32)) (pm_d rk_X11_take 7 rfl) (by decide) ?_
    refine hq_drop [0, 2] rfl ?_
    exact hj14 _ _ _ h
  rw [if_pos hc] at h
  refine hq_iconst (v := (1 : Int32)) (pm_d rk_X11_take 5 rfl) (by decide) ?_
  refine hq_goto 14 (pm_d rk_X11_take 6 rfl) (by decide) ?_
  refine hq_drop [0, 2] rfl ?_
  exact hj14 _ _ _ h
def f_M_X11_make_0 (a1 : Int32) (s : hp_S) : Option (Int32 × hp_S) :=
  pm_let (fun (z15_1 : Int32) (z15_S0 : Int32) (s : hp_S) =>
    pm_bd (f_M_X11_need_0 z15_S0 s) (fun x2 t1 =>
    if x2 = 0 then
      some ((100 : Int32), t1)
    else
      pm_gd1 (pm_ib (hs_I t1 0 12) 101) (
      pm_let (hs_pA t1 6 (hs_I t1 0 12).toNatClampNeg z15_1) (fun t3 =>
      pm_gd1 (pm_ib (hs_I t3 0 12) 101) (
      pm_let (hs_pA t3 7 (hs_I t3 0 12).toNatClampNeg (-1 : Int32)) (fun t4 =>
      pm_gd1 (pm_ib (hs_I t4 0 12) 101) (
      pm_let (hs_pA t4 8 (hs_I t4 0 12).toNatClampNeg (-1 : Int32)) (fun t5 =>
      pm_gd1 (pm_ib (hs_I t5 0 12) 101) (
      pm_let (hs_pA t5 9 (hs_I t5 0 12).toNatClampNeg (-1 : Int32)) (fun t6 =>
      pm_gd1 (pm_ib (hs_I t6 0 12) 101) (
      pm_let (hs_pA t6 11 (hs_I t6 0 12).toNatClampNeg (-1 : Int32)) (fun t7 =>
      pm_let (hs_pI t7 0 12 ((hs_I t7 0 12) + (1 : Int32))) (fun t8 =>
      some (((hs_I t8 0 12) - (1 : Int32)), t8)))))))))))))) (fun j15 =>
  if (100 : Int32) ≤ (hs_I s 0 12) then
    j15 a1 (0 : Int32) s
  else
    j15 a1 (1 : Int32) s)
set_option maxRecDepth 100000 in
set_option maxHeartbeats 400000 in
theorem w_M_X11_make_0 (d : Nat) (a1 : Int32) (s s1 : hp_S) (x0 : Int32) (h : f_M_X11_make_0 a1 s = some (x0, s1)) : hp_is sh_M me_X11_make (d + 1) [.ref 0, .int a1] s (some (.int x0)) s1 := by
  refine hp_ofF [(0, .ref 0), (1, .int a1)] (by decide +kernel) (Nat.le_of_ble_eq_true rfl) rfl ?_
  unfold f_M_X11_make_0 at h
  refine hq_aload_n (pm_d rk_X11_make 0 rfl) rfl 0 rfl ?_
  refine hq_aload_n (pm_d rk_X11_make 1 rfl) rfl 0 rfl ?_
  refine hq_getI 12 (pm_d rk_X11_make 2 rfl) fl_X11_196 rfl rfl ?_
  refine hq_bipush (v := (100 : Int32)) (pm_d rk_X11_make 3 rfl) (by decide) ?_
  refine pm_jn (P := fun j15 => ∀ (z15_1 : Int32) (z15_S0 : Int32) (s : hp_S), j15 z15_1 z15_S0 s = some (x0, s1) → hp_go sh_M me_X11_make (d + 1) (some (.int x0)) s1 15 [(0, .ref 0), (1, .int z15_1)] [.int z15_S0, .ref 0] s) h ?_ (fun j15 hj15 h => ?_)
  · intro z15_1 z15_S0 s h
    dsimp only at h
    obtain ⟨x2, t1, hq, h⟩ := pm_bd_i h
    have hM := w_M_X11_need_0 (d := d + 0) (h := hq)
    refine hq_callVi (a := 0) (ci := 11) [.int z15_S0] [] (pm_d rk_X11_make 8 rfl) ml_X11_189 iv_X11_need rfl rfl rfl rfl rfl (Nat.le_of_ble_eq_true rfl) hM ?_
    show hp_go _ _ _ _ _ 18 _ _ _
    refine hq_if_ne 24 (pm_d rk_X11_make 9 rfl) (by decide) (fun hc => ?_) (fun hc => ?_)
    · rw [if_neg hc] at h
      refine hq_aload_n (pm_d rk_X11_make 12 rfl) rfl 0 rfl ?_
      refine hq_getR (h := 6) 13 (pm_d rk_X11_make 13 rfl) fl_X11_30 rfl rfl ?_
      refine hq_aload_n (pm_d rk_X11_make 14 rfl) rfl 0 rfl ?_
      refine hq_getI 12 (pm_d rk_X11_make 15 rfl) fl_X11_196 rfl rfl ?_
      refine hq_iload_n (pm_d rk_X11_make 16 rfl) rfl 1 rfl ?_
      show hp_go _ _ _ _ _ 33 _ _ _
      obtain ⟨hg, h⟩ := pm_gd_i h
      refine hq_iastore (pm_d rk_X11_make 17 rfl) rfl hg ?_
      refine pm_nm (G := fun t3 => hp_go sh_M me_X11_make (d + 1) (some (.int x0)) s1 34 [(0, .ref 0), (1, .int z15_1)] [] t3) h (fun t3 h => ?_)
      refine hq_aload_n (pm_d rk_X11_make 18 rfl) rfl 0 rfl ?_
      refine hq_getR (h := 7) 14 (pm_d rk_X11_make 19 rfl) fl_X11_33 rfl rfl ?_
      refine hq_aload_n (pm_d rk_X11_make 20 rfl) rfl 0 rfl ?_
      refine hq_getI 12 (pm_d rk_X11_make 21 rfl) fl_X11_196 rfl rfl ?_
      refine hq_iconst (v := (-1 : Int32)) (pm_d rk_X11_make 22 rfl) (by decide) ?_
      show hp_go _ _ _ _ _ 43 _ _ _
      obtain ⟨hg, h⟩ := pm_gd_i h
      refine hq_iastore (pm_d rk_X11_make 23 rfl) rfl hg ?_
      refine pm_nm (G := fun t4 => hp_go sh_M me_X11_make (d + 1) (some (.int x0)) s1 44 [(0, .ref 0), (1, .int z15_1)] [] t4) h (fun t4 h => ?_)
      refine hq_aload_n (pm_d rk_X11_make 24 rfl) rfl 0 rfl ?_
      refine hq_getR (h := 8) 15 (pm_d rk_X11_make 25 rfl) fl_X11_36 rfl rfl ?_
      refine hq_aload_n (pm_d rk_X11_make 26 rfl) rfl 0 rfl ?_
      refine hq_getI 12 (pm_d rk_X11_make 27 rfl) fl_X11_196 rfl rfl ?_
      refine hq_iconst (v := (-1 : Int32)) (pm_d rk_X11_make 28 rfl) (by decide) ?_
      show hp_go _ _ _ _ _ 53 _ _ _
      obtain ⟨hg, h⟩ := pm_gd_i h
      refine hq_iastore (pm_d rk_X11_make 29 rfl) rfl hg ?_
      refine pm_nm (G := fun t5 => hp_go sh_M me_X11_make (d + 1) (some (.int x0)) s1 54 [(0, .ref 0), (1, .int z15_1)] [] t5) h (fun t5 h => ?_)
      refine hq_aload_n (pm_d rk_X11_make 30 rfl) rfl 0 rfl ?_
      refine hq_getR (h := 9) 16 (pm_d rk_X11_make 31 rfl) fl_X11_39 rfl rfl ?_
      refine hq_aload_n (pm_d rk_X11_make 32 rfl) rfl 0 rfl ?_
      refine hq_getI 12 (pm_d rk_X11_make 33 rfl) fl_X11_196 rfl rfl ?_
      refine hq_iconst (v := (-1 : Int32)) (pm_d rk_X11_make 34 rfl) (by decide) ?_
      show hp_go _ _ _ _ _ 63 _ _ _
      obtain ⟨hg, h⟩ := pm_gd_i h
      refine hq_iastore (pm_d rk_X11_make 35 rfl) rfl hg ?_
      refine pm_nm (G := fun t6 => hp_go sh_M me_X11_make (d + 1) (some (.int x0)) s1 64 [(0, .ref 0), (1, .int z15_1)] [] t6) h (fun t6 h => ?_)
      refine hq_aload_n (pm_d rk_X11_make 36 rfl) rfl 0 rfl ?_
      refine hq_getR (h := 11) 18 (pm_d rk_X11_make 37 rfl) fl_X11_45 rfl rfl ?_
      refine hq_aload_n (pm_d rk_X11_make 38 rfl) rfl 0 rfl ?_
      refine hq_getI 12 (pm_d rk_X11_make 39 rfl) fl_X11_196 rfl rfl ?_
      refine hq_iconst (v := (-1 : Int32)) (pm_d rk_X11_make 40 rfl) (by decide) ?_
      show hp_go _ _ _ _ _ 73 _ _ _
      obtain ⟨hg, h⟩ := pm_gd_i h
      refine hq_iastore (pm_d rk_X11_make 41 rfl) rfl hg ?_
      refine pm_nm (G := fun t7 => hp_go sh_M me_X11_make (d + 1) (some (.int x0)) s1 74 [(0, .ref 0), (1, .int z15_1)] [] t7) h (fun t7 h => ?_)
      refine hq_aload_n (pm_d rk_X11_make 42 rfl) rfl 0 rfl ?_
      refine hq_dup (pm_d rk_X11_make 43 rfl) rfl ?_
      refine hq_getI 12 (pm_d rk_X11_make 44 rfl) fl_X11_196 rfl rfl ?_
      refine hq_iconst (v := (1 : Int32)) (pm_d rk_X11_make 45 rfl) (by decide) ?_
      refine hq_iadd (pm_d rk_X11_make 46 rfl) ?_
      show hp_go _ _ _ _ _ 81 _ _ _
      refine hq_putI 12 (pm_d rk_X11_make 47 rfl) fl_X11_196 rfl rfl ?_
      refine pm_nm (G := fun t8 => hp_go sh_M me_X11_make (d + 1) (some (.int x0)) s1 84 [(0, .ref 0), (1, .int z15_1)] [] t8) h (fun t8 h => ?_)
      refine hq_aload_n (pm_d rk_X11_make 48 rfl) rfl 0 rfl ?_
      refine hq_getI 12 (pm_d rk_X11_make 49 rfl) fl_X11_196 rfl rfl ?_
      refine hq_iconst (v := (1 : Int32)) (pm_d rk_X11_make 50 rfl) (by decide) ?_
      refine hq_isub (pm_d rk_X11_make 51 rfl) ?_
      exact hq_iret (pm_d rk_X11_make 52 rfl) rfl h
    rw [if_pos hc] at h
    show hp_go _ _ _ _ _ 21 _ _ _
    refine hq_bipush (v := (100 : Int32)) (pm_d rk_X11_make 10 rfl) (by decide) ?_
    exact hq_iret (pm_d rk_X11_make 11 rfl) rfl h
  refine hq_icmp_ge 14 (pm_d rk_X11_make 4 rfl) (by decide) (fun hc => ?_) (fun hc => ?_)
  · rw [if_pos hc] at h
    refine hq_iconst (v := (0 : Int32)) (pm_d rk_X11_make 7 rfl) (by decide) ?_
    refine hq_drop [0, 1] rfl ?_
    exact hj15 _ _ _ h
  rw [if_neg hc] at h
  refine hq_iconst (v := (1 : Int32)) (pm_d rk_X11_make 5 rfl) (by decide) ?_
  refine hq_goto 15 (pm_d rk_X11_make 6 rfl) (by decide) ?_
  refine hq_drop [0, 1] rfl ?_
  exact hj15 _ _ _ h
def f_M_X11_group_0 (n : Nat) (a1 : Int32) (s : hp_S) : Option hp_S :=
  if (hs_I s 0 6) = (18 : Int32) then
    pm_bd (f_M_X11_make_0 (31 : Int32) s) (fun x2 t1 =>
    if (hs_I t1 0 50) = 0 then
      pm_gd1 (pm_ib x2 101) (
      pm_let (hs_pA t1 10 x2.toNatClampNeg a1) (fun t3 =>
      pm_gd1 (pm_ib a1 501) (
      pm_let (hs_pA t3 5 a1.toNatClampNeg x2) (fun t4 =>
      pm_bd (f_M_X11_pass_0 n x2 t4) (fun x6 t5 =>
      pm_gd1 (pm_ib x2 101) (
      pm_let (hs_pA t5 7 x2.toNatClampNeg (hs_I t5 0 56)) (fun t7 =>
      pm_b1 (f_M_X11_enter_0 (8 : Int32) x2 t7) (fun t8 =>
      some t8))))))))
    else
      some t1)
  else
    pm_bd (f_M_X11_take_0 n (17 : Int32) (-1 : Int32) s) (fun x10 t9 =>
    pm_let (hs_pI t9 0 55 (2 : Int32)) (fun t11 =>
    some t11))
set_option maxRecDepth 100000 in
set_option maxHeartbeats 400000 in
theorem w_M_X11_group_0 (d : Nat) (n : Nat) (a1 : Int32) (s s1 : hp_S) (h : f_M_X11_group_0 n a1 s = some s1) : hp_is sh_M me_X11_group (d + 4) [.ref 0, .int a1] s none s1 := by
  refine hp_ofF [(0, .ref 0), (1, .int a1)] (by decide +kernel) (Nat.le_of_ble_eq_true rfl) rfl ?_
  unfold f_M_X11_group_0 at h
  refine hq_aload_n (pm_d rk_X11_group 0 rfl) rfl 0 rfl ?_
  refine hq_getI 6 (pm_d rk_X11_group 1 rfl) fl_X11_165 rfl rfl ?_
  refine hq_bipush (v := (18 : Int32)) (pm_d rk_X11_group 2 rfl) (by decide) ?_
  refine hq_icmp_eq 23 (pm_d rk_X11_group 3 rfl) (by decide) (fun hc => ?_) (fun hc => ?_)
  · rw [if_pos hc] at h
    refine hq_aload_n (pm_d rk_X11_group 13 rfl) rfl 0 rfl ?_
    show hp_go _ _ _ _ _ 24 _ _ _
    refine hq_bipush (v := (31 : Int32)) (pm_d rk_X11_group 14 rfl) (by decide) ?_
    obtain ⟨x2, t1, hq, h⟩ := pm_bd_i h
    have hM := w_M_X11_make_0 (d := d + 2) (h := hq)
    refine hq_callVi (a := 0) (ci := 11) [.int (31 : Int32)] [] (pm_d rk_X11_group 15 rfl) ml_X11_223 iv_X11_make rfl rfl rfl rfl rfl (Nat.le_of_ble_eq_true rfl) hM ?_
    refine hq_istore_n (L1 := [(2, .int x2), (0, .ref 0), (1, .int a1)]) (pm_d rk_X11_group 16 rfl) rfl (by decide) rfl ?_
    refine hq_aload_n (pm_d rk_X11_group 17 rfl) rfl 1 rfl ?_
    refine hq_getI 50 (pm_d rk_X11_group 18 rfl) fl_X11_179 rfl rfl ?_
    refine hq_if_eq 38 (pm_d rk_X11_group 19 rfl) (by decide) (fun hc => ?_) (fun hc => ?_)
    · rw [if_pos hc] at h
      show hp_go _ _ _ _ _ 38 _ _ _
      refine hq_aload_n (pm_d rk_X11_group 21 rfl) rfl 1 rfl ?_
      refine hq_getR (h := 10) 17 (pm_d rk_X11_group 22 rfl) fl_X11_42 rfl rfl ?_
      refine hq_iload_n (pm_d rk_X11_group 23 rfl) rfl 0 rfl ?_
      refine hq_iload_n (pm_d rk_X11_group 24 rfl) rfl 2 rfl ?_
      obtain ⟨hg, h⟩ := pm_gd_i h
      refine hq_iastore (pm_d rk_X11_group 25 rfl) rfl hg ?_
      refine pm_nm (G := fun t3 => hp_go sh_M me_X11_group (d + 4) none s1 45 [(2, .int x2), (0, .ref 0), (1, .int a1)] [] t3) h (fun t3 h => ?_)
      refine hq_aload_n (pm_d rk_X11_group 26 rfl) rfl 1 rfl ?_
      show hp_go _ _ _ _ _ 46 _ _ _
      refine hq_getR (h := 5) 10 (pm_d rk_X11_group 27 rfl) fl_X11_27 rfl rfl ?_
      refine hq_iload_n (pm_d rk_X11_group 28 rfl) rfl 2 rfl ?_
      refine hq_iload_n (pm_d rk_X11_group 29 rfl) rfl 0 rfl ?_
      obtain ⟨hg, h⟩ := pm_gd_i h
      refine hq_iastore (pm_d rk_X11_group 30 rfl) rfl hg ?_
      refine pm_nm (G := fun t4 => hp_go sh_M me_X11_group (d + 4) none s1 52 [(2, .int x2), (0, .ref 0), (1, .int a1)] [] t4) h (fun t4 h => ?_)
      refine hq_aload_n (pm_d rk_X11_group 31 rfl) rfl 1 rfl ?_
      refine hq_iload_n (pm_d rk_X11_group 32 rfl) rfl 0 rfl ?_
      show hp_go _ _ _ _ _ 54 _ _ _
      obtain ⟨x6, t5, hq, h⟩ := pm_bd_i h
      have hM := w_M_X11_pass_0 (d := d + 1) (h := hq)
      refine hq_callVi (a := 0) (ci := 11) [.int x2] [] (pm_d rk_X11_group 33 rfl) ml_X11_193 iv_X11_pass rfl rfl rfl rfl rfl (Nat.le_of_ble_eq_true rfl) hM ?_
      refine hq_pop (pm_d rk_X11_group 34 rfl) rfl ?_
      refine hq_aload_n (pm_d rk_X11_group 35 rfl) rfl 1 rfl ?_
      refine hq_getR (h := 7) 14 (pm_d rk_X11_group 36 rfl) fl_X11_33 rfl rfl ?_
      refine hq_iload_n (pm_d rk_X11_group 37 rfl) rfl 0 rfl ?_
      refine hq_aload_n (pm_d rk_X11_group 38 rfl) rfl 1 rfl ?_
      show hp_go _ _ _ _ _ 64 _ _ _
      refine hq_getI 56 (pm_d rk_X11_group 39 rfl) fl_X11_220 rfl rfl ?_
      obtain ⟨hg, h⟩ := pm_gd_i h
      refine hq_iastore (pm_d rk_X11_group 40 rfl) rfl hg ?_
      refine pm_nm (G := fun t7 => hp_go sh_M me_X11_group (d + 4) none s1 68 [(2, .int x2), (0, .ref 0), (1, .int a1)] [] t7) h (fun t7 h => ?_)
      refine hq_aload_n (pm_d rk_X11_group 41 rfl) rfl 1 rfl ?_
      refine hq_bipush (v := (8 : Int32)) (pm_d rk_X11_group 42 rfl) (by decide) ?_
      refine hq_iload_n (pm_d rk_X11_group 43 rfl) rfl 0 rfl ?_
      obtain ⟨t8, hq, h⟩ := pm_b1_i h
      have hM := w_M_X11_enter_0 (d := d + 2) (h := hq)
      refine hq_callVv (a := 0) (ci := 11) [.int (8 : Int32), .int x2] [] (pm_d rk_X11_group 44 rfl) ml_X11_205 iv_X11_enter rfl rfl rfl rfl rfl (Nat.le_of_ble_eq_true rfl) hM ?_
      show hp_go _ _ _ _ _ 75 _ _ _
      exact hq_vret (pm_d rk_X11_group 45 rfl) rfl h
    rw [if_neg hc] at h
    exact hq_vret (pm_d rk_X11_group 20 rfl) rfl h
  rw [if_neg hc] at h
  refine hq_aload_n (pm_d rk_X11_group 4 rfl) rfl 0 rfl ?_
  refine hq_bipush (v := (17 : Int32)) (pm_d rk_X11_group 5 rfl) (by decide) ?_
  refine hq_iconst (v := (-1 : Int32)) (pm_d rk_X11_group 6 rfl) (by decide) ?_
  obtain ⟨x10, t9, hq, h⟩ := pm_bd_i h
  have hM := w_M_X11_take_0 (d := d + 0) (h := hq)
  refine hq_callVi (a := 0) (ci := 11) [.int (17 : Int32), .int (-1 : Int32)] [] (pm_d rk_X11_group 7 rfl) ml_X11_226 iv_X11_take rfl rfl rfl rfl rfl (Nat.le_of_ble_eq_true rfl) hM ?_
  show hp_go _ _ _ _ _ 16 _ _ _
  refine hq_pop (pm_d rk_X11_group 8 rfl) rfl ?_
  refine hq_aload_n (pm_d rk_X11_group 9 rfl) rfl 0 rfl ?_
  refine hq_iconst (v := (2 : Int32)) (pm_d rk_X11_group 10 rfl) (by decide) ?_
  refine hq_putI 55 (pm_d rk_X11_group 11 rfl) fl_X11_202 rfl rfl ?_
  refine pm_nm (G := fun t11 => hp_go sh_M me_X11_group (d + 4) none s1 22 [(0, .ref 0), (1, .int a1)] [] t11) h (fun t11 h => ?_)
  exact hq_vret (pm_d rk_X11_group 12 rfl) rfl h
def f_M_X11_ended_0 (n : Nat) (s : hp_S) : Option hp_S :=
  pm_let (hs_pI s 0 23 ((hs_I s 0 23) - (1 : Int32))) (fun t1 =>
  pm_gd1 (pm_ib (hs_I t1 0 23) 22) (
  pm_let (hs_A t1 34 (hs_I t1 0 23).toNatClampNeg) (fun x2 =>
  pm_gd1 (pm_ib (hs_I t1 0 23) 22) (
  pm_let (hs_A t1 35 (hs_I t1 0 23).toNatClampNeg) (fun x3 =>
  if x2 = 0 then
    pm_let (fun (z47_S0 : Int32) (s : hp_S) =>
      pm_bd (f_M_X11_need_0 z47_S0 s) (fun x30 t29 =>
      pm_let (hs_pI t29 0 55 (4 : Int32)) (fun t31 =>
      some t31))) (fun j47 =>
    if (hs_I t1 0 6) = 0 then
      j47 (1 : Int32) t1
    else
      j47 (0 : Int32) t1)
  else
    if x2 = (1 : Int32) then
      pm_gd1 (pm_ib x3 101) (
      pm_let (hs_pA t1 7 x3.toNatClampNeg (hs_I t1 0 56)) (fun t26 =>
      pm_gd1 (pm_ib x3 101) (
      pm_let (hs_pA t26 13 x3.toNatClampNeg (hs_I t26 0 11)) (fun t27 =>
      pm_let (hs_pI t27 0 56 x3) (fun t28 =>
      some t28)))))
    else
      if x2 = (2 : Int32) then
        pm_gd1 (pm_ib x3 101) (
        pm_let (hs_pA t1 7 x3.toNatClampNeg (hs_I t1 0 56)) (fun t20 =>
        pm_gd1 (pm_ib x3 101) (
        pm_let (hs_pA t20 15 x3.toNatClampNeg (hs_I t20 0 11)) (fun t21 =>
        pm_bd (f_M_X11_take_0 n (5 : Int32) x3 t21) (fun x23 t22 =>
        pm_gd1 (pm_ib x3 101) (
        pm_let (hs_pA t22 12 x3.toNatClampNeg (hs_I t22 0 11)) (fun t24 =>
        pm_b1 (f_M_X11_enter_0 (3 : Int32) x3 t24) (fun t25 =>
        some t25))))))))
      else
        if x2 = (3 : Int32) then
          pm_gd1 (pm_ib x3 101) (
          pm_let (hs_pA t1 8 x3.toNatClampNeg (hs_I t1 0 56)) (fun t17 =>
          pm_gd1 (pm_ib x3 101) (
          pm_let (hs_pA t17 13 x3.toNatClampNeg (hs_I t17 0 11)) (fun t18 =>
          pm_let (hs_pI t18 0 56 x3) (fun t19 =>
          some t19)))))
        else
          pm_let (fun (z186_1 : Int32) (z186_2 : Int32) (s : hp_S) =>
            pm_let (fun (z214_1 : Int32) (z214_2 : Int32) (s : hp_S) =>
              pm_let (fun (z227_1 : Int32) (z227_2 : Int32) (z227_S0 : Int32) (s : hp_S) =>
                pm_bd (f_M_X11_take_0 n z227_S0 z227_2 s) (fun x5 t4 =>
                pm_b1 (f_M_X11_enter_0 (z227_1 + (1 : Int32)) z227_2 t4) (fun t6 =>
                some t6))) (fun j227 =>
              if z214_1 = (4 : Int32) then
                j227 z214_1 z214_2 (7 : Int32) s
              else
                j227 z214_1 z214_2 (8 : Int32) s)) (fun j214 =>
            if z186_1 = (4 : Int32) then
              pm_gd1 (pm_ib z186_2 101) (
              pm_let (hs_pA s 7 z186_2.toNatClampNeg (hs_I s 0 56)) (fun t8 =>
              j214 z186_1 z186_2 t8))
            else
              pm_gd1 (pm_ib z186_2 101) (
              pm_let (hs_pA s 8 z186_2.toNatClampNeg (hs_I s 0 56)) (fun t7 =>
              j214 z186_1 z186_2 t7)))) (fun j186 =>
          if x2 = (4 : Int32) then
            j186 x2 x3 t1
          else
            if x2 = (5 : Int32) then
              j186 x2 x3 t1
            else
              if x2 = (6 : Int32) then
                pm_gd1 (pm_ib x3 101) (
                pm_let (hs_pA t1 9 x3.toNatClampNeg (hs_I t1 0 56)) (fun t15 =>
                pm_let (hs_pI t15 0 56 x3) (fun t16 =>
                some t16)))
              else
                if x2 = (7 : Int32) then
                  pm_b1 (f_M_X11_group_0 n x3 t1) (fun t14 =>
                  some t14)
                else
                  pm_gd1 (pm_ib x3 101) (
                  pm_let (hs_pA t1 8 x3.toNatClampNeg (hs_I t1 0 56)) (fun t9 =>
                  pm_bd (f_M_X11_take_0 n (17 : Int32) x3 t9) (fun x11 t10 =>
                  pm_let (hs_pI t10 0 56 x3) (fun t12 =>
                  pm_let (hs_pI t12 0 55 (2 : Int32)) (fun t13 =>
                  some t13)))))))))))
set_option maxRecDepth 100000 in
set_option maxHeartbeats 400000 in
theorem w_M_X11_ended_0 (d : Nat) (n : Nat) (s s1 : hp_S) (h : f_M_X11_ended_0 n s = some s1) : hp_is sh_M me_X11_ended (d + 5) [.ref 0] s none s1 := by
  refine hp_ofF [(0, .ref 0)] (by decide +kernel) (Nat.le_of_ble_eq_true rfl) rfl ?_
  unfold f_M_X11_ended_0 at h
  refine hq_aload_n (pm_d rk_X11_ended 0 rfl) rfl 0 rfl ?_
  refine hq_dup (pm_d rk_X11_ended 1 rfl) rfl ?_
  refine hq_getI 23 (pm_d rk_X11_ended 2 rfl) fl_X11_199 rfl rfl ?_
  refine hq_iconst (v := (1 : Int32)) (pm_d rk_X11_ended 3 rfl) (by decide) ?_
  refine hq_isub (pm_d rk_X11_ended 4 rfl) ?_
  show hp_go _ _ _ _ _ 7 _ _ _
  refine hq_putI 23 (pm_d rk_X11_ended 5 rfl) fl_X11_199 rfl rfl ?_
  refine pm_nm (G := fun t1 => hp_go sh_M me_X11_ended (d + 5) none s1 10 [(0, .ref 0)] [] t1) h (fun t1 h => ?_)
  refine hq_aload_n (pm_d rk_X11_ended 6 rfl) rfl 0 rfl ?_
  refine hq_getR (h := 34) 51 (pm_d rk_X11_ended 7 rfl) fl_X11_115 rfl rfl ?_
  refine hq_aload_n (pm_d rk_X11_ended 8 rfl) rfl 0 rfl ?_
  refine hq_getI 23 (pm_d rk_X11_ended 9 rfl) fl_X11_199 rfl rfl ?_
  obtain ⟨hg, h⟩ := pm_gd_i h
  refine hq_iaload (pm_d rk_X11_ended 10 rfl) rfl hg ?_
  show hp_go _ _ _ _ _ 19 _ _ _
  refine pm_nm (G := fun x2 => hp_go sh_M me_X11_ended (d + 5) none s1 19 [(0, .ref 0)] [.int x2] t1) h (fun x2 h => ?_)
  refine hq_istore_n (L1 := [(1, .int x2), (0, .ref 0)]) (pm_d rk_X11_ended 11 rfl) rfl (by decide) rfl ?_
  refine hq_aload_n (pm_d rk_X11_ended 12 rfl) rfl 1 rfl ?_
  refine hq_getR (h := 35) 52 (pm_d rk_X11_ended 13 rfl) fl_X11_118 rfl rfl ?_
  refine hq_aload_n (pm_d rk_X11_ended 14 rfl) rfl 1 rfl ?_
  refine hq_getI 23 (pm_d rk_X11_ended 15 rfl) fl_X11_199 rfl rfl ?_
  obtain ⟨hg, h⟩ := pm_gd_i h
  refine hq_iaload (pm_d rk_X11_ended 16 rfl) rfl hg ?_
  show hp_go _ _ _ _ _ 29 _ _ _
  refine pm_nm (G := fun x3 => hp_go sh_M me_X11_ended (d + 5) none s1 29 [(1, .int x2), (0, .ref 0)] [.int x3] t1) h (fun x3 h => ?_)
  refine hq_istore_n (L1 := [(2, .int x3), (1, .int x2), (0, .ref 0)]) (pm_d rk_X11_ended 17 rfl) rfl (by decide) rfl ?_
  refine hq_iload_n (pm_d rk_X11_ended 18 rfl) rfl 1 rfl ?_
  refine hq_if_ne 59 (pm_d rk_X11_ended 19 rfl) (by decide) (fun hc => ?_) (fun hc => ?_)
  · rw [if_neg hc] at h
    refine hq_iload_n (pm_d rk_X11_ended 33 rfl) rfl 1 rfl ?_
    refine hq_iconst (v := (1 : Int32)) (pm_d rk_X11_ended 34 rfl) (by decide) ?_
    refine hq_icmp_ne 92 (pm_d rk_X11_ended 35 rfl) (by decide) (fun hc => ?_) (fun hc => ?_)
    · rw [if_neg hc] at h
      show hp_go _ _ _ _ _ 92 _ _ _
      refine hq_iload_n (pm_d rk_X11_ended 52 rfl) rfl 1 rfl ?_
      refine hq_iconst (v := (2 : Int32)) (pm_d rk_X11_ended 53 rfl) (by decide) ?_
      refine hq_icmp_ne 143 (pm_d rk_X11_ended 54 rfl) (by decide) (fun hc => ?_) (fun hc => ?_)
      · rw [if_neg hc] at h
        refine hq_iload_n (pm_d rk_X11_ended 83 rfl) rfl 1 rfl ?_
        refine hq_iconst (v := (3 : Int32)) (pm_d rk_X11_ended 84 rfl) (by decide) ?_
        refine hq_icmp_ne 176 (pm_d rk_X11_ended 85 rfl) (by decide) (fun hc => ?_) (fun hc => ?_)
        · rw [if_neg hc] at h
          show hp_go _ _ _ _ _ 176 _ _ _
          refine hq_iload_n (pm_d rk_X11_ended 102 rfl) rfl 1 rfl ?_
          refine hq_iconst (v := (4 : Int32)) (pm_d rk_X11_ended 103 rfl) (by decide) ?_
          refine pm_jn (P := fun j186 => ∀ (z186_1 : Int32) (z186_2 : Int32) (s : hp_S), j186 z186_1 z186_2 s = some s1 → hp_go sh_M me_X11_ended (d + 5) none s1 186 [(0, .ref 0), (1, .int z186_1), (2, .int z186_2)] [] s) h ?_ (fun j186 hj186 h => ?_)
          · intro z186_1 z186_2 s h
            dsimp only at h
            refine hq_iload_n (pm_d rk_X11_ended 108 rfl) rfl 1 rfl ?_
            refine hq_iconst (v := (4 : Int32)) (pm_d rk_X11_ended 109 rfl) (by decide) ?_
            refine pm_jn (P := fun j214 => ∀ (z214_1 : Int32) (z214_2 : Int32) (s : hp_S), j214 z214_1 z214_2 s = some s1 → hp_go sh_M me_X11_ended (d + 5) none s1 214 [(0, .ref 0), (1, .int z214_1), (2, .int z214_2)] [] s) h ?_ (fun j214 hj214 h => ?_)
            · intro z214_1 z214_2 s h
              dsimp only at h
              refine hq_aload_n (pm_d rk_X11_ended 124 rfl) rfl 0 rfl ?_
              refine hq_iload_n (pm_d rk_X11_ended 125 rfl) rfl 1 rfl ?_
              show hp_go _ _ _ _ _ 216 _ _ _
              refine hq_iconst (v := (4 : Int32)) (pm_d rk_X11_ended 126 rfl) (by decide) ?_
              refine pm_jn (P := fun j227 => ∀ (z227_1 : Int32) (z227_2 : Int32) (z227_S0 : Int32) (s : hp_S), j227 z227_1 z227_2 z227_S0 s = some s1 → hp_go sh_M me_X11_ended (d + 5) none s1 227 [(0, .ref 0), (1, .int z227_1), (2, .int z227_2)] [.int z227_S0, .ref 0] s) h ?_ (fun j227 hj227 h => ?_)
              · intro z227_1 z227_2 z227_S0 s h
                dsimp only at h
                refine hq_iload_n (pm_d rk_X11_ended 131 rfl) rfl 2 rfl ?_
                obtain ⟨x5, t4, hq, h⟩ := pm_bd_i h
                have hM := w_M_X11_take_0 (d := d + 1) (h := hq)
                refine hq_callVi (a := 0) (ci := 11) [.int z227_S0, .int z227_2] [] (pm_d rk_X11_ended 132 rfl) ml_X11_226 iv_X11_take rfl rfl rfl rfl rfl (Nat.le_of_ble_eq_true rfl) hM ?_
                refine hq_pop (pm_d rk_X11_ended 133 rfl) rfl ?_
                refine hq_aload_n (pm_d rk_X11_ended 134 rfl) rfl 0 rfl ?_
                refine hq_iload_n (pm_d rk_X11_ended 135 rfl) rfl 1 rfl ?_
                show hp_go _ _ _ _ _ 234 _ _ _
                refine hq_iconst (v := (1 : Int32)) (pm_d rk_X11_ended 136 rfl) (by decide) ?_
                refine hq_iadd (pm_d rk_X11_ended 137 rfl) ?_
                refine hq_iload_n (pm_d rk_X11_ended 138 rfl) rfl 2 rfl ?_
                obtain ⟨t6, hq, h⟩ := pm_b1_i h
                have hM := w_M_X11_enter_0 (d := d + 3) (h := hq)
                refine hq_callVv (a := 0) (ci := 11) [.int (z227_1 + (1 : Int32)), .int z227_2] [] (pm_d rk_X11_ended 139 rfl) ml_X11_205 iv_X11_enter rfl rfl rfl rfl rfl (Nat.le_of_ble_eq_true rfl) hM ?_
                refine hq_goto 309 (pm_d rk_X11_ended 140 rfl) (by decide) ?_
                exact hq_vret (pm_d rk_X11_ended 178 rfl) rfl h
              show hp_go _ _ _ _ _ 217 _ _ _
              refine hq_icmp_ne 225 (pm_d rk_X11_ended 127 rfl) (by decide) (fun hc => ?_) (fun hc => ?_)
              · rw [if_neg hc] at h
                refine hq_bipush (v := (8 : Int32)) (pm_d rk_X11_ended 130 rfl) (by decide) ?_
                refine hq_drop [0, 1, 2] rfl ?_
                exact hj227 _ _ _ _ h
              rw [if_pos hc] at h
              refine hq_bipush (v := (7 : Int32)) (pm_d rk_X11_ended 128 rfl) (by decide) ?_
              refine hq_goto 227 (pm_d rk_X11_ended 129 rfl) (by decide) ?_
              refine hq_drop [0, 1, 2] rfl ?_
              exact hj227 _ _ _ _ h
            refine hq_icmp_ne 204 (pm_d rk_X11_ended 110 rfl) (by decide) (fun hc => ?_) (fun hc => ?_)
            · rw [if_neg hc] at h
              refine hq_aload_n (pm_d rk_X11_ended 118 rfl) rfl 0 rfl ?_
              show hp_go _ _ _ _ _ 205 _ _ _
              refine hq_getR (h := 8) 15 (pm_d rk_X11_ended 119 rfl) fl_X11_36 rfl rfl ?_
              refine hq_iload_n (pm_d rk_X11_ended 120 rfl) rfl 2 rfl ?_
              refine hq_aload_n (pm_d rk_X11_ended 121 rfl) rfl 0 rfl ?_
              refine hq_getI 56 (pm_d rk_X11_ended 122 rfl) fl_X11_220 rfl rfl ?_
              obtain ⟨hg, h⟩ := pm_gd_i h
              refine hq_iastore (pm_d rk_X11_ended 123 rfl) rfl hg ?_
              refine pm_nm (G := fun t7 => hp_go sh_M me_X11_ended (d + 5) none s1 214 [(0, .ref 0), (1, .int z186_1), (2, .int z186_2)] [] t7) h (fun t7 h => ?_)
              refine hq_drop [0, 1, 2] rfl ?_
              exact hj214 _ _ _ h
            rw [if_pos hc] at h
            refine hq_aload_n (pm_d rk_X11_ended 111 rfl) rfl 0 rfl ?_
            show hp_go _ _ _ _ _ 192 _ _ _
            refine hq_getR (h := 7) 14 (pm_d rk_X11_ended 112 rfl) fl_X11_33 rfl rfl ?_
            refine hq_iload_n (pm_d rk_X11_ended 113 rfl) rfl 2 rfl ?_
            refine hq_aload_n (pm_d rk_X11_ended 114 rfl) rfl 0 rfl ?_
            refine hq_getI 56 (pm_d rk_X11_ended 115 rfl) fl_X11_220 rfl rfl ?_
            obtain ⟨hg, h⟩ := pm_gd_i h
            refine hq_iastore (pm_d rk_X11_ended 116 rfl) rfl hg ?_
            refine pm_nm (G := fun t8 => hp_go sh_M me_X11_ended (d + 5) none s1 201 [(0, .ref 0), (1, .int z186_1), (2, .int z186_2)] [] t8) h (fun t8 h => ?_)
            refine hq_goto 214 (pm_d rk_X11_ended 117 rfl) (by decide) ?_
            refine hq_drop [0, 1, 2] rfl ?_
            exact hj214 _ _ _ h
          show hp_go _ _ _ _ _ 178 _ _ _
          refine hq_icmp_eq 186 (pm_d rk_X11_ended 104 rfl) (by decide) (fun hc => ?_) (fun hc => ?_)
          · rw [if_pos hc] at h
            refine hq_drop [2, 1, 0] rfl ?_
            exact hj186 _ _ _ h
          rw [if_neg hc] at h
          refine hq_iload_n (pm_d rk_X11_ended 105 rfl) rfl 1 rfl ?_
          refine hq_iconst (v := (5 : Int32)) (pm_d rk_X11_ended 106 rfl) (by decide) ?_
          refine hq_icmp_ne 243 (pm_d rk_X11_ended 107 rfl) (by decide) (fun hc => ?_) (fun hc => ?_)
          · rw [if_neg hc] at h
            refine hq_iload_n (pm_d rk_X11_ended 141 rfl) rfl 1 rfl ?_
            refine hq_bipush (v := (6 : Int32)) (pm_d rk_X11_ended 142 rfl) (by decide) ?_
            show hp_go _ _ _ _ _ 246 _ _ _
            refine hq_icmp_ne 267 (pm_d rk_X11_ended 143 rfl) (by decide) (fun hc => ?_) (fun hc => ?_)
            · rw [if_neg hc] at h
              refine hq_iload_n (pm_d rk_X11_ended 154 rfl) rfl 1 rfl ?_
              refine hq_bipush (v := (7 : Int32)) (pm_d rk_X11_ended 155 rfl) (by decide) ?_
              refine hq_icmp_ne 281 (pm_d rk_X11_ended 156 rfl) (by decide) (fun hc => ?_) (fun hc => ?_)
              · rw [if_neg hc] at h
                refine hq_aload_n (pm_d rk_X11_ended 161 rfl) rfl 2 rfl ?_
                refine hq_getR (h := 8) 15 (pm_d rk_X11_ended 162 rfl) fl_X11_36 rfl rfl ?_
                show hp_go _ _ _ _ _ 285 _ _ _
                refine hq_iload_n (pm_d rk_X11_ended 163 rfl) rfl 0 rfl ?_
                refine hq_aload_n (pm_d rk_X11_ended 164 rfl) rfl 2 rfl ?_
                refine hq_getI 56 (pm_d rk_X11_ended 165 rfl) fl_X11_220 rfl rfl ?_
                obtain ⟨hg, h⟩ := pm_gd_i h
                refine hq_iastore (pm_d rk_X11_ended 166 rfl) rfl hg ?_
                refine pm_nm (G := fun t9 => hp_go sh_M me_X11_ended (d + 5) none s1 291 [(2, .int x3), (1, .int x2), (0, .ref 0)] [] t9) h (fun t9 h => ?_)
                refine hq_aload_n (pm_d rk_X11_ended 167 rfl) rfl 2 rfl ?_
                refine hq_bipush (v := (17 : Int32)) (pm_d rk_X11_ended 168 rfl) (by decide) ?_
                show hp_go _ _ _ _ _ 294 _ _ _
                refine hq_iload_n (pm_d rk_X11_ended 169 rfl) rfl 0 rfl ?_
                obtain ⟨x11, t10, hq, h⟩ := pm_bd_i h
                have hM := w_M_X11_take_0 (d := d + 1) (h := hq)
                refine hq_callVi (a := 0) (ci := 11) [.int (17 : Int32), .int x3] [] (pm_d rk_X11_ended 170 rfl) ml_X11_226 iv_X11_take rfl rfl rfl rfl rfl (Nat.le_of_ble_eq_true rfl) hM ?_
                refine hq_pop (pm_d rk_X11_ended 171 rfl) rfl ?_
                refine hq_aload_n (pm_d rk_X11_ended 172 rfl) rfl 2 rfl ?_
                refine hq_iload_n (pm_d rk_X11_ended 173 rfl) rfl 0 rfl ?_
                refine hq_putI 56 (pm_d rk_X11_ended 174 rfl) fl_X11_220 rfl rfl ?_
                refine pm_nm (G := fun t12 => hp_go sh_M me_X11_ended (d + 5) none s1 304 [(2, .int x3), (1, .int x2), (0, .ref 0)] [] t12) h (fun t12 h => ?_)
                show hp_go _ _ _ _ _ 304 _ _ _
                refine hq_aload_n (pm_d rk_X11_ended 175 rfl) rfl 2 rfl ?_
                refine hq_iconst (v := (2 : Int32)) (pm_d rk_X11_ended 176 rfl) (by decide) ?_
                refine hq_putI 55 (pm_d rk_X11_ended 177 rfl) fl_X11_202 rfl rfl ?_
                refine pm_nm (G := fun t13 => hp_go sh_M me_X11_ended (d + 5) none s1 309 [(2, .int x3), (1, .int x2), (0, .ref 0)] [] t13) h (fun t13 h => ?_)
                exact hq_vret (pm_d rk_X11_ended 178 rfl) rfl h
              rw [if_pos hc] at h
              refine hq_aload_n (pm_d rk_X11_ended 157 rfl) rfl 2 rfl ?_
              refine hq_iload_n (pm_d rk_X11_ended 158 rfl) rfl 0 rfl ?_
              show hp_go _ _ _ _ _ 275 _ _ _
              obtain ⟨t14, hq, h⟩ := pm_b1_i h
              have hM := w_M_X11_group_0 (d := d + 0) (h := hq)
              refine hq_callVv (a := 0) (ci := 11) [.int x3] [] (pm_d rk_X11_ended 159 rfl) ml_X11_233 iv_X11_group rfl rfl rfl rfl rfl (Nat.le_of_ble_eq_true rfl) hM ?_
              refine hq_goto 309 (pm_d rk_X11_ended 160 rfl) (by decide) ?_
              exact hq_vret (pm_d rk_X11_ended 178 rfl) rfl h
            rw [if_pos hc] at h
            refine hq_aload_n (pm_d rk_X11_ended 144 rfl) rfl 2 rfl ?_
            refine hq_getR (h := 9) 16 (pm_d rk_X11_ended 145 rfl) fl_X11_39 rfl rfl ?_
            refine hq_iload_n (pm_d rk_X11_ended 146 rfl) rfl 0 rfl ?_
            show hp_go _ _ _ _ _ 254 _ _ _
            refine hq_aload_n (pm_d rk_X11_ended 147 rfl) rfl 2 rfl ?_
            refine hq_getI 56 (pm_d rk_X11_ended 148 rfl) fl_X11_220 rfl rfl ?_
            obtain ⟨hg, h⟩ := pm_gd_i h
            refine hq_iastore (pm_d rk_X11_ended 149 rfl) rfl hg ?_
            refine pm_nm (G := fun t15 => hp_go sh_M me_X11_ended (d + 5) none s1 259 [(2, .int x3), (1, .int x2), (0, .ref 0)] [] t15) h (fun t15 h => ?_)
            refine hq_aload_n (pm_d rk_X11_ended 150 rfl) rfl 2 rfl ?_
            refine hq_iload_n (pm_d rk_X11_ended 151 rfl) rfl 0 rfl ?_
            refine hq_putI 56 (pm_d rk_X11_ended 152 rfl) fl_X11_220 rfl rfl ?_
            refine pm_nm (G := fun t16 => hp_go sh_M me_X11_ended (d + 5) none s1 264 [(2, .int x3), (1, .int x2), (0, .ref 0)] [] t16) h (fun t16 h => ?_)
            show hp_go _ _ _ _ _ 264 _ _ _
            refine hq_goto 309 (pm_d rk_X11_ended 153 rfl) (by decide) ?_
            exact hq_vret (pm_d rk_X11_ended 178 rfl) rfl h
          rw [if_pos hc] at h
          refine hq_drop [2, 1, 0] rfl ?_
          exact hj186 _ _ _ h
        rw [if_pos hc] at h
        refine hq_aload_n (pm_d rk_X11_ended 86 rfl) rfl 2 rfl ?_
        refine hq_getR (h := 8) 15 (pm_d rk_X11_ended 87 rfl) fl_X11_36 rfl rfl ?_
        refine hq_iload_n (pm_d rk_X11_ended 88 rfl) rfl 0 rfl ?_
        refine hq_aload_n (pm_d rk_X11_ended 89 rfl) rfl 2 rfl ?_
        show hp_go _ _ _ _ _ 154 _ _ _
        refine hq_getI 56 (pm_d rk_X11_ended 90 rfl) fl_X11_220 rfl rfl ?_
        obtain ⟨hg, h⟩ := pm_gd_i h
        refine hq_iastore (pm_d rk_X11_ended 91 rfl) rfl hg ?_
        refine pm_nm (G := fun t17 => hp_go sh_M me_X11_ended (d + 5) none s1 158 [(2, .int x3), (1, .int x2), (0, .ref 0)] [] t17) h (fun t17 h => ?_)
        refine hq_aload_n (pm_d rk_X11_ended 92 rfl) rfl 2 rfl ?_
        refine hq_getR (h := 13) 20 (pm_d rk_X11_ended 93 rfl) fl_X11_51 rfl rfl ?_
        refine hq_iload_n (pm_d rk_X11_ended 94 rfl) rfl 0 rfl ?_
        refine hq_aload_n (pm_d rk_X11_ended 95 rfl) rfl 2 rfl ?_
        show hp_go _ _ _ _ _ 164 _ _ _
        refine hq_getI 11 (pm_d rk_X11_ended 96 rfl) fl_X11_183 rfl rfl ?_
        obtain ⟨hg, h⟩ := pm_gd_i h
        refine hq_iastore (pm_d rk_X11_ended 97 rfl) rfl hg ?_
        refine pm_nm (G := fun t18 => hp_go sh_M me_X11_ended (d + 5) none s1 168 [(2, .int x3), (1, .int x2), (0, .ref 0)] [] t18) h (fun t18 h => ?_)
        refine hq_aload_n (pm_d rk_X11_ended 98 rfl) rfl 2 rfl ?_
        refine hq_iload_n (pm_d rk_X11_ended 99 rfl) rfl 0 rfl ?_
        refine hq_putI 56 (pm_d rk_X11_ended 100 rfl) fl_X11_220 rfl rfl ?_
        refine pm_nm (G := fun t19 => hp_go sh_M me_X11_ended (d + 5) none s1 173 [(2, .int x3), (1, .int x2), (0, .ref 0)] [] t19) h (fun t19 h => ?_)
        refine hq_goto 309 (pm_d rk_X11_ended 101 rfl) (by decide) ?_
        show hp_go _ _ _ _ _ 309 _ _ _
        exact hq_vret (pm_d rk_X11_ended 178 rfl) rfl h
      rw [if_pos hc] at h
      refine hq_aload_n (pm_d rk_X11_ended 55 rfl) rfl 2 rfl ?_
      refine hq_getR (h := 7) 14 (pm_d rk_X11_ended 56 rfl) fl_X11_33 rfl rfl ?_
      refine hq_iload_n (pm_d rk_X11_ended 57 rfl) rfl 0 rfl ?_
      refine hq_aload_n (pm_d rk_X11_ended 58 rfl) rfl 2 rfl ?_
      refine hq_getI 56 (pm_d rk_X11_ended 59 rfl) fl_X11_220 rfl rfl ?_
      show hp_go _ _ _ _ _ 106 _ _ _
      obtain ⟨hg, h⟩ := pm_gd_i h
      refine hq_iastore (pm_d rk_X11_ended 60 rfl) rfl hg ?_
      refine pm_nm (G := fun t20 => hp_go sh_M me_X11_ended (d + 5) none s1 107 [(2, .int x3), (1, .int x2), (0, .ref 0)] [] t20) h (fun t20 h => ?_)
      refine hq_aload_n (pm_d rk_X11_ended 61 rfl) rfl 2 rfl ?_
      refine hq_getR (h := 15) 22 (pm_d rk_X11_ended 62 rfl) fl_X11_57 rfl rfl ?_
      refine hq_iload_n (pm_d rk_X11_ended 63 rfl) rfl 0 rfl ?_
      refine hq_aload_n (pm_d rk_X11_ended 64 rfl) rfl 2 rfl ?_
      refine hq_getI 11 (pm_d rk_X11_ended 65 rfl) fl_X11_183 rfl rfl ?_
      show hp_go _ _ _ _ _ 116 _ _ _
      obtain ⟨hg, h⟩ := pm_gd_i h
      refine hq_iastore (pm_d rk_X11_ended 66 rfl) rfl hg ?_
      refine pm_nm (G := fun t21 => hp_go sh_M me_X11_ended (d + 5) none s1 117 [(2, .int x3), (1, .int x2), (0, .ref 0)] [] t21) h (fun t21 h => ?_)
      refine hq_aload_n (pm_d rk_X11_ended 67 rfl) rfl 2 rfl ?_
      refine hq_iconst (v := (5 : Int32)) (pm_d rk_X11_ended 68 rfl) (by decide) ?_
      refine hq_iload_n (pm_d rk_X11_ended 69 rfl) rfl 0 rfl ?_
      obtain ⟨x23, t22, hq, h⟩ := pm_bd_i h
      have hM := w_M_X11_take_0 (d := d + 1) (h := hq)
      refine hq_callVi (a := 0) (ci := 11) [.int (5 : Int32), .int x3] [] (pm_d rk_X11_ended 70 rfl) ml_X11_226 iv_X11_take rfl rfl rfl rfl rfl (Nat.le_of_ble_eq_true rfl) hM ?_
      refine hq_pop (pm_d rk_X11_ended 71 rfl) rfl ?_
      show hp_go _ _ _ _ _ 124 _ _ _
      refine hq_aload_n (pm_d rk_X11_ended 72 rfl) rfl 2 rfl ?_
      refine hq_getR (h := 12) 19 (pm_d rk_X11_ended 73 rfl) fl_X11_48 rfl rfl ?_
      refine hq_iload_n (pm_d rk_X11_ended 74 rfl) rfl 0 rfl ?_
      refine hq_aload_n (pm_d rk_X11_ended 75 rfl) rfl 2 rfl ?_
      refine hq_getI 11 (pm_d rk_X11_ended 76 rfl) fl_X11_183 rfl rfl ?_
      obtain ⟨hg, h⟩ := pm_gd_i h
      refine hq_iastore (pm_d rk_X11_ended 77 rfl) rfl hg ?_
      refine pm_nm (G := fun t24 => hp_go sh_M me_X11_ended (d + 5) none s1 134 [(2, .int x3), (1, .int x2), (0, .ref 0)] [] t24) h (fun t24 h => ?_)
      show hp_go _ _ _ _ _ 134 _ _ _
      refine hq_aload_n (pm_d rk_X11_ended 78 rfl) rfl 2 rfl ?_
      refine hq_iconst (v := (3 : Int32)) (pm_d rk_X11_ended 79 rfl) (by decide) ?_
      refine hq_iload_n (pm_d rk_X11_ended 80 rfl) rfl 0 rfl ?_
      obtain ⟨t25, hq, h⟩ := pm_b1_i h
      have hM := w_M_X11_enter_0 (d := d + 3) (h := hq)
      refine hq_callVv (a := 0) (ci := 11) [.int (3 : Int32), .int x3] [] (pm_d rk_X11_ended 81 rfl) ml_X11_205 iv_X11_enter rfl rfl rfl rfl rfl (Nat.le_of_ble_eq_true rfl) hM ?_
      refine hq_goto 309 (pm_d rk_X11_ended 82 rfl) (by decide) ?_
      exact hq_vret (pm_d rk_X11_ended 178 rfl) rfl h
    rw [if_pos hc] at h
    show hp_go _ _ _ _ _ 64 _ _ _
    refine hq_aload_n (pm_d rk_X11_ended 36 rfl) rfl 2 rfl ?_
    refine hq_getR (h := 7) 14 (pm_d rk_X11_ended 37 rfl) fl_X11_33 rfl rfl ?_
    refine hq_iload_n (pm_d rk_X11_ended 38 rfl) rfl 0 rfl ?_
    refine hq_aload_n (pm_d rk_X11_ended 39 rfl) rfl 2 rfl ?_
    refine hq_getI 56 (pm_d rk_X11_ended 40 rfl) fl_X11_220 rfl rfl ?_
    obtain ⟨hg, h⟩ := pm_gd_i h
    refine hq_iastore (pm_d rk_X11_ended 41 rfl) rfl hg ?_
    refine pm_nm (G := fun t26 => hp_go sh_M me_X11_ended (d + 5) none s1 74 [(2, .int x3), (1, .int x2), (0, .ref 0)] [] t26) h (fun t26 h => ?_)
    show hp_go _ _ _ _ _ 74 _ _ _
    refine hq_aload_n (pm_d rk_X11_ended 42 rfl) rfl 2 rfl ?_
    refine hq_getR (h := 13) 20 (pm_d rk_X11_ended 43 rfl) fl_X11_51 rfl rfl ?_
    refine hq_iload_n (pm_d rk_X11_ended 44 rfl) rfl 0 rfl ?_
    refine hq_aload_n (pm_d rk_X11_ended 45 rfl) rfl 2 rfl ?_
    refine hq_getI 11 (pm_d rk_X11_ended 46 rfl) fl_X11_183 rfl rfl ?_
    obtain ⟨hg, h⟩ := pm_gd_i h
    refine hq_iastore (pm_d rk_X11_ended 47 rfl) rfl hg ?_
    refine pm_nm (G := fun t27 => hp_go sh_M me_X11_ended (d + 5) none s1 84 [(2, .int x3), (1, .int x2), (0, .ref 0)] [] t27) h (fun t27 h => ?_)
    show hp_go _ _ _ _ _ 84 _ _ _
    refine hq_aload_n (pm_d rk_X11_ended 48 rfl) rfl 2 rfl ?_
    refine hq_iload_n (pm_d rk_X11_ended 49 rfl) rfl 0 rfl ?_
    refine hq_putI 56 (pm_d rk_X11_ended 50 rfl) fl_X11_220 rfl rfl ?_
    refine pm_nm (G := fun t28 => hp_go sh_M me_X11_ended (d + 5) none s1 89 [(2, .int x3), (1, .int x2), (0, .ref 0)] [] t28) h (fun t28 h => ?_)
    refine hq_goto 309 (pm_d rk_X11_ended 51 rfl) (by decide) ?_
    exact hq_vret (pm_d rk_X11_ended 178 rfl) rfl h
  rw [if_pos hc] at h
  refine hq_aload_n (pm_d rk_X11_ended 20 rfl) rfl 2 rfl ?_
  show hp_go _ _ _ _ _ 35 _ _ _
  refine hq_aload_n (pm_d rk_X11_ended 21 rfl) rfl 2 rfl ?_
  refine hq_getI 6 (pm_d rk_X11_ended 22 rfl) fl_X11_165 rfl rfl ?_
  refine pm_jn (P := fun j47 => ∀ (z47_S0 : Int32) (s : hp_S), j47 z47_S0 s = some s1 → hp_go sh_M me_X11_ended (d + 5) none s1 47 [(0, .ref 0)] [.int z47_S0, .ref 0] s) h ?_ (fun j47 hj47 h => ?_)
  · intro z47_S0 s h
    dsimp only at h
    obtain ⟨x30, t29, hq, h⟩ := pm_bd_i h
    have hM := w_M_X11_need_0 (d := d + 4) (h := hq)
    refine hq_callVi (a := 0) (ci := 11) [.int z47_S0] [] (pm_d rk_X11_ended 27 rfl) ml_X11_189 iv_X11_need rfl rfl rfl rfl rfl (Nat.le_of_ble_eq_true rfl) hM ?_
    refine hq_pop (pm_d rk_X11_ended 28 rfl) rfl ?_
    refine hq_aload_n (pm_d rk_X11_ended 29 rfl) rfl 0 rfl ?_
    refine hq_iconst (v := (4 : Int32)) (pm_d rk_X11_ended 30 rfl) (by decide) ?_
    show hp_go _ _ _ _ _ 53 _ _ _
    refine hq_putI 55 (pm_d rk_X11_ended 31 rfl) fl_X11_202 rfl rfl ?_
    refine pm_nm (G := fun t31 => hp_go sh_M me_X11_ended (d + 5) none s1 56 [(0, .ref 0)] [] t31) h (fun t31 h => ?_)
    refine hq_goto 309 (pm_d rk_X11_ended 32 rfl) (by decide) ?_
    exact hq_vret (pm_d rk_X11_ended 178 rfl) rfl h
  refine hq_if_ne 46 (pm_d rk_X11_ended 23 rfl) (by decide) (fun hc => ?_) (fun hc => ?_)
  · rw [if_neg hc] at h
    refine hq_iconst (v := (0 : Int32)) (pm_d rk_X11_ended 26 rfl) (by decide) ?_
    refine hq_drop [2] rfl ?_
    exact hj47 _ _ h
  rw [if_pos hc] at h
  refine hq_iconst (v := (1 : Int32)) (pm_d rk_X11_ended 24 rfl) (by decide) ?_
  show hp_go _ _ _ _ _ 43 _ _ _
  refine hq_goto 47 (pm_d rk_X11_ended 25 rfl) (by decide) ?_
  refine hq_drop [2] rfl ?_
  exact hj47 _ _ h
def f_M_X11_single_0 (n : Nat) (a1 : Int32) (s : hp_S) : Option (Int32 × hp_S) :=
  pm_bd (f_M_X11_make_0 a1 s) (fun x2 t1 =>
  if (hs_I t1 0 50) = 0 then
    pm_bd (f_M_X11_pass_0 n x2 t1) (fun x4 t3 =>
    pm_gd1 (pm_ib x2 101) (
    pm_let (hs_pA t3 10 x2.toNatClampNeg x4) (fun t5 =>
    pm_gd1 (pm_ib x2 101) (
    pm_gd1 (pm_ib x2 101) (
    pm_let (hs_pA t5 11 x2.toNatClampNeg (hs_A t5 10 x2.toNatClampNeg)) (fun t6 =>
    some (x2, t6)))))))
  else
    some (x2, t1))
set_option maxRecDepth 100000 in
set_option maxHeartbeats 400000 in
theorem w_M_X11_single_0 (d : Nat) (n : Nat) (a1 : Int32) (s s1 : hp_S) (x0 : Int32) (h : f_M_X11_single_0 n a1 s = some (x0, s1)) : hp_is sh_M me_X11_single (d + 3) [.ref 0, .int a1] s (some (.int x0)) s1 := by
  refine hp_ofF [(0, .ref 0), (1, .int a1)] (by decide +kernel) (Nat.le_of_ble_eq_true rfl) rfl ?_
  unfold f_M_X11_single_0 at h
  refine hq_aload_n (pm_d rk_X11_single 0 rfl) rfl 0 rfl ?_
  refine hq_iload_n (pm_d rk_X11_single 1 rfl) rfl 1 rfl ?_
  obtain ⟨x2, t1, hq, h⟩ := pm_bd_i h
  have hM := w_M_X11_make_0 (d := d + 1) (h := hq)
  refine hq_callVi (a := 0) (ci := 11) [.int a1] [] (pm_d rk_X11_single 2 rfl) ml_X11_223 iv_X11_make rfl rfl rfl rfl rfl (Nat.le_of_ble_eq_true rfl) hM ?_
  refine hq_istore_n (L1 := [(2, .int x2), (0, .ref 0), (1, .int a1)]) (pm_d rk_X11_single 3 rfl) rfl (by decide) rfl ?_
  refine hq_aload_n (pm_d rk_X11_single 4 rfl) rfl 1 rfl ?_
  show hp_go _ _ _ _ _ 7 _ _ _
  refine hq_getI 50 (pm_d rk_X11_single 5 rfl) fl_X11_179 rfl rfl ?_
  refine hq_if_ne 36 (pm_d rk_X11_single 6 rfl) (by decide) (fun hc => ?_) (fun hc => ?_)
  · rw [if_neg hc] at h
    refine hq_iload_n (pm_d rk_X11_single 22 rfl) rfl 0 rfl ?_
    exact hq_iret (pm_d rk_X11_single 23 rfl) rfl h
  rw [if_pos hc] at h
  refine hq_aload_n (pm_d rk_X11_single 7 rfl) rfl 1 rfl ?_
  refine hq_getR (h := 10) 17 (pm_d rk_X11_single 8 rfl) fl_X11_42 rfl rfl ?_
  show hp_go _ _ _ _ _ 17 _ _ _
  refine hq_iload_n (pm_d rk_X11_single 9 rfl) rfl 0 rfl ?_
  refine hq_aload_n (pm_d rk_X11_single 10 rfl) rfl 1 rfl ?_
  refine hq_iload_n (pm_d rk_X11_single 11 rfl) rfl 0 rfl ?_
  obtain ⟨x4, t3, hq, h⟩ := pm_bd_i h
  have hM := w_M_X11_pass_0 (d := d + 0) (h := hq)
  refine hq_callVi (a := 0) (ci := 11) [.int x2] [.int x2, .ref 10] (pm_d rk_X11_single 12 rfl) ml_X11_193 iv_X11_pass rfl rfl rfl rfl rfl (Nat.le_of_ble_eq_true rfl) hM ?_
  obtain ⟨hg, h⟩ := pm_gd_i h
  refine hq_iastore (pm_d rk_X11_single 13 rfl) rfl hg ?_
  refine pm_nm (G := fun t5 => hp_go sh_M me_X11_single (d + 3) (some (.int x0)) s1 24 [(2, .int x2), (0, .ref 0), (1, .int a1)] [] t5) h (fun t5 h => ?_)
  refine hq_aload_n (pm_d rk_X11_single 14 rfl) rfl 1 rfl ?_
  show hp_go _ _ _ _ _ 25 _ _ _
  refine hq_getR (h := 11) 18 (pm_d rk_X11_single 15 rfl) fl_X11_45 rfl rfl ?_
  refine hq_iload_n (pm_d rk_X11_single 16 rfl) rfl 0 rfl ?_
  refine hq_aload_n (pm_d rk_X11_single 17 rfl) rfl 1 rfl ?_
  refine hq_getR (h := 10) 17 (pm_d rk_X11_single 18 rfl) fl_X11_42 rfl rfl ?_
  refine hq_iload_n (pm_d rk_X11_single 19 rfl) rfl 0 rfl ?_
  obtain ⟨hg, h⟩ := pm_gd_i h
  refine hq_iaload (pm_d rk_X11_single 20 rfl) rfl hg ?_
  show hp_go _ _ _ _ _ 35 _ _ _
  obtain ⟨hg, h⟩ := pm_gd_i h
  refine hq_iastore (pm_d rk_X11_single 21 rfl) rfl hg ?_
  refine pm_nm (G := fun t6 => hp_go sh_M me_X11_single (d + 3) (some (.int x0)) s1 36 [(2, .int x2), (0, .ref 0), (1, .int a1)] [] t6) h (fun t6 h => ?_)
  refine hq_iload_n (pm_d rk_X11_single 22 rfl) rfl 0 rfl ?_
  exact hq_iret (pm_d rk_X11_single 23 rfl) rfl h
def f_M_X11_called_0 (n : Nat) (s : hp_S) : Option hp_S :=
  pm_let ((hs_I s 0 23) - (1 : Int32)) (fun x1 =>
  if (hs_I s 0 6) = (16 : Int32) then
    pm_bd (f_M_X11_single_0 n (30 : Int32) s) (fun x16 t15 =>
    pm_gd1 (pm_ib x16 101) (
    pm_let (hs_pA t15 7 x16.toNatClampNeg (hs_I t15 0 56)) (fun t17 =>
    if (hs_I t17 0 50) = 0 then
      pm_b1 (f_M_X11_enter_0 (9 : Int32) x16 t17) (fun t18 =>
      some t18)
    else
      some t17)))
  else
    pm_gd1 (pm_ib x1 22) (
    pm_let (fun (z89_1 : Int32) (s : hp_S) =>
      pm_let (fun (z116_1 : Int32) (s : hp_S) =>
        pm_let (fun (z130_1 : Int32) (z130_S0 : Int32) (s : hp_S) =>
          pm_bd (f_M_X11_single_0 n (hs_I s 0 6) s) (fun x3 t2 =>
          pm_gd1 (pm_ib x3 101) (
          pm_let (hs_pA t2 7 x3.toNatClampNeg (hs_I t2 0 56)) (fun t4 =>
          pm_let (fun (z169_1 : Int32) (z169_2 : Int32) (z169_3 : Int32) (z169_S0 : Int32) (z169_S1 : Int32) (s : hp_S) =>
            pm_gd1 (pm_ib z169_S1 22) (
            pm_let (hs_pA s 37 z169_S1.toNatClampNeg z169_S0) (fun t5 =>
            pm_let (fun (z189_S0 : Int32) (z189_S1 : Int32) (s : hp_S) =>
              pm_gd1 (pm_ib z189_S1 22) (
              pm_let (hs_pA s 36 z189_S1.toNatClampNeg z189_S0) (fun t6 =>
              pm_let (hs_pI t6 0 55 (1 : Int32)) (fun t7 =>
              some t7)))) (fun j189 =>
            if z169_2 = 0 then
              j189 z169_3 z169_1 t5
            else
              pm_gd1 (pm_ib z169_1 22) (
              j189 (hs_A t5 36 z169_1.toNatClampNeg) z169_1 t5))))) (fun j169 =>
          if z130_S0 = 0 then
            pm_gd1 (pm_ib z130_1 22) (
            j169 z130_1 z130_S0 x3 (hs_A t4 37 z130_1.toNatClampNeg) z130_1 t4)
          else
            j169 z130_1 z130_S0 x3 x3 z130_1 t4))))) (fun j130 =>
        if (hs_I s 0 6) = (19 : Int32) then
          j130 z116_1 (1 : Int32) s
        else
          j130 z116_1 (0 : Int32) s)) (fun j116 =>
      if (hs_I s 0 6) = (19 : Int32) then
        j116 z89_1 s
      else
        pm_let (fun (z196_1 : Int32) (s : hp_S) =>
          pm_gd1 (pm_ib z196_1 22) (
          if (hs_A s 36 z196_1.toNatClampNeg) < 0 then
            pm_let (hs_pI s 0 55 (3 : Int32)) (fun t8 =>
            some t8)
          else
            pm_gd1 (pm_ib z196_1 22) (
            pm_gd1 (pm_ib (hs_A s 36 z196_1.toNatClampNeg) 101) (
            pm_let (hs_pA s 8 (hs_A s 36 z196_1.toNatClampNeg).toNatClampNeg (hs_I s 0 56)) (fun t9 =>
            pm_gd1 (pm_ib z196_1 22) (
            pm_let (hs_pI t9 0 56 (hs_A t9 36 z196_1.toNatClampNeg)) (fun t10 =>
            pm_let (hs_pI t10 0 55 (3 : Int32)) (fun t11 =>
            some t11)))))))) (fun j196 =>
        if (hs_I s 0 6) = (20 : Int32) then
          pm_gd1 (pm_ib z89_1 22) (
          if 0 ≤ (hs_A s 36 z89_1.toNatClampNeg) then
            j196 z89_1 s
          else
            j116 z89_1 s)
        else
          j196 z89_1 s))) (fun j89 =>
    if (hs_A s 37 x1.toNatClampNeg) < 0 then
      j89 x1 s
    else
      pm_gd1 (pm_ib x1 22) (
      pm_gd1 (pm_ib (hs_A s 37 x1.toNatClampNeg) 101) (
      pm_let (hs_pA s 8 (hs_A s 37 x1.toNatClampNeg).toNatClampNeg (hs_I s 0 56)) (fun t12 =>
      pm_gd1 (pm_ib x1 22) (
      pm_let (hs_pI t12 0 56 (hs_A t12 37 x1.toNatClampNeg)) (fun t13 =>
      pm_gd1 (pm_ib x1 22) (
      pm_let (hs_pA t13 37 x1.toNatClampNeg (-1 : Int32)) (fun t14 =>
      j89 x1 t14))))))))))
set_option maxRecDepth 100000 in
set_option maxHeartbeats 400000 in
theorem w_M_X11_called_0 (d : Nat) (n : Nat) (s s1 : hp_S) (h : f_M_X11_called_0 n s = some s1) : hp_is sh_M me_X11_called (d + 4) [.ref 0] s none s1 := by
  refine hp_ofF [(0, .ref 0)] (by decide +kernel) (Nat.le_of_ble_eq_true rfl) rfl ?_
  unfold f_M_X11_called_0 at h
  refine hq_aload_n (pm_d rk_X11_called 0 rfl) rfl 0 rfl ?_
  refine hq_getI 23 (pm_d rk_X11_called 1 rfl) fl_X11_199 rfl rfl ?_
  refine hq_iconst (v := (1 : Int32)) (pm_d rk_X11_called 2 rfl) (by decide) ?_
  refine hq_isub (pm_d rk_X11_called 3 rfl) ?_
  refine pm_nm (G := fun x1 => hp_go sh_M me_X11_called (d + 4) none s1 6 [(0, .ref 0)] [.int x1] s) h (fun x1 h => ?_)
  refine hq_istore_n (L1 := [(1, .int x1), (0, .ref 0)]) (pm_d rk_X11_called 4 rfl) rfl (by decide) rfl ?_
  show hp_go _ _ _ _ _ 7 _ _ _
  refine hq_aload_n (pm_d rk_X11_called 5 rfl) rfl 1 rfl ?_
  refine hq_getI 6 (pm_d rk_X11_called 6 rfl) fl_X11_165 rfl rfl ?_
  refine hq_bipush (v := (16 : Int32)) (pm_d rk_X11_called 7 rfl) (by decide) ?_
  refine hq_icmp_ne 48 (pm_d rk_X11_called 8 rfl) (by decide) (fun hc => ?_) (fun hc => ?_)
  · rw [if_neg hc] at h
    refine hq_aload_n (pm_d rk_X11_called 27 rfl) rfl 1 rfl ?_
    refine hq_getR (h := 37) 54 (pm_d rk_X11_called 28 rfl) fl_X11_124 rfl rfl ?_
    show hp_go _ _ _ _ _ 52 _ _ _
    refine hq_iload_n (pm_d rk_X11_called 29 rfl) rfl 0 rfl ?_
    obtain ⟨hg, h⟩ := pm_gd_i h
    refine hq_iaload (pm_d rk_X11_called 30 rfl) rfl hg ?_
    refine pm_jn (P := fun j89 => ∀ (z89_1 : Int32) (s : hp_S), j89 z89_1 s = some s1 → hp_go sh_M me_X11_called (d + 4) none s1 89 [(0, .ref 0), (1, .int z89_1)] [] s) h ?_ (fun j89 hj89 h => ?_)
    · intro z89_1 s h
      dsimp only at h
      refine hq_aload_n (pm_d rk_X11_called 52 rfl) rfl 0 rfl ?_
      refine hq_getI 6 (pm_d rk_X11_called 53 rfl) fl_X11_165 rfl rfl ?_
      refine hq_bipush (v := (19 : Int32)) (pm_d rk_X11_called 54 rfl) (by decide) ?_
      refine pm_jn (P := fun j116 => ∀ (z116_1 : Int32) (s : hp_S), j116 z116_1 s = some s1 → hp_go sh_M me_X11_called (d + 4) none s1 116 [(0, .ref 0), (1, .int z116_1)] [] s) h ?_ (fun j116 hj116 h => ?_)
      · intro z116_1 s h
        dsimp only at h
        refine hq_aload_n (pm_d rk_X11_called 65 rfl) rfl 0 rfl ?_
        show hp_go _ _ _ _ _ 117 _ _ _
        refine hq_getI 6 (pm_d rk_X11_called 66 rfl) fl_X11_165 rfl rfl ?_
        refine hq_bipush (v := (19 : Int32)) (pm_d rk_X11_called 67 rfl) (by decide) ?_
        refine pm_jn (P := fun j130 => ∀ (z130_1 : Int32) (z130_S0 : Int32) (s : hp_S), j130 z130_1 z130_S0 s = some s1 → hp_go sh_M me_X11_called (d + 4) none s1 130 [(0, .ref 0), (1, .int z130_1)] [.int z130_S0] s) h ?_ (fun j130 hj130 h => ?_)
        · intro z130_1 z130_S0 s h
          dsimp only at h
          refine hq_istore_n (L1 := [(2, .int z130_S0), (0, .ref 0), (1, .int z130_1)]) (pm_d rk_X11_called 72 rfl) rfl (by decide) rfl ?_
          refine hq_aload_n (pm_d rk_X11_called 73 rfl) rfl 1 rfl ?_
          refine hq_aload_n (pm_d rk_X11_called 74 rfl) rfl 1 rfl ?_
          refine hq_getI 6 (pm_d rk_X11_called 75 rfl) fl_X11_165 rfl rfl ?_
          show hp_go _ _ _ _ _ 136 _ _ _
          obtain ⟨x3, t2, hq, h⟩ := pm_bd_i h
          have hM := w_M_X11_single_0 (d := d + 0) (h := hq)
          refine hq_callVi (a := 0) (ci := 11) [.int (hs_I s 0 6)] [] (pm_d rk_X11_called 76 rfl) ml_X11_230 iv_X11_single rfl rfl rfl rfl rfl (Nat.le_of_ble_eq_true rfl) hM ?_
          refine hq_istore_n (L1 := [(3, .int x3), (2, .int z130_S0), (0, .ref 0), (1, .int z130_1)]) (pm_d rk_X11_called 77 rfl) rfl (by decide) rfl ?_
          refine hq_aload_n (pm_d rk_X11_called 78 rfl) rfl 2 rfl ?_
          refine hq_getR (h := 7) 14 (pm_d rk_X11_called 79 rfl) fl_X11_33 rfl rfl ?_
          refine hq_iload_n (pm_d rk_X11_called 80 rfl) rfl 0 rfl ?_
          refine hq_aload_n (pm_d rk_X11_called 81 rfl) rfl 2 rfl ?_
          show hp_go _ _ _ _ _ 146 _ _ _
          refine hq_getI 56 (pm_d rk_X11_called 82 rfl) fl_X11_220 rfl rfl ?_
          obtain ⟨hg, h⟩ := pm_gd_i h
          refine hq_iastore (pm_d rk_X11_called 83 rfl) rfl hg ?_
          refine pm_nm (G := fun t4 => hp_go sh_M me_X11_called (d + 4) none s1 150 [(3, .int x3), (2, .int z130_S0), (0, .ref 0), (1, .int z130_1)] [] t4) h (fun t4 h => ?_)
          refine hq_aload_n (pm_d rk_X11_called 84 rfl) rfl 2 rfl ?_
          refine hq_getR (h := 37) 54 (pm_d rk_X11_called 85 rfl) fl_X11_124 rfl rfl ?_
          refine hq_iload_n (pm_d rk_X11_called 86 rfl) rfl 3 rfl ?_
          refine hq_iload_n (pm_d rk_X11_called 87 rfl) rfl 1 rfl ?_
          refine pm_jn (P := fun j169 => ∀ (z169_1 : Int32) (z169_2 : Int32) (z169_3 : Int32) (z169_S0 : Int32) (z169_S1 : Int32) (s : hp_S), j169 z169_1 z169_2 z169_3 z169_S0 z169_S1 s = some s1 → hp_go sh_M me_X11_called (d + 4) none s1 169 [(0, .ref 0), (1, .int z169_1), (2, .int z169_2), (3, .int z169_3)] [.int z169_S0, .int z169_S1, .ref 37] s) h ?_ (fun j169 hj169 h => ?_)
          · intro z169_1 z169_2 z169_3 z169_S0 z169_S1 s h
            dsimp only at h
            show hp_go _ _ _ _ _ 169 _ _ _
            obtain ⟨hg, h⟩ := pm_gd_i h
            refine hq_iastore (pm_d rk_X11_called 95 rfl) rfl hg ?_
            refine pm_nm (G := fun t5 => hp_go sh_M me_X11_called (d + 4) none s1 170 [(0, .ref 0), (1, .int z169_1), (2, .int z169_2), (3, .int z169_3)] [] t5) h (fun t5 h => ?_)
            refine hq_aload_n (pm_d rk_X11_called 96 rfl) rfl 0 rfl ?_
            refine hq_getR (h := 36) 53 (pm_d rk_X11_called 97 rfl) fl_X11_121 rfl rfl ?_
            refine hq_iload_n (pm_d rk_X11_called 98 rfl) rfl 1 rfl ?_
            refine hq_iload_n (pm_d rk_X11_called 99 rfl) rfl 2 rfl ?_
            refine pm_jn (P := fun j189 => ∀ (z189_S0 : Int32) (z189_S1 : Int32) (s : hp_S), j189 z189_S0 z189_S1 s = some s1 → hp_go sh_M me_X11_called (d + 4) none s1 189 [(0, .ref 0)] [.int z189_S0, .int z189_S1, .ref 36] s) h ?_ (fun j189 hj189 h => ?_)
            · intro z189_S0 z189_S1 s h
              dsimp only at h
              obtain ⟨hg, h⟩ := pm_gd_i h
              refine hq_iastore (pm_d rk_X11_called 107 rfl) rfl hg ?_
              refine pm_nm (G := fun t6 => hp_go sh_M me_X11_called (d + 4) none s1 190 [(0, .ref 0)] [] t6) h (fun t6 h => ?_)
              show hp_go _ _ _ _ _ 190 _ _ _
              refine hq_aload_n (pm_d rk_X11_called 108 rfl) rfl 0 rfl ?_
              refine hq_iconst (v := (1 : Int32)) (pm_d rk_X11_called 109 rfl) (by decide) ?_
              refine hq_putI 55 (pm_d rk_X11_called 110 rfl) fl_X11_202 rfl rfl ?_
              refine pm_nm (G := fun t7 => hp_go sh_M me_X11_called (d + 4) none s1 195 [(0, .ref 0)] [] t7) h (fun t7 h => ?_)
              exact hq_vret (pm_d rk_X11_called 111 rfl) rfl h
            refine hq_if_eq 188 (pm_d rk_X11_called 100 rfl) (by decide) (fun hc => ?_) (fun hc => ?_)
            · rw [if_pos hc] at h
              refine hq_iload_n (pm_d rk_X11_called 106 rfl) rfl 3 rfl ?_
              refine hq_drop [0] rfl ?_
              exact hj189 _ _ _ h
            rw [if_neg hc] at h
            show hp_go _ _ _ _ _ 179 _ _ _
            refine hq_aload_n (pm_d rk_X11_called 101 rfl) rfl 0 rfl ?_
            refine hq_getR (h := 36) 53 (pm_d rk_X11_called 102 rfl) fl_X11_121 rfl rfl ?_
            refine hq_iload_n (pm_d rk_X11_called 103 rfl) rfl 1 rfl ?_
            obtain ⟨hg, h⟩ := pm_gd_i h
            refine hq_iaload (pm_d rk_X11_called 104 rfl) rfl hg ?_
            refine hq_goto 189 (pm_d rk_X11_called 105 rfl) (by decide) ?_
            refine hq_drop [0] rfl ?_
            exact hj189 _ _ _ h
          refine hq_if_eq 163 (pm_d rk_X11_called 88 rfl) (by decide) (fun hc => ?_) (fun hc => ?_)
          · rw [if_pos hc] at h
            show hp_go _ _ _ _ _ 163 _ _ _
            refine hq_aload_n (pm_d rk_X11_called 91 rfl) rfl 2 rfl ?_
            refine hq_getR (h := 37) 54 (pm_d rk_X11_called 92 rfl) fl_X11_124 rfl rfl ?_
            refine hq_iload_n (pm_d rk_X11_called 93 rfl) rfl 3 rfl ?_
            obtain ⟨hg, h⟩ := pm_gd_i h
            refine hq_iaload (pm_d rk_X11_called 94 rfl) rfl hg ?_
            refine hq_drop [2, 3, 1, 0] rfl ?_
            exact hj169 _ _ _ _ _ _ h
          rw [if_neg hc] at h
          refine hq_iload_n (pm_d rk_X11_called 89 rfl) rfl 0 rfl ?_
          refine hq_goto 169 (pm_d rk_X11_called 90 rfl) (by decide) ?_
          refine hq_drop [2, 3, 1, 0] rfl ?_
          exact hj169 _ _ _ _ _ _ h
        show hp_go _ _ _ _ _ 122 _ _ _
        refine hq_icmp_ne 129 (pm_d rk_X11_called 68 rfl) (by decide) (fun hc => ?_) (fun hc => ?_)
        · rw [if_neg hc] at h
          refine hq_iconst (v := (0 : Int32)) (pm_d rk_X11_called 71 rfl) (by decide) ?_
          refine hq_drop [0, 1] rfl ?_
          exact hj130 _ _ _ h
        rw [if_pos hc] at h
        refine hq_iconst (v := (1 : Int32)) (pm_d rk_X11_called 69 rfl) (by decide) ?_
        refine hq_goto 130 (pm_d rk_X11_called 70 rfl) (by decide) ?_
        refine hq_drop [0, 1] rfl ?_
        exact hj130 _ _ _ h
      refine hq_icmp_eq 116 (pm_d rk_X11_called 55 rfl) (by decide) (fun hc => ?_) (fun hc => ?_)
      · rw [if_pos hc] at h
        refine hq_drop [0, 1] rfl ?_
        exact hj116 _ _ h
      rw [if_neg hc] at h
      refine hq_aload_n (pm_d rk_X11_called 56 rfl) rfl 0 rfl ?_
      show hp_go _ _ _ _ _ 99 _ _ _
      refine hq_getI 6 (pm_d rk_X11_called 57 rfl) fl_X11_165 rfl rfl ?_
      refine hq_bipush (v := (20 : Int32)) (pm_d rk_X11_called 58 rfl) (by decide) ?_
      refine pm_jn (P := fun j196 => ∀ (z196_1 : Int32) (s : hp_S), j196 z196_1 s = some s1 → hp_go sh_M me_X11_called (d + 4) none s1 196 [(0, .ref 0), (1, .int z196_1)] [] s) h ?_ (fun j196 hj196 h => ?_)
      · intro z196_1 s h
        dsimp only at h
        refine hq_aload_n (pm_d rk_X11_called 112 rfl) rfl 0 rfl ?_
        refine hq_getR (h := 36) 53 (pm_d rk_X11_called 113 rfl) fl_X11_121 rfl rfl ?_
        refine hq_iload_n (pm_d rk_X11_called 114 rfl) rfl 1 rfl ?_
        obtain ⟨hg, h⟩ := pm_gd_i h
        refine hq_iaload (pm_d rk_X11_called 115 rfl) rfl hg ?_
        show hp_go _ _ _ _ _ 202 _ _ _
        refine hq_if_lt 230 (pm_d rk_X11_called 116 rfl) (by decide) (fun hc => ?_) (fun hc => ?_)
        · rw [if_pos hc] at h
          refine hq_aload_n (pm_d rk_X11_called 132 rfl) rfl 0 rfl ?_
          refine hq_iconst (v := (3 : Int32)) (pm_d rk_X11_called 133 rfl) (by decide) ?_
          refine hq_putI 55 (pm_d rk_X11_called 134 rfl) fl_X11_202 rfl rfl ?_
          refine pm_nm (G := fun t8 => hp_go sh_M me_X11_called (d + 4) none s1 235 [(0, .ref 0), (1, .int z196_1)] [] t8) h (fun t8 h => ?_)
          exact hq_vret (pm_d rk_X11_called 135 rfl) rfl h
        rw [if_neg hc] at h
        refine hq_aload_n (pm_d rk_X11_called 117 rfl) rfl 0 rfl ?_
        show hp_go _ _ _ _ _ 206 _ _ _
        refine hq_getR (h := 8) 15 (pm_d rk_X11_called 118 rfl) fl_X11_36 rfl rfl ?_
        refine hq_aload_n (pm_d rk_X11_called 119 rfl) rfl 0 rfl ?_
        refine hq_getR (h := 36) 53 (pm_d rk_X11_called 120 rfl) fl_X11_121 rfl rfl ?_
        refine hq_iload_n (pm_d rk_X11_called 121 rfl) rfl 1 rfl ?_
        obtain ⟨hg, h⟩ := pm_gd_i h
        refine hq_iaload (pm_d rk_X11_called 122 rfl) rfl hg ?_
        refine hq_aload_n (pm_d rk_X11_called 123 rfl) rfl 0 rfl ?_
        show hp_go _ _ _ _ _ 216 _ _ _
        refine hq_getI 56 (pm_d rk_X11_called 124 rfl) fl_X11_220 rfl rfl ?_
        obtain ⟨hg, h⟩ := pm_gd_i h
        refine hq_iastore (pm_d rk_X11_called 125 rfl) rfl hg ?_
        refine pm_nm (G := fun t9 => hp_go sh_M me_X11_called (d + 4) none s1 220 [(0, .ref 0), (1, .int z196_1)] [] t9) h (fun t9 h => ?_)
        refine hq_aload_n (pm_d rk_X11_called 126 rfl) rfl 0 rfl ?_
        refine hq_aload_n (pm_d rk_X11_called 127 rfl) rfl 0 rfl ?_
        refine hq_getR (h := 36) 53 (pm_d rk_X11_called 128 rfl) fl_X11_121 rfl rfl ?_
        refine hq_iload_n (pm_d rk_X11_called 129 rfl) rfl 1 rfl ?_
        show hp_go _ _ _ _ _ 226 _ _ _
        obtain ⟨hg, h⟩ := pm_gd_i h
        refine hq_iaload (pm_d rk_X11_called 130 rfl) rfl hg ?_
        refine hq_putI 56 (pm_d rk_X11_called 131 rfl) fl_X11_220 rfl rfl ?_
        refine pm_nm (G := fun t10 => hp_go sh_M me_X11_called (d + 4) none s1 230 [(0, .ref 0), (1, .int z196_1)] [] t10) h (fun t10 h => ?_)
        refine hq_aload_n (pm_d rk_X11_called 132 rfl) rfl 0 rfl ?_
        refine hq_iconst (v := (3 : Int32)) (pm_d rk_X11_called 133 rfl) (by decide) ?_
        refine hq_putI 55 (pm_d rk_X11_called 134 rfl) fl_X11_202 rfl rfl ?_
        refine pm_nm (G := fun t11 => hp_go sh_M me_X11_called (d + 4) none s1 235 [(0, .ref 0), (1, .int z196_1)] [] t11) h (fun t11 h => ?_)
        exact hq_vret (pm_d rk_X11_called 135 rfl) rfl h
      show hp_go _ _ _ _ _ 104 _ _ _
      refine hq_icmp_ne 196 (pm_d rk_X11_called 59 rfl) (by decide) (fun hc => ?_) (fun hc => ?_)
      · rw [if_neg hc] at h
        refine hq_drop [0, 1] rfl ?_
        exact hj196 _ _ h
      rw [if_pos hc] at h
      refine hq_aload_n (pm_d rk_X11_called 60 rfl) rfl 0 rfl ?_
      refine hq_getR (h := 36) 53 (pm_d rk_X11_called 61 rfl) fl_X11_121 rfl rfl ?_
      refine hq_iload_n (pm_d rk_X11_called 62 rfl) rfl 1 rfl ?_
      obtain ⟨hg, h⟩ := pm_gd_i h
      refine hq_iaload (pm_d rk_X11_called 63 rfl) rfl hg ?_
      refine hq_if_ge 196 (pm_d rk_X11_called 64 rfl) (by decide) (fun hc => ?_) (fun hc => ?_)
      · rw [if_pos hc] at h
        refine hq_drop [0, 1] rfl ?_
        exact hj196 _ _ h
      rw [if_neg hc] at h
      refine hq_drop [0, 1] rfl ?_
      exact hj116 _ _ h
    show hp_go _ _ _ _ _ 54 _ _ _
    refine hq_if_lt 89 (pm_d rk_X11_called 31 rfl) (by decide) (fun hc => ?_) (fun hc => ?_)
    · rw [if_pos hc] at h
      refine hq_drop [1, 0] rfl ?_
      exact hj89 _ _ h
    rw [if_neg hc] at h
    refine hq_aload_n (pm_d rk_X11_called 32 rfl) rfl 1 rfl ?_
    refine hq_getR (h := 8) 15 (pm_d rk_X11_called 33 rfl) fl_X11_36 rfl rfl ?_
    refine hq_aload_n (pm_d rk_X11_called 34 rfl) rfl 1 rfl ?_
    refine hq_getR (h := 37) 54 (pm_d rk_X11_called 35 rfl) fl_X11_124 rfl rfl ?_
    refine hq_iload_n (pm_d rk_X11_called 36 rfl) rfl 0 rfl ?_
    show hp_go _ _ _ _ _ 66 _ _ _
    obtain ⟨hg, h⟩ := pm_gd_i h
    refine hq_iaload (pm_d rk_X11_called 37 rfl) rfl hg ?_
    refine hq_aload_n (pm_d rk_X11_called 38 rfl) rfl 1 rfl ?_
    refine hq_getI 56 (pm_d rk_X11_called 39 rfl) fl_X11_220 rfl rfl ?_
    obtain ⟨hg, h⟩ := pm_gd_i h
    refine hq_iastore (pm_d rk_X11_called 40 rfl) rfl hg ?_
    refine pm_nm (G := fun t12 => hp_go sh_M me_X11_called (d + 4) none s1 72 [(1, .int x1), (0, .ref 0)] [] t12) h (fun t12 h => ?_)
    refine hq_aload_n (pm_d rk_X11_called 41 rfl) rfl 1 rfl ?_
    refine hq_aload_n (pm_d rk_X11_called 42 rfl) rfl 1 rfl ?_
    show hp_go _ _ _ _ _ 74 _ _ _
    refine hq_getR (h := 37) 54 (pm_d rk_X11_called 43 rfl) fl_X11_124 rfl rfl ?_
    refine hq_iload_n (pm_d rk_X11_called 44 rfl) rfl 0 rfl ?_
    obtain ⟨hg, h⟩ := pm_gd_i h
    refine hq_iaload (pm_d rk_X11_called 45 rfl) rfl hg ?_
    refine hq_putI 56 (pm_d rk_X11_called 46 rfl) fl_X11_220 rfl rfl ?_
    refine pm_nm (G := fun t13 => hp_go sh_M me_X11_called (d + 4) none s1 82 [(1, .int x1), (0, .ref 0)] [] t13) h (fun t13 h => ?_)
    refine hq_aload_n (pm_d rk_X11_called 47 rfl) rfl 1 rfl ?_
    refine hq_getR (h := 37) 54 (pm_d rk_X11_called 48 rfl) fl_X11_124 rfl rfl ?_
    show hp_go _ _ _ _ _ 86 _ _ _
    refine hq_iload_n (pm_d rk_X11_called 49 rfl) rfl 0 rfl ?_
    refine hq_iconst (v := (-1 : Int32)) (pm_d rk_X11_called 50 rfl) (by decide) ?_
    obtain ⟨hg, h⟩ := pm_gd_i h
    refine hq_iastore (pm_d rk_X11_called 51 rfl) rfl hg ?_
    refine pm_nm (G := fun t14 => hp_go sh_M me_X11_called (d + 4) none s1 89 [(1, .int x1), (0, .ref 0)] [] t14) h (fun t14 h => ?_)
    refine hq_drop [1, 0] rfl ?_
    exact hj89 _ _ h
  rw [if_pos hc] at h
  refine hq_aload_n (pm_d rk_X11_called 9 rfl) rfl 1 rfl ?_
  refine hq_bipush (v := (30 : Int32)) (pm_d rk_X11_called 10 rfl) (by decide) ?_
  obtain ⟨x16, t15, hq, h⟩ := pm_bd_i h
  have hM := w_M_X11_single_0 (d := d + 0) (h := hq)
  refine hq_callVi (a := 0) (ci := 11) [.int (30 : Int32)] [] (pm_d rk_X11_called 11 rfl) ml_X11_230 iv_X11_single rfl rfl rfl rfl rfl (Nat.le_of_ble_eq_true rfl) hM ?_
  show hp_go _ _ _ _ _ 22 _ _ _
  refine hq_istore_n (L1 := [(2, .int x16), (1, .int x1), (0, .ref 0)]) (pm_d rk_X11_called 12 rfl) rfl (by decide) rfl ?_
  refine hq_aload_n (pm_d rk_X11_called 13 rfl) rfl 2 rfl ?_
  refine hq_getR (h := 7) 14 (pm_d rk_X11_called 14 rfl) fl_X11_33 rfl rfl ?_
  refine hq_iload_n (pm_d rk_X11_called 15 rfl) rfl 0 rfl ?_
  refine hq_aload_n (pm_d rk_X11_called 16 rfl) rfl 2 rfl ?_
  refine hq_getI 56 (pm_d rk_X11_called 17 rfl) fl_X11_220 rfl rfl ?_
  show hp_go _ _ _ _ _ 32 _ _ _
  obtain ⟨hg, h⟩ := pm_gd_i h
  refine hq_iastore (pm_d rk_X11_called 18 rfl) rfl hg ?_
  refine pm_nm (G := fun t17 => hp_go sh_M me_X11_called (d + 4) none s1 33 [(2, .int x16), (1, .int x1), (0, .ref 0)] [] t17) h (fun t17 h => ?_)
  refine hq_aload_n (pm_d rk_X11_called 19 rfl) rfl 2 rfl ?_
  refine hq_getI 50 (pm_d rk_X11_called 20 rfl) fl_X11_179 rfl rfl ?_
  refine hq_if_ne 47 (pm_d rk_X11_called 21 rfl) (by decide) (fun hc => ?_) (fun hc => ?_)
  · rw [if_neg hc] at h
    exact hq_vret (pm_d rk_X11_called 26 rfl) rfl h
  rw [if_pos hc] at h
  refine hq_aload_n (pm_d rk_X11_called 22 rfl) rfl 2 rfl ?_
  show hp_go _ _ _ _ _ 41 _ _ _
  refine hq_bipush (v := (9 : Int32)) (pm_d rk_X11_called 23 rfl) (by decide) ?_
  refine hq_iload_n (pm_d rk_X11_called 24 rfl) rfl 0 rfl ?_
  obtain ⟨t18, hq, h⟩ := pm_b1_i h
  have hM := w_M_X11_enter_0 (d := d + 2) (h := hq)
  refine hq_callVv (a := 0) (ci := 11) [.int (9 : Int32), .int x16] [] (pm_d rk_X11_called 25 rfl) ml_X11_205 iv_X11_enter rfl rfl rfl rfl rfl (Nat.le_of_ble_eq_true rfl) hM ?_
  exact hq_vret (pm_d rk_X11_called 26 rfl) rfl h
def f_M_X11_atom_0 (n : Nat) (s : hp_S) : Option hp_S :=
  if (hs_I s 0 6) = (16 : Int32) then
    pm_bd (f_M_X11_pass_0 n (-1 : Int32) s) (fun x8 t7 =>
    pm_b1 (f_M_X11_enter_0 (7 : Int32) x8 t7) (fun t9 =>
    some t9))
  else
    pm_let (fun (z88_S0 : Int32) (s : hp_S) =>
      pm_bd (f_M_X11_need_0 z88_S0 s) (fun x2 t1 =>
      if x2 = 0 then
        some t1
      else
        pm_bd (f_M_X11_single_0 n (hs_I t1 0 6) t1) (fun x4 t3 =>
        pm_let (hs_pI t3 0 56 x4) (fun t5 =>
        pm_let (hs_pI t5 0 55 (2 : Int32)) (fun t6 =>
        some t6))))) (fun j88 =>
    pm_let (fun (s : hp_S) =>
      j88 (1 : Int32) s) (fun j83 =>
    if (hs_I s 0 6) = (1 : Int32) then
      j83  s
    else
      if (hs_I s 0 6) = (2 : Int32) then
        j83  s
      else
        if (hs_I s 0 6) = (9 : Int32) then
          j83  s
        else
          if (hs_I s 0 6) = (10 : Int32) then
            j83  s
          else
            if (hs_I s 0 6) = (11 : Int32) then
              j83  s
            else
              if (hs_I s 0 6) = (12 : Int32) then
                j83  s
              else
                if (hs_I s 0 6) = (13 : Int32) then
                  j83  s
                else
                  j88 (0 : Int32) s))
set_option maxRecDepth 100000 in
set_option maxHeartbeats 400000 in
theorem w_M_X11_atom_0 (d : Nat) (n : Nat) (s s1 : hp_S) (h : f_M_X11_atom_0 n s = some s1) : hp_is sh_M me_X11_atom (d + 4) [.ref 0] s none s1 := by
  refine hp_ofF [(0, .ref 0)] (by decide +kernel) (Nat.le_of_ble_eq_true rfl) rfl ?_
  unfold f_M_X11_atom_0 at h
  refine hq_aload_n (pm_d rk_X11_atom 0 rfl) rfl 0 rfl ?_
  refine hq_getI 6 (pm_d rk_X11_atom 1 rfl) fl_X11_165 rfl rfl ?_
  refine hq_bipush (v := (16 : Int32)) (pm_d rk_X11_atom 2 rfl) (by decide) ?_
  refine hq_icmp_ne 21 (pm_d rk_X11_atom 3 rfl) (by decide) (fun hc => ?_) (fun hc => ?_)
  · rw [if_neg hc] at h
    refine hq_aload_n (pm_d rk_X11_atom 11 rfl) rfl 0 rfl ?_
    show hp_go _ _ _ _ _ 22 _ _ _
    refine hq_aload_n (pm_d rk_X11_atom 12 rfl) rfl 0 rfl ?_
    refine hq_getI 6 (pm_d rk_X11_atom 13 rfl) fl_X11_165 rfl rfl ?_
    refine hq_iconst (v := (1 : Int32)) (pm_d rk_X11_atom 14 rfl) (by decide) ?_
    refine pm_jn (P := fun j88 => ∀ (z88_S0 : Int32) (s : hp_S), j88 z88_S0 s = some s1 → hp_go sh_M me_X11_atom (d + 4) none s1 88 [(0, .ref 0)] [.int z88_S0, .ref 0] s) h ?_ (fun j88 hj88 h => ?_)
    · intro z88_S0 s h
      dsimp only at h
      obtain ⟨x2, t1, hq, h⟩ := pm_bd_i h
      have hM := w_M_X11_need_0 (d := d + 3) (h := hq)
      refine hq_callVi (a := 0) (ci := 11) [.int z88_S0] [] (pm_d rk_X11_atom 43 rfl) ml_X11_189 iv_X11_need rfl rfl rfl rfl rfl (Nat.le_of_ble_eq_true rfl) hM ?_
      refine hq_if_ne 95 (pm_d rk_X11_atom 44 rfl) (by decide) (fun hc => ?_) (fun hc => ?_)
      · rw [if_neg hc] at h
        refine hq_aload_n (pm_d rk_X11_atom 46 rfl) rfl 0 rfl ?_
        show hp_go _ _ _ _ _ 96 _ _ _
        refine hq_aload_n (pm_d rk_X11_atom 47 rfl) rfl 0 rfl ?_
        refine hq_aload_n (pm_d rk_X11_atom 48 rfl) rfl 0 rfl ?_
        refine hq_getI 6 (pm_d rk_X11_atom 49 rfl) fl_X11_165 rfl rfl ?_
        obtain ⟨x4, t3, hq, h⟩ := pm_bd_i h
        have hM := w_M_X11_single_0 (d := d + 0) (h := hq)
        refine hq_callVi (a := 0) (ci := 11) [.int (hs_I t1 0 6)] [.ref 0] (pm_d rk_X11_atom 50 rfl) ml_X11_230 iv_X11_single rfl rfl rfl rfl rfl (Nat.le_of_ble_eq_true rfl) hM ?_
        refine hq_putI 56 (pm_d rk_X11_atom 51 rfl) fl_X11_220 rfl rfl ?_
        refine pm_nm (G := fun t5 => hp_go sh_M me_X11_atom (d + 4) none s1 107 [(0, .ref 0)] [] t5) h (fun t5 h => ?_)
        refine hq_aload_n (pm_d rk_X11_atom 52 rfl) rfl 0 rfl ?_
        show hp_go _ _ _ _ _ 108 _ _ _
        refine hq_iconst (v := (2 : Int32)) (pm_d rk_X11_atom 53 rfl) (by decide) ?_
        refine hq_putI 55 (pm_d rk_X11_atom 54 rfl) fl_X11_202 rfl rfl ?_
        refine pm_nm (G := fun t6 => hp_go sh_M me_X11_atom (d + 4) none s1 112 [(0, .ref 0)] [] t6) h (fun t6 h => ?_)
        exact hq_vret (pm_d rk_X11_atom 55 rfl) rfl h
      rw [if_pos hc] at h
      exact hq_vret (pm_d rk_X11_atom 45 rfl) rfl h
    refine pm_jn (P := fun j83 => ∀ (s : hp_S), j83  s = some s1 → hp_go sh_M me_X11_atom (d + 4) none s1 83 [(0, .ref 0)] [.ref 0] s) h ?_ (fun j83 hj83 h => ?_)
    · intro  s h
      dsimp only at h
      refine hq_iconst (v := (1 : Int32)) (pm_d rk_X11_atom 40 rfl) (by decide) ?_
      refine hq_goto 88 (pm_d rk_X11_atom 41 rfl) (by decide) ?_
      refine hq_drop [0] rfl ?_
      exact hj88 _ _ h
    show hp_go _ _ _ _ _ 27 _ _ _
    refine hq_icmp_eq 83 (pm_d rk_X11_atom 15 rfl) (by decide) (fun hc => ?_) (fun hc => ?_)
    · rw [if_pos hc] at h
      refine hq_drop [0] rfl ?_
      exact hj83  _ h
    rw [if_neg hc] at h
    refine hq_aload_n (pm_d rk_X11_atom 16 rfl) rfl 0 rfl ?_
    refine hq_getI 6 (pm_d rk_X11_atom 17 rfl) fl_X11_165 rfl rfl ?_
    refine hq_iconst (v := (2 : Int32)) (pm_d rk_X11_atom 18 rfl) (by decide) ?_
    refine hq_icmp_eq 83 (pm_d rk_X11_atom 19 rfl) (by decide) (fun hc => ?_) (fun hc => ?_)
    · rw [if_pos hc] at h
      refine hq_drop [0] rfl ?_
      exact hj83  _ h
    rw [if_neg hc] at h
    refine hq_aload_n (pm_d rk_X11_atom 20 rfl) rfl 0 rfl ?_
    show hp_go _ _ _ _ _ 39 _ _ _
    refine hq_getI 6 (pm_d rk_X11_atom 21 rfl) fl_X11_165 rfl rfl ?_
    refine hq_bipush (v := (9 : Int32)) (pm_d rk_X11_atom 22 rfl) (by decide) ?_
    refine hq_icmp_eq 83 (pm_d rk_X11_atom 23 rfl) (by decide) (fun hc => ?_) (fun hc => ?_)
    · rw [if_pos hc] at h
      refine hq_drop [0] rfl ?_
      exact hj83  _ h
    rw [if_neg hc] at h
    refine hq_aload_n (pm_d rk_X11_atom 24 rfl) rfl 0 rfl ?_
    refine hq_getI 6 (pm_d rk_X11_atom 25 rfl) fl_X11_165 rfl rfl ?_
    refine hq_bipush (v := (10 : Int32)) (pm_d rk_X11_atom 26 rfl) (by decide) ?_
    show hp_go _ _ _ _ _ 53 _ _ _
    refine hq_icmp_eq 83 (pm_d rk_X11_atom 27 rfl) (by decide) (fun hc => ?_) (fun hc => ?_)
    · rw [if_pos hc] at h
      refine hq_drop [0] rfl ?_
      exact hj83  _ h
    rw [if_neg hc] at h
    refine hq_aload_n (pm_d rk_X11_atom 28 rfl) rfl 0 rfl ?_
    refine hq_getI 6 (pm_d rk_X11_atom 29 rfl) fl_X11_165 rfl rfl ?_
    refine hq_bipush (v := (11 : Int32)) (pm_d rk_X11_atom 30 rfl) (by decide) ?_
    refine hq_icmp_eq 83 (pm_d rk_X11_atom 31 rfl) (by decide) (fun hc => ?_) (fun hc => ?_)
    · rw [if_pos hc] at h
      refine hq_drop [0] rfl ?_
      exact hj83  _ h
    rw [if_neg hc] at h
    refine hq_aload_n (pm_d rk_X11_atom 32 rfl) rfl 0 rfl ?_
    show hp_go _ _ _ _ _ 66 _ _ _
    refine hq_getI 6 (pm_d rk_X11_atom 33 rfl) fl_X11_165 rfl rfl ?_
    refine hq_bipush (v := (12 : Int32)) (pm_d rk_X11_atom 34 rfl) (by decide) ?_
    refine hq_icmp_eq 83 (pm_d rk_X11_atom 35 rfl) (by decide) (fun hc => ?_) (fun hc => ?_)
    · rw [if_pos hc] at h
      refine hq_drop [0] rfl ?_
      exact hj83  _ h
    rw [if_neg hc] at h
    refine hq_aload_n (pm_d rk_X11_atom 36 rfl) rfl 0 rfl ?_
    refine hq_getI 6 (pm_d rk_X11_atom 37 rfl) fl_X11_165 rfl rfl ?_
    refine hq_bipush (v := (13 : Int32)) (pm_d rk_X11_atom 38 rfl) (by decide) ?_
    show hp_go _ _ _ _ _ 80 _ _ _
    refine hq_icmp_ne 87 (pm_d rk_X11_atom 39 rfl) (by decide) (fun hc => ?_) (fun hc => ?_)
    · rw [if_neg hc] at h
      refine hq_iconst (v := (0 : Int32)) (pm_d rk_X11_atom 42 rfl) (by decide) ?_
      refine hq_drop [0] rfl ?_
      exact hj88 _ _ h
    rw [if_pos hc] at h
    refine hq_drop [0] rfl ?_
    exact hj83  _ h
  rw [if_pos hc] at h
  refine hq_aload_n (pm_d rk_X11_atom 4 rfl) rfl 0 rfl ?_
  refine hq_bipush (v := (7 : Int32)) (pm_d rk_X11_atom 5 rfl) (by decide) ?_
  refine hq_aload_n (pm_d rk_X11_atom 6 rfl) rfl 0 rfl ?_
  refine hq_iconst (v := (-1 : Int32)) (pm_d rk_X11_atom 7 rfl) (by decide) ?_
  show hp_go _ _ _ _ _ 14 _ _ _
  obtain ⟨x8, t7, hq, h⟩ := pm_bd_i h
  have hM := w_M_X11_pass_0 (d := d + 1) (h := hq)
  refine hq_callVi (a := 0) (ci := 11) [.int (-1 : Int32)] [.int (7 : Int32), .ref 0] (pm_d rk_X11_atom 8 rfl) ml_X11_193 iv_X11_pass rfl rfl rfl rfl rfl (Nat.le_of_ble_eq_true rfl) hM ?_
  obtain ⟨t9, hq, h⟩ := pm_b1_i h
  have hM := w_M_X11_enter_0 (d := d + 2) (h := hq)
  refine hq_callVv (a := 0) (ci := 11) [.int (7 : Int32), .int x8] [] (pm_d rk_X11_atom 9 rfl) ml_X11_205 iv_X11_enter rfl rfl rfl rfl rfl (Nat.le_of_ble_eq_true rfl) hM ?_
  exact hq_vret (pm_d rk_X11_atom 10 rfl) rfl h
def f_M_X11_begins_0 (n : Nat) (s : hp_S) : Option hp_S :=
  pm_let (hs_I s 0 6) (fun x1 =>
  pm_let (fun (z27_1 : Int32) (s : hp_S) =>
    pm_bd (f_M_X11_make_0 z27_1 s) (fun x3 t2 =>
    if (hs_I t2 0 50) = 0 then
      pm_bd (f_M_X11_pass_0 n x3 t2) (fun x5 t4 =>
      pm_gd1 (pm_ib x3 101) (
      pm_let (hs_pA t4 10 x3.toNatClampNeg x5) (fun t6 =>
      if z27_1 = (6 : Int32) then
        pm_b1 (f_M_X11_enter_0 (4 : Int32) x3 t6) (fun t15 =>
        some t15)
      else
        pm_bd (f_M_X11_take_0 n (1 : Int32) x3 t6) (fun x8 t7 =>
        pm_gd1 (pm_ib x3 101) (
        pm_let (hs_pA t7 11 x3.toNatClampNeg x8) (fun t9 =>
        pm_let (fun (z102_1 : Int32) (z102_2 : Int32) (s : hp_S) =>
          if (hs_I s 0 50) = 0 then
            pm_let (fun (z138_1 : Int32) (z138_2 : Int32) (s : hp_S) =>
              pm_let (fun (z149_2 : Int32) (z149_S0 : Int32) (s : hp_S) =>
                pm_b1 (f_M_X11_enter_0 z149_S0 z149_2 s) (fun t10 =>
                some t10)) (fun j149 =>
              if z138_1 = (3 : Int32) then
                j149 z138_2 (1 : Int32) s
              else
                j149 z138_2 (2 : Int32) s)) (fun j138 =>
            if z102_1 = (3 : Int32) then
              pm_gd1 (pm_ib z102_2 101) (
              pm_let (hs_pA s 12 z102_2.toNatClampNeg (hs_I s 0 11)) (fun t12 =>
              j138 z102_1 z102_2 t12))
            else
              pm_gd1 (pm_ib z102_2 101) (
              pm_let (hs_pA s 14 z102_2.toNatClampNeg (hs_I s 0 11)) (fun t11 =>
              j138 z102_1 z102_2 t11)))
          else
            some s) (fun j102 =>
        if (hs_I t9 0 50) = 0 then
          pm_let (fun (z97_1 : Int32) (z97_2 : Int32) (z97_S0 : Int32) (s : hp_S) =>
            pm_bd (f_M_X11_take_0 n z97_S0 z97_2 s) (fun x14 t13 =>
            j102 z97_1 z97_2 t13)) (fun j97 =>
          if z27_1 = (3 : Int32) then
            j97 z27_1 x3 (14 : Int32) t9
          else
            j97 z27_1 x3 (15 : Int32) t9)
        else
          j102 z27_1 x3 t9)))))))
    else
      some t2)) (fun j27 =>
  if x1 = (3 : Int32) then
    j27 x1 s
  else
    if x1 = (4 : Int32) then
      j27 x1 s
    else
      if x1 = (6 : Int32) then
        j27 x1 s
      else
        pm_let (hs_pI s 0 55 (1 : Int32)) (fun t16 =>
        some t16)))
set_option maxRecDepth 100000 in
set_option maxHeartbeats 400000 in
theorem w_M_X11_begins_0 (d : Nat) (n : Nat) (s s1 : hp_S) (h : f_M_X11_begins_0 n s = some s1) : hp_is sh_M me_X11_begins (d + 4) [.ref 0] s none s1 := by
  refine hp_ofF [(0, .ref 0)] (by decide +kernel) (Nat.le_of_ble_eq_true rfl) rfl ?_
  unfold f_M_X11_begins_0 at h
  refine hq_aload_n (pm_d rk_X11_begins 0 rfl) rfl 0 rfl ?_
  refine hq_getI 6 (pm_d rk_X11_begins 1 rfl) fl_X11_165 rfl rfl ?_
  refine pm_nm (G := fun x1 => hp_go sh_M me_X11_begins (d + 4) none s1 4 [(0, .ref 0)] [.int x1] s) h (fun x1 h => ?_)
  refine hq_istore_n (L1 := [(1, .int x1), (0, .ref 0)]) (pm_d rk_X11_begins 2 rfl) rfl (by decide) rfl ?_
  refine hq_iload_n (pm_d rk_X11_begins 3 rfl) rfl 0 rfl ?_
  refine hq_iconst (v := (3 : Int32)) (pm_d rk_X11_begins 4 rfl) (by decide) ?_
  refine pm_jn (P := fun j27 => ∀ (z27_1 : Int32) (s : hp_S), j27 z27_1 s = some s1 → hp_go sh_M me_X11_begins (d + 4) none s1 27 [(0, .ref 0), (1, .int z27_1)] [] s) h ?_ (fun j27 hj27 h => ?_)
  · intro z27_1 s h
    dsimp only at h
    show hp_go _ _ _ _ _ 27 _ _ _
    refine hq_aload_n (pm_d rk_X11_begins 16 rfl) rfl 0 rfl ?_
    refine hq_iload_n (pm_d rk_X11_begins 17 rfl) rfl 1 rfl ?_
    obtain ⟨x3, t2, hq, h⟩ := pm_bd_i h
    have hM := w_M_X11_make_0 (d := d + 2) (h := hq)
    refine hq_callVi (a := 0) (ci := 11) [.int z27_1] [] (pm_d rk_X11_begins 18 rfl) ml_X11_223 iv_X11_make rfl rfl rfl rfl rfl (Nat.le_of_ble_eq_true rfl) hM ?_
    refine hq_istore_n (L1 := [(2, .int x3), (0, .ref 0), (1, .int z27_1)]) (pm_d rk_X11_begins 19 rfl) rfl (by decide) rfl ?_
    refine hq_aload_n (pm_d rk_X11_begins 20 rfl) rfl 1 rfl ?_
    refine hq_getI 50 (pm_d rk_X11_begins 21 rfl) fl_X11_179 rfl rfl ?_
    show hp_go _ _ _ _ _ 37 _ _ _
    refine hq_if_eq 41 (pm_d rk_X11_begins 22 rfl) (by decide) (fun hc => ?_) (fun hc => ?_)
    · rw [if_pos hc] at h
      refine hq_aload_n (pm_d rk_X11_begins 24 rfl) rfl 1 rfl ?_
      refine hq_getR (h := 10) 17 (pm_d rk_X11_begins 25 rfl) fl_X11_42 rfl rfl ?_
      refine hq_iload_n (pm_d rk_X11_begins 26 rfl) rfl 0 rfl ?_
      refine hq_aload_n (pm_d rk_X11_begins 27 rfl) rfl 1 rfl ?_
      refine hq_iload_n (pm_d rk_X11_begins 28 rfl) rfl 0 rfl ?_
      show hp_go _ _ _ _ _ 48 _ _ _
      obtain ⟨x5, t4, hq, h⟩ := pm_bd_i h
      have hM := w_M_X11_pass_0 (d := d + 1) (h := hq)
      refine hq_callVi (a := 0) (ci := 11) [.int x3] [.int x3, .ref 10] (pm_d rk_X11_begins 29 rfl) ml_X11_193 iv_X11_pass rfl rfl rfl rfl rfl (Nat.le_of_ble_eq_true rfl) hM ?_
      obtain ⟨hg, h⟩ := pm_gd_i h
      refine hq_iastore (pm_d rk_X11_begins 30 rfl) rfl hg ?_
      refine pm_nm (G := fun t6 => hp_go sh_M me_X11_begins (d + 4) none s1 52 [(2, .int x3), (0, .ref 0), (1, .int z27_1)] [] t6) h (fun t6 h => ?_)
      refine hq_iload_n (pm_d rk_X11_begins 31 rfl) rfl 2 rfl ?_
      refine hq_bipush (v := (6 : Int32)) (pm_d rk_X11_begins 32 rfl) (by decide) ?_
      refine hq_icmp_ne 65 (pm_d rk_X11_begins 33 rfl) (by decide) (fun hc => ?_) (fun hc => ?_)
      · rw [if_neg hc] at h
        refine hq_aload_n (pm_d rk_X11_begins 39 rfl) rfl 1 rfl ?_
        show hp_go _ _ _ _ _ 66 _ _ _
        refine hq_getR (h := 11) 18 (pm_d rk_X11_begins 40 rfl) fl_X11_45 rfl rfl ?_
        refine hq_iload_n (pm_d rk_X11_begins 41 rfl) rfl 0 rfl ?_
        refine hq_aload_n (pm_d rk_X11_begins 42 rfl) rfl 1 rfl ?_
        refine hq_iconst (v := (1 : Int32)) (pm_d rk_X11_begins 43 rfl) (by decide) ?_
        refine hq_iload_n (pm_d rk_X11_begins 44 rfl) rfl 0 rfl ?_
        obtain ⟨x8, t7, hq, h⟩ := pm_bd_i h
        have hM := w_M_X11_take_0 (d := d + 0) (h := hq)
        refine hq_callVi (a := 0) (ci := 11) [.int (1 : Int32), .int x3] [.int x3, .ref 11] (pm_d rk_X11_begins 45 rfl) ml_X11_226 iv_X11_take rfl rfl rfl rfl rfl (Nat.le_of_ble_eq_true rfl) hM ?_
        show hp_go _ _ _ _ _ 76 _ _ _
        obtain ⟨hg, h⟩ := pm_gd_i h
        refine hq_iastore (pm_d rk_X11_begins 46 rfl) rfl hg ?_
        refine pm_nm (G := fun t9 => hp_go sh_M me_X11_begins (d + 4) none s1 77 [(2, .int x3), (0, .ref 0), (1, .int z27_1)] [] t9) h (fun t9 h => ?_)
        refine hq_aload_n (pm_d rk_X11_begins 47 rfl) rfl 1 rfl ?_
        refine hq_getI 50 (pm_d rk_X11_begins 48 rfl) fl_X11_179 rfl rfl ?_
        refine pm_jn (P := fun j102 => ∀ (z102_1 : Int32) (z102_2 : Int32) (s : hp_S), j102 z102_1 z102_2 s = some s1 → hp_go sh_M me_X11_begins (d + 4) none s1 102 [(0, .ref 0), (1, .int z102_1), (2, .int z102_2)] [] s) h ?_ (fun j102 hj102 h => ?_)
        · intro z102_1 z102_2 s h
          dsimp only at h
          refine hq_aload_n (pm_d rk_X11_begins 60 rfl) rfl 0 rfl ?_
          refine hq_getI 50 (pm_d rk_X11_begins 61 rfl) fl_X11_179 rfl rfl ?_
          refine hq_if_eq 110 (pm_d rk_X11_begins 62 rfl) (by decide) (fun hc => ?_) (fun hc => ?_)
          · rw [if_pos hc] at h
            show hp_go _ _ _ _ _ 110 _ _ _
            refine hq_iload_n (pm_d rk_X11_begins 64 rfl) rfl 1 rfl ?_
            refine hq_iconst (v := (3 : Int32)) (pm_d rk_X11_begins 65 rfl) (by decide) ?_
            refine pm_jn (P := fun j138 => ∀ (z138_1 : Int32) (z138_2 : Int32) (s : hp_S), j138 z138_1 z138_2 s = some s1 → hp_go sh_M me_X11_begins (d + 4) none s1 138 [(0, .ref 0), (1, .int z138_1), (2, .int z138_2)] [] s) h ?_ (fun j138 hj138 h => ?_)
            · intro z138_1 z138_2 s h
              dsimp only at h
              refine hq_aload_n (pm_d rk_X11_begins 80 rfl) rfl 0 rfl ?_
              refine hq_iload_n (pm_d rk_X11_begins 81 rfl) rfl 1 rfl ?_
              refine hq_iconst (v := (3 : Int32)) (pm_d rk_X11_begins 82 rfl) (by decide) ?_
              refine pm_jn (P := fun j149 => ∀ (z149_2 : Int32) (z149_S0 : Int32) (s : hp_S), j149 z149_2 z149_S0 s = some s1 → hp_go sh_M me_X11_begins (d + 4) none s1 149 [(2, .int z149_2)] [.int z149_S0, .ref 0] s) h ?_ (fun j149 hj149 h => ?_)
              · intro z149_2 z149_S0 s h
                dsimp only at h
                refine hq_iload_n (pm_d rk_X11_begins 87 rfl) rfl 0 rfl ?_
                show hp_go _ _ _ _ _ 150 _ _ _
                obtain ⟨t10, hq, h⟩ := pm_b1_i h
                have hM := w_M_X11_enter_0 (d := d + 2) (h := hq)
                refine hq_callVv (a := 0) (ci := 11) [.int z149_S0, .int z149_2] [] (pm_d rk_X11_begins 88 rfl) ml_X11_205 iv_X11_enter rfl rfl rfl rfl rfl (Nat.le_of_ble_eq_true rfl) hM ?_
                exact hq_vret (pm_d rk_X11_begins 89 rfl) rfl h
              refine hq_icmp_ne 148 (pm_d rk_X11_begins 83 rfl) (by decide) (fun hc => ?_) (fun hc => ?_)
              · rw [if_neg hc] at h
                refine hq_iconst (v := (2 : Int32)) (pm_d rk_X11_begins 86 rfl) (by decide) ?_
                refine hq_drop [2] rfl ?_
                exact hj149 _ _ _ h
              rw [if_pos hc] at h
              refine hq_iconst (v := (1 : Int32)) (pm_d rk_X11_begins 84 rfl) (by decide) ?_
              refine hq_goto 149 (pm_d rk_X11_begins 85 rfl) (by decide) ?_
              refine hq_drop [2] rfl ?_
              exact hj149 _ _ _ h
            show hp_go _ _ _ _ _ 112 _ _ _
            refine hq_icmp_ne 128 (pm_d rk_X11_begins 66 rfl) (by decide) (fun hc => ?_) (fun hc => ?_)
            · rw [if_neg hc] at h
              refine hq_aload_n (pm_d rk_X11_begins 74 rfl) rfl 0 rfl ?_
              refine hq_getR (h := 14) 21 (pm_d rk_X11_begins 75 rfl) fl_X11_54 rfl rfl ?_
              refine hq_iload_n (pm_d rk_X11_begins 76 rfl) rfl 2 rfl ?_
              refine hq_aload_n (pm_d rk_X11_begins 77 rfl) rfl 0 rfl ?_
              refine hq_getI 11 (pm_d rk_X11_begins 78 rfl) fl_X11_183 rfl rfl ?_
              show hp_go _ _ _ _ _ 137 _ _ _
              obtain ⟨hg, h⟩ := pm_gd_i h
              refine hq_iastore (pm_d rk_X11_begins 79 rfl) rfl hg ?_
              refine pm_nm (G := fun t11 => hp_go sh_M me_X11_begins (d + 4) none s1 138 [(0, .ref 0), (1, .int z102_1), (2, .int z102_2)] [] t11) h (fun t11 h => ?_)
              refine hq_drop [0, 1, 2] rfl ?_
              exact hj138 _ _ _ h
            rw [if_pos hc] at h
            refine hq_aload_n (pm_d rk_X11_begins 67 rfl) rfl 0 rfl ?_
            refine hq_getR (h := 12) 19 (pm_d rk_X11_begins 68 rfl) fl_X11_48 rfl rfl ?_
            refine hq_iload_n (pm_d rk_X11_begins 69 rfl) rfl 2 rfl ?_
            refine hq_aload_n (pm_d rk_X11_begins 70 rfl) rfl 0 rfl ?_
            refine hq_getI 11 (pm_d rk_X11_begins 71 rfl) fl_X11_183 rfl rfl ?_
            show hp_go _ _ _ _ _ 124 _ _ _
            obtain ⟨hg, h⟩ := pm_gd_i h
            refine hq_iastore (pm_d rk_X11_begins 72 rfl) rfl hg ?_
            refine pm_nm (G := fun t12 => hp_go sh_M me_X11_begins (d + 4) none s1 125 [(0, .ref 0), (1, .int z102_1), (2, .int z102_2)] [] t12) h (fun t12 h => ?_)
            refine hq_goto 138 (pm_d rk_X11_begins 73 rfl) (by decide) ?_
            refine hq_drop [0, 1, 2] rfl ?_
            exact hj138 _ _ _ h
          rw [if_neg hc] at h
          exact hq_vret (pm_d rk_X11_begins 63 rfl) rfl h
        refine hq_if_ne 102 (pm_d rk_X11_begins 49 rfl) (by decide) (fun hc => ?_) (fun hc => ?_)
        · rw [if_neg hc] at h
          refine hq_drop [1, 2, 0] rfl ?_
          exact hj102 _ _ _ h
        rw [if_pos hc] at h
        refine hq_aload_n (pm_d rk_X11_begins 50 rfl) rfl 1 rfl ?_
        refine hq_iload_n (pm_d rk_X11_begins 51 rfl) rfl 2 rfl ?_
        show hp_go _ _ _ _ _ 86 _ _ _
        refine hq_iconst (v := (3 : Int32)) (pm_d rk_X11_begins 52 rfl) (by decide) ?_
        refine pm_jn (P := fun j97 => ∀ (z97_1 : Int32) (z97_2 : Int32) (z97_S0 : Int32) (s : hp_S), j97 z97_1 z97_2 z97_S0 s = some s1 → hp_go sh_M me_X11_begins (d + 4) none s1 97 [(0, .ref 0), (1, .int z97_1), (2, .int z97_2)] [.int z97_S0, .ref 0] s) h ?_ (fun j97 hj97 h => ?_)
        · intro z97_1 z97_2 z97_S0 s h
          dsimp only at h
          refine hq_iload_n (pm_d rk_X11_begins 57 rfl) rfl 2 rfl ?_
          obtain ⟨x14, t13, hq, h⟩ := pm_bd_i h
          have hM := w_M_X11_take_0 (d := d + 0) (h := hq)
          refine hq_callVi (a := 0) (ci := 11) [.int z97_S0, .int z97_2] [] (pm_d rk_X11_begins 58 rfl) ml_X11_226 iv_X11_take rfl rfl rfl rfl rfl (Nat.le_of_ble_eq_true rfl) hM ?_
          refine hq_pop (pm_d rk_X11_begins 59 rfl) rfl ?_
          refine hq_drop [0, 1, 2] rfl ?_
          exact hj102 _ _ _ h
        refine hq_icmp_ne 95 (pm_d rk_X11_begins 53 rfl) (by decide) (fun hc => ?_) (fun hc => ?_)
        · rw [if_neg hc] at h
          refine hq_bipush (v := (15 : Int32)) (pm_d rk_X11_begins 56 rfl) (by decide) ?_
          refine hq_drop [1, 2, 0] rfl ?_
          exact hj97 _ _ _ _ h
        rw [if_pos hc] at h
        show hp_go _ _ _ _ _ 90 _ _ _
        refine hq_bipush (v := (14 : Int32)) (pm_d rk_X11_begins 54 rfl) (by decide) ?_
        refine hq_goto 97 (pm_d rk_X11_begins 55 rfl) (by decide) ?_
        refine hq_drop [1, 2, 0] rfl ?_
        exact hj97 _ _ _ _ h
      rw [if_pos hc] at h
      refine hq_aload_n (pm_d rk_X11_begins 34 rfl) rfl 1 rfl ?_
      refine hq_iconst (v := (4 : Int32)) (pm_d rk_X11_begins 35 rfl) (by decide) ?_
      refine hq_iload_n (pm_d rk_X11_begins 36 rfl) rfl 0 rfl ?_
      obtain ⟨t15, hq, h⟩ := pm_b1_i h
      have hM := w_M_X11_enter_0 (d := d + 2) (h := hq)
      refine hq_callVv (a := 0) (ci := 11) [.int (4 : Int32), .int x3] [] (pm_d rk_X11_begins 37 rfl) ml_X11_205 iv_X11_enter rfl rfl rfl rfl rfl (Nat.le_of_ble_eq_true rfl) hM ?_
      show hp_go _ _ _ _ _ 64 _ _ _
      exact hq_vret (pm_d rk_X11_begins 38 rfl) rfl h
    rw [if_neg hc] at h
    exact hq_vret (pm_d rk_X11_begins 23 rfl) rfl h
  refine hq_icmp_eq 27 (pm_d rk_X11_begins 5 rfl) (by decide) (fun hc => ?_) (fun hc => ?_)
  · rw [if_pos hc] at h
    refine hq_drop [1, 0] rfl ?_
    exact hj27 _ _ h
  rw [if_neg hc] at h
  refine hq_iload_n (pm_d rk_X11_begins 6 rfl) rfl 0 rfl ?_
  refine hq_iconst (v := (4 : Int32)) (pm_d rk_X11_begins 7 rfl) (by decide) ?_
  refine hq_icmp_eq 27 (pm_d rk_X11_begins 8 rfl) (by decide) (fun hc => ?_) (fun hc => ?_)
  · rw [if_pos hc] at h
    refine hq_drop [1, 0] rfl ?_
    exact hj27 _ _ h
  rw [if_neg hc] at h
  show hp_go _ _ _ _ _ 15 _ _ _
  refine hq_iload_n (pm_d rk_X11_begins 9 rfl) rfl 0 rfl ?_
  refine hq_bipush (v := (6 : Int32)) (pm_d rk_X11_begins 10 rfl) (by decide) ?_
  refine hq_icmp_eq 27 (pm_d rk_X11_begins 11 rfl) (by decide) (fun hc => ?_) (fun hc => ?_)
  · rw [if_pos hc] at h
    refine hq_drop [1, 0] rfl ?_
    exact hj27 _ _ h
  rw [if_neg hc] at h
  refine hq_aload_n (pm_d rk_X11_begins 12 rfl) rfl 1 rfl ?_
  refine hq_iconst (v := (1 : Int32)) (pm_d rk_X11_begins 13 rfl) (by decide) ?_
  refine hq_putI 55 (pm_d rk_X11_begins 14 rfl) fl_X11_202 rfl rfl ?_
  refine pm_nm (G := fun t16 => hp_go sh_M me_X11_begins (d + 4) none s1 26 [(1, .int x1), (0, .ref 0)] [] t16) h (fun t16 h => ?_)
  show hp_go _ _ _ _ _ 26 _ _ _
  exact hq_vret (pm_d rk_X11_begins 15 rfl) rfl h
def l_M_X11_parse_0_16 : Nat → hp_S → Option (Int32 × hp_S)
  | 0, _ => none
  | n + 1, s =>
    if (hs_I s 0 50) = 0 then
      if (hs_I s 0 55) = (4 : Int32) then
        some ((hs_I s 0 56), s)
      else
        if (hs_I s 0 55) = 0 then
          pm_b1 (f_M_X11_begins_0 n s) (fun t7 =>
          l_M_X11_parse_0_16 n  t7)
        else
          if (hs_I s 0 55) = (1 : Int32) then
            pm_b1 (f_M_X11_atom_0 n s) (fun t6 =>
            l_M_X11_parse_0_16 n  t6)
          else
            if (hs_I s 0 55) = (2 : Int32) then
              pm_b1 (f_M_X11_called_0 n s) (fun t5 =>
              l_M_X11_parse_0_16 n  t5)
            else
              pm_b1 (f_M_X11_ended_0 n s) (fun t4 =>
              l_M_X11_parse_0_16 n  t4)
    else
      some ((hs_I s 0 56), s)
set_option maxRecDepth 100000 in
set_option maxHeartbeats 400000 in
theorem wl_M_X11_parse_0_16 (d : Nat) (s1 : hp_S) (x0 : Int32)  : ∀ (n : Nat) (s : hp_S), l_M_X11_parse_0_16 n  s = some (x0, s1) → hp_go sh_M me_X11_parse (d + 6) (some (.int x0)) s1 16 [(0, .ref 0)] [] s := by
  intro n
  induction n with
  | zero =>
    intro  s h
    cases h
  | succ n ih =>
    intro  s h
    rw [l_M_X11_parse_0_16.eq_2] at h
    refine hq_aload_n (pm_d rk_X11_parse 10 rfl) rfl 0 rfl ?_
    show hp_go _ _ _ _ _ 17 _ _ _
    refine hq_getI 50 (pm_d rk_X11_parse 11 rfl) fl_X11_179 rfl rfl ?_
    refine hq_if_ne 82 (pm_d rk_X11_parse 12 rfl) (by decide) (fun hc => ?_) (fun hc => ?_)
    · rw [if_neg hc] at h
      refine hq_aload_n (pm_d rk_X11_parse 40 rfl) rfl 0 rfl ?_
      refine hq_getI 56 (pm_d rk_X11_parse 41 rfl) fl_X11_220 rfl rfl ?_
      exact hq_iret (pm_d rk_X11_parse 42 rfl) rfl h
    rw [if_pos hc] at h
    refine hq_aload_n (pm_d rk_X11_parse 13 rfl) rfl 0 rfl ?_
    show hp_go _ _ _ _ _ 24 _ _ _
    refine hq_getI 55 (pm_d rk_X11_parse 14 rfl) fl_X11_202 rfl rfl ?_
    refine hq_iconst (v := (4 : Int32)) (pm_d rk_X11_parse 15 rfl) (by decide) ?_
    refine hq_icmp_eq 82 (pm_d rk_X11_parse 16 rfl) (by decide) (fun hc => ?_) (fun hc => ?_)
    · rw [if_pos hc] at h
      refine hq_aload_n (pm_d rk_X11_parse 40 rfl) rfl 0 rfl ?_
      refine hq_getI 56 (pm_d rk_X11_parse 41 rfl) fl_X11_220 rfl rfl ?_
      exact hq_iret (pm_d rk_X11_parse 42 rfl) rfl h
    rw [if_neg hc] at h
    show hp_go _ _ _ _ _ 31 _ _ _
    refine hq_aload_n (pm_d rk_X11_parse 17 rfl) rfl 0 rfl ?_
    refine hq_getI 55 (pm_d rk_X11_parse 18 rfl) fl_X11_202 rfl rfl ?_
    refine hq_if_ne 45 (pm_d rk_X11_parse 19 rfl) (by decide) (fun hc => ?_) (fun hc => ?_)
    · rw [if_neg hc] at h
      refine hq_aload_n (pm_d rk_X11_parse 23 rfl) rfl 0 rfl ?_
      refine hq_getI 55 (pm_d rk_X11_parse 24 rfl) fl_X11_202 rfl rfl ?_
      refine hq_iconst (v := (1 : Int32)) (pm_d rk_X11_parse 25 rfl) (by decide) ?_
      show hp_go _ _ _ _ _ 50 _ _ _
      refine hq_icmp_ne 60 (pm_d rk_X11_parse 26 rfl) (by decide) (fun hc => ?_) (fun hc => ?_)
      · rw [if_neg hc] at h
        refine hq_aload_n (pm_d rk_X11_parse 30 rfl) rfl 0 rfl ?_
        refine hq_getI 55 (pm_d rk_X11_parse 31 rfl) fl_X11_202 rfl rfl ?_
        refine hq_iconst (v := (2 : Int32)) (pm_d rk_X11_parse 32 rfl) (by decide) ?_
        refine hq_icmp_ne 75 (pm_d rk_X11_parse 33 rfl) (by decide) (fun hc => ?_) (fun hc => ?_)
        · rw [if_neg hc] at h
          refine hq_aload_n (pm_d rk_X11_parse 37 rfl) rfl 0 rfl ?_
          show hp_go _ _ _ _ _ 76 _ _ _
          obtain ⟨t4, hq, h⟩ := pm_b1_i h
          have hM := w_M_X11_ended_0 (d := d + 0) (h := hq)
          refine hq_callVv (a := 0) (ci := 11) [] [] (pm_d rk_X11_parse 38 rfl) ml_X11_217 iv_X11_ended rfl rfl rfl rfl rfl (Nat.le_of_ble_eq_true rfl) hM ?_
          refine hq_goto 16 (pm_d rk_X11_parse 39 rfl) (by decide) ?_
          refine hq_drop [0] rfl ?_
          exact ih  _ h
        rw [if_pos hc] at h
        refine hq_aload_n (pm_d rk_X11_parse 34 rfl) rfl 0 rfl ?_
        obtain ⟨t5, hq, h⟩ := pm_b1_i h
        have hM := w_M_X11_called_0 (d := d + 1) (h := hq)
        refine hq_callVv (a := 0) (ci := 11) [] [] (pm_d rk_X11_parse 35 rfl) ml_X11_214 iv_X11_called rfl rfl rfl rfl rfl (Nat.le_of_ble_eq_true rfl) hM ?_
        refine hq_goto 16 (pm_d rk_X11_parse 36 rfl) (by decide) ?_
        refine hq_drop [0] rfl ?_
        exact ih  _ h
      rw [if_pos hc] at h
      refine hq_aload_n (pm_d rk_X11_parse 27 rfl) rfl 0 rfl ?_
      show hp_go _ _ _ _ _ 54 _ _ _
      obtain ⟨t6, hq, h⟩ := pm_b1_i h
      have hM := w_M_X11_atom_0 (d := d + 1) (h := hq)
      refine hq_callVv (a := 0) (ci := 11) [] [] (pm_d rk_X11_parse 28 rfl) ml_X11_211 iv_X11_atom rfl rfl rfl rfl rfl (Nat.le_of_ble_eq_true rfl) hM ?_
      refine hq_goto 16 (pm_d rk_X11_parse 29 rfl) (by decide) ?_
      refine hq_drop [0] rfl ?_
      exact ih  _ h
    rw [if_pos hc] at h
    refine hq_aload_n (pm_d rk_X11_parse 20 rfl) rfl 0 rfl ?_
    obtain ⟨t7, hq, h⟩ := pm_b1_i h
    have hM := w_M_X11_begins_0 (d := d + 1) (h := hq)
    refine hq_callVv (a := 0) (ci := 11) [] [] (pm_d rk_X11_parse 21 rfl) ml_X11_209 iv_X11_begins rfl rfl rfl rfl rfl (Nat.le_of_ble_eq_true rfl) hM ?_
    refine hq_goto 16 (pm_d rk_X11_parse 22 rfl) (by decide) ?_
    refine hq_drop [0] rfl ?_
    exact ih  _ h
def f_M_X11_parse_0 (n : Nat) (s : hp_S) : Option (Int32 × hp_S) :=
  pm_let (hs_pI s 0 50 (0 : Int32)) (fun t1 =>
  pm_let (hs_pI t1 0 23 (0 : Int32)) (fun t2 =>
  pm_b1 (f_M_X11_enter_0 (0 : Int32) (-1 : Int32) t2) (fun t3 =>
  l_M_X11_parse_0_16 n  t3)))
set_option maxRecDepth 100000 in
set_option maxHeartbeats 400000 in
theorem w_M_X11_parse_0 (d : Nat) (n : Nat) (s s1 : hp_S) (x0 : Int32) (h : f_M_X11_parse_0 n s = some (x0, s1)) : hp_is sh_M me_X11_parse (d + 6) [.ref 0] s (some (.int x0)) s1 := by
  refine hp_ofF [(0, .ref 0)] (by decide +kernel) (Nat.le_of_ble_eq_true rfl) rfl ?_
  unfold f_M_X11_parse_0 at h
  refine hq_aload_n (pm_d rk_X11_parse 0 rfl) rfl 0 rfl ?_
  refine hq_iconst (v := (0 : Int32)) (pm_d rk_X11_parse 1 rfl) (by decide) ?_
  refine hq_putZ 50 (pm_d rk_X11_parse 2 rfl) fl_X11_179 rfl rfl rfl rfl ?_
  refine pm_nm (G := fun t1 => hp_go sh_M me_X11_parse (d + 6) (some (.int x0)) s1 5 [(0, .ref 0)] [] t1) h (fun t1 h => ?_)
  refine hq_aload_n (pm_d rk_X11_parse 3 rfl) rfl 0 rfl ?_
  refine hq_iconst (v := (0 : Int32)) (pm_d rk_X11_parse 4 rfl) (by decide) ?_
  show hp_go _ _ _ _ _ 7 _ _ _
  refine hq_putI 23 (pm_d rk_X11_parse 5 rfl) fl_X11_199 rfl rfl ?_
  refine pm_nm (G := fun t2 => hp_go sh_M me_X11_parse (d + 6) (some (.int x0)) s1 10 [(0, .ref 0)] [] t2) h (fun t2 h => ?_)
  refine hq_aload_n (pm_d rk_X11_parse 6 rfl) rfl 0 rfl ?_
  refine hq_iconst (v := (0 : Int32)) (pm_d rk_X11_parse 7 rfl) (by decide) ?_
  refine hq_iconst (v := (-1 : Int32)) (pm_d rk_X11_parse 8 rfl) (by decide) ?_
  obtain ⟨t3, hq, h⟩ := pm_b1_i h
  have hM := w_M_X11_enter_0 (d := d + 4) (h := hq)
  refine hq_callVv (a := 0) (ci := 11) [.int (0 : Int32), .int (-1 : Int32)] [] (pm_d rk_X11_parse 9 rfl) ml_X11_205 iv_X11_enter rfl rfl rfl rfl rfl (Nat.le_of_ble_eq_true rfl) hM ?_
  refine hq_drop [0] rfl ?_
  exact wl_M_X11_parse_0_16 d _ _   _  _ h
