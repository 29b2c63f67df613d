def l_M_X11_sameName_0_38 : Nat → Int32 → Int32 → Int32 → Int32 → hp_S → Option (Int32 × hp_S)
  | 0, _, _, _, _, _ => none
  | n + 1, y1, y2, y3, y4, s =>
    pm_gd1 (pm_ib y1 501) (
    pm_gd1 (pm_ib y1 501) (
    if (hs_A s 4 y1.toNatClampNeg) ≤ ((hs_A s 3 y1.toNatClampNeg) + y4) then
      pm_gd1 (pm_bl y3) (some (y3, s))
    else
      if y3 = 0 then
        pm_gd1 (pm_bl y3) (some (y3, s))
      else
        pm_gd1 (pm_ib y1 501) (
        pm_gd1 (pm_ib ((hs_A s 3 y1.toNatClampNeg) + y4) 500) (
        pm_gd1 (pm_ib y2 501) (
        pm_gd1 (pm_ib ((hs_A s 3 y2.toNatClampNeg) + y4) 500) (
        pm_let (fun (z96_1 : Int32) (z96_2 : Int32) (z96_4 : Int32) (z96_S0 : Int32) (s : hp_S) =>
          pm_let (z96_4 + (1 : Int32)) (fun x1 =>
          l_M_X11_sameName_0_38 n z96_1 z96_2 z96_S0 x1 s)) (fun j96 =>
        if (hs_A s 2 ((hs_A s 3 y1.toNatClampNeg) + y4).toNatClampNeg) = (hs_A s 2 ((hs_A s 3 y2.toNatClampNeg) + y4).toNatClampNeg) then
          j96 y1 y2 y4 (1 : Int32) s
        else
          j96 y1 y2 y4 (0 : Int32) s)))))))
set_option maxRecDepth 100000 in
set_option maxHeartbeats 400000 in
theorem wl_M_X11_sameName_0_38 (d : Nat) (s1 : hp_S) (x0 : Int32)  : ∀ (n : Nat) (y1 : Int32) (y2 : Int32) (y3 : Int32) (y4 : Int32) (s : hp_S), l_M_X11_sameName_0_38 n y1 y2 y3 y4 s = some (x0, s1) → hp_go sh_M me_X11_sameName (d + 0) (some (.int x0)) s1 38 [(0, .ref 0), (1, .int y1), (2, .int y2), (3, .int y3), (4, .int y4)] [] s := by
  intro n
  induction n with
  | zero =>
    intro y1 y2 y3 y4 s h
    cases h
  | succ n ih =>
    intro y1 y2 y3 y4 s h
    rw [l_M_X11_sameName_0_38.eq_2] at h
    refine hq_aload_n (pm_d rk_X11_sameName 25 rfl) rfl 0 rfl ?_
    refine hq_getR (h := 3) 8 (pm_d rk_X11_sameName 26 rfl) fl_X11_20 rfl rfl ?_
    show hp_go _ _ _ _ _ 42 _ _ _
    refine hq_iload_n (pm_d rk_X11_sameName 27 rfl) rfl 1 rfl ?_
    obtain ⟨hg, h⟩ := pm_gd_i h
    refine hq_iaload (pm_d rk_X11_sameName 28 rfl) rfl hg ?_
    refine hq_iload (pm_d rk_X11_sameName 29 rfl) 4 rfl ?_
    refine hq_iadd (pm_d rk_X11_sameName 30 rfl) ?_
    refine hq_aload_n (pm_d rk_X11_sameName 31 rfl) rfl 0 rfl ?_
    refine hq_getR (h := 4) 9 (pm_d rk_X11_sameName 32 rfl) fl_X11_24 rfl rfl ?_
    show hp_go _ _ _ _ _ 51 _ _ _
    refine hq_iload_n (pm_d rk_X11_sameName 33 rfl) rfl 1 rfl ?_
    obtain ⟨hg, h⟩ := pm_gd_i h
    refine hq_iaload (pm_d rk_X11_sameName 34 rfl) rfl hg ?_
    refine hq_icmp_ge 103 (pm_d rk_X11_sameName 35 rfl) (by decide) (fun hc => ?_) (fun hc => ?_)
    · rw [if_pos hc] at h
      refine hq_iload_n (pm_d rk_X11_sameName 63 rfl) rfl 3 rfl ?_
      obtain ⟨hg, h⟩ := pm_gd_i h
      exact hq_zret (pm_d rk_X11_sameName 64 rfl) rfl (pm_bl_n hg) h
    rw [if_neg hc] at h
    refine hq_iload_n (pm_d rk_X11_sameName 36 rfl) rfl 3 rfl ?_
    show hp_go _ _ _ _ _ 57 _ _ _
    refine hq_if_eq 103 (pm_d rk_X11_sameName 37 rfl) (by decide) (fun hc => ?_) (fun hc => ?_)
    · rw [if_pos hc] at h
      refine hq_iload_n (pm_d rk_X11_sameName 63 rfl) rfl 3 rfl ?_
      obtain ⟨hg, h⟩ := pm_gd_i h
      exact hq_zret (pm_d rk_X11_sameName 64 rfl) rfl (pm_bl_n hg) h
    rw [if_neg hc] at h
    refine hq_aload_n (pm_d rk_X11_sameName 38 rfl) rfl 0 rfl ?_
    refine hq_getR (h := 2) 2 (pm_d rk_X11_sameName 39 rfl) fl_X11_13 rfl rfl ?_
    refine hq_aload_n (pm_d rk_X11_sameName 40 rfl) rfl 0 rfl ?_
    show hp_go _ _ _ _ _ 65 _ _ _
    refine hq_getR (h := 3) 8 (pm_d rk_X11_sameName 41 rfl) fl_X11_20 rfl rfl ?_
    refine hq_iload_n (pm_d rk_X11_sameName 42 rfl) rfl 1 rfl ?_
    obtain ⟨hg, h⟩ := pm_gd_i h
    refine hq_iaload (pm_d rk_X11_sameName 43 rfl) rfl hg ?_
    refine hq_iload (pm_d rk_X11_sameName 44 rfl) 4 rfl ?_
    refine hq_iadd (pm_d rk_X11_sameName 45 rfl) ?_
    obtain ⟨hg, h⟩ := pm_gd_i h
    refine hq_baload (pm_d rk_X11_sameName 46 rfl) rfl hg ?_
    show hp_go _ _ _ _ _ 74 _ _ _
    refine hq_aload_n (pm_d rk_X11_sameName 47 rfl) rfl 0 rfl ?_
    refine hq_getR (h := 2) 2 (pm_d rk_X11_sameName 48 rfl) fl_X11_13 rfl rfl ?_
    refine hq_aload_n (pm_d rk_X11_sameName 49 rfl) rfl 0 rfl ?_
    refine hq_getR (h := 3) 8 (pm_d rk_X11_sameName 50 rfl) fl_X11_20 rfl rfl ?_
    refine hq_iload_n (pm_d rk_X11_sameName 51 rfl) rfl 2 rfl ?_
    obtain ⟨hg, h⟩ := pm_gd_i h
    refine hq_iaload (pm_d rk_X11_sameName 52 rfl) rfl hg ?_
    show hp_go _ _ _ _ _ 84 _ _ _
    refine hq_iload (pm_d rk_X11_sameName 53 rfl) 4 rfl ?_
    refine hq_iadd (pm_d rk_X11_sameName 54 rfl) ?_
    obtain ⟨hg, h⟩ := pm_gd_i h
    refine hq_baload (pm_d rk_X11_sameName 55 rfl) rfl hg ?_
    refine pm_jn (P := fun j96 => ∀ (z96_1 : Int32) (z96_2 : Int32) (z96_4 : Int32) (z96_S0 : Int32) (s : hp_S), j96 z96_1 z96_2 z96_4 z96_S0 s = some (x0, s1) → hp_go sh_M me_X11_sameName (d + 0) (some (.int x0)) s1 96 [(0, .ref 0), (1, .int z96_1), (2, .int z96_2), (4, .int z96_4)] [.int z96_S0] s) h ?_ (fun j96 hj96 h => ?_)
    · intro z96_1 z96_2 z96_4 z96_S0 s h
      dsimp only at h
      refine hq_istore_n (L1 := [(3, .int z96_S0), (0, .ref 0), (1, .int z96_1), (2, .int z96_2), (4, .int z96_4)]) (pm_d rk_X11_sameName 60 rfl) rfl (by decide) rfl ?_
      refine hq_iinc (v := z96_4 + (1 : Int32)) (L1 := [(4, .int (z96_4 + (1 : Int32))), (3, .int z96_S0), (0, .ref 0), (1, .int z96_1), (2, .int z96_2)]) (pm_d rk_X11_sameName 61 rfl) 4 rfl (by rw [show Int32.ofInt (1) = (1 : Int32) by decide]) (by decide) rfl ?_
      refine pm_nm (G := fun x1 => hp_go sh_M me_X11_sameName (d + 0) (some (.int x0)) s1 100 [(4, .int x1), (3, .int z96_S0), (0, .ref 0), (1, .int z96_1), (2, .int z96_2)] [] s) h (fun x1 h => ?_)
      refine hq_goto 38 (pm_d rk_X11_sameName 62 rfl) (by decide) ?_
      refine hq_drop [2, 3, 4, 1, 0] rfl ?_
      exact ih _ _ _ _ _ h
    show hp_go _ _ _ _ _ 88 _ _ _
    refine hq_icmp_ne 95 (pm_d rk_X11_sameName 56 rfl) (by decide) (fun hc => ?_) (fun hc => ?_)
    · rw [if_neg hc] at h
      refine hq_iconst (v := (0 : Int32)) (pm_d rk_X11_sameName 59 rfl) (by decide) ?_
      refine hq_drop [0, 1, 2, 4] rfl ?_
      exact hj96 _ _ _ _ _ h
    rw [if_pos hc] at h
    refine hq_iconst (v := (1 : Int32)) (pm_d rk_X11_sameName 57 rfl) (by decide) ?_
    refine hq_goto 96 (pm_d rk_X11_sameName 58 rfl) (by decide) ?_
    refine hq_drop [0, 1, 2, 4] rfl ?_
    exact hj96 _ _ _ _ _ h
def f_M_X11_sameName_0 (n : Nat) (a1 : Int32) (a2 : Int32) (s : hp_S) : Option (Int32 × hp_S) :=
  pm_gd1 (pm_ib a1 501) (
  pm_gd1 (pm_ib a1 501) (
  pm_gd1 (pm_ib a2 501) (
  pm_gd1 (pm_ib a2 501) (
  pm_let (fun (z34_1 : Int32) (z34_2 : Int32) (z34_S0 : Int32) (s : hp_S) =>
    l_M_X11_sameName_0_38 n z34_1 z34_2 z34_S0 (0 : Int32) s) (fun j34 =>
  if ((hs_A s 4 a1.toNatClampNeg) - (hs_A s 3 a1.toNatClampNeg)) = ((hs_A s 4 a2.toNatClampNeg) - (hs_A s 3 a2.toNatClampNeg)) then
    j34 a1 a2 (1 : Int32) s
  else
    j34 a1 a2 (0 : Int32) s)))))
set_option maxRecDepth 100000 in
set_option maxHeartbeats 400000 in
theorem w_M_X11_sameName_0 (d : Nat) (n : Nat) (a1 : Int32) (a2 : Int32) (s s1 : hp_S) (x0 : Int32) (h : f_M_X11_sameName_0 n a1 a2 s = some (x0, s1)) : hp_is sh_M me_X11_sameName (d + 0) [.ref 0, .int a1, .int a2] s (some (.int x0)) s1 := by
  refine hp_ofF [(0, .ref 0), (1, .int a1), (2, .int a2)] (by decide +kernel) (Nat.le_of_ble_eq_true rfl) rfl ?_
  unfold f_M_X11_sameName_0 at h
  refine hq_aload_n (pm_d rk_X11_sameName 0 rfl) rfl 0 rfl ?_
  refine hq_getR (h := 4) 9 (pm_d rk_X11_sameName 1 rfl) fl_X11_24 rfl rfl ?_
  refine hq_iload_n (pm_d rk_X11_sameName 2 rfl) rfl 1 rfl ?_
  obtain ⟨hg, h⟩ := pm_gd_i h
  refine hq_iaload (pm_d rk_X11_sameName 3 rfl) rfl hg ?_
  refine hq_aload_n (pm_d rk_X11_sameName 4 rfl) rfl 0 rfl ?_
  show hp_go _ _ _ _ _ 7 _ _ _
  refine hq_getR (h := 3) 8 (pm_d rk_X11_sameName 5 rfl) fl_X11_20 rfl rfl ?_
  refine hq_iload_n (pm_d rk_X11_sameName 6 rfl) rfl 1 rfl ?_
  obtain ⟨hg, h⟩ := pm_gd_i h
  refine hq_iaload (pm_d rk_X11_sameName 7 rfl) rfl hg ?_
  refine hq_isub (pm_d rk_X11_sameName 8 rfl) ?_
  refine hq_aload_n (pm_d rk_X11_sameName 9 rfl) rfl 0 rfl ?_
  refine hq_getR (h := 4) 9 (pm_d rk_X11_sameName 10 rfl) fl_X11_24 rfl rfl ?_
  show hp_go _ _ _ _ _ 17 _ _ _
  refine hq_iload_n (pm_d rk_X11_sameName 11 rfl) rfl 2 rfl ?_
  obtain ⟨hg, h⟩ := pm_gd_i h
  refine hq_iaload (pm_d rk_X11_sameName 12 rfl) rfl hg ?_
  refine hq_aload_n (pm_d rk_X11_sameName 13 rfl) rfl 0 rfl ?_
  refine hq_getR (h := 3) 8 (pm_d rk_X11_sameName 14 rfl) fl_X11_20 rfl rfl ?_
  refine hq_iload_n (pm_d rk_X11_sameName 15 rfl) rfl 2 rfl ?_
  obtain ⟨hg, h⟩ := pm_gd_i h
  refine hq_iaload (pm_d rk_X11_sameName 16 rfl) rfl hg ?_
  show hp_go _ _ _ _ _ 25 _ _ _
  refine hq_isub (pm_d rk_X11_sameName 17 rfl) ?_
  refine pm_jn (P := fun j34 => ∀ (z34_1 : Int32) (z34_2 : Int32) (z34_S0 : Int32) (s : hp_S), j34 z34_1 z34_2 z34_S0 s = some (x0, s1) → hp_go sh_M me_X11_sameName (d + 0) (some (.int x0)) s1 34 [(0, .ref 0), (1, .int z34_1), (2, .int z34_2)] [.int z34_S0] s) h ?_ (fun j34 hj34 h => ?_)
  · intro z34_1 z34_2 z34_S0 s h
    dsimp only at h
    refine hq_istore_n (L1 := [(3, .int z34_S0), (0, .ref 0), (1, .int z34_1), (2, .int z34_2)]) (pm_d rk_X11_sameName 22 rfl) rfl (by decide) rfl ?_
    refine hq_iconst (v := (0 : Int32)) (pm_d rk_X11_sameName 23 rfl) (by decide) ?_
    refine hq_istore (L1 := [(4, .int (0 : Int32)), (3, .int z34_S0), (0, .ref 0), (1, .int z34_1), (2, .int z34_2)]) (pm_d rk_X11_sameName 24 rfl) (by decide) rfl ?_
    refine hq_drop [2, 3, 4, 1, 0] rfl ?_
    exact wl_M_X11_sameName_0_38 d _ _   _ _ _ _ _ _ h
  refine hq_icmp_ne 33 (pm_d rk_X11_sameName 18 rfl) (by decide) (fun hc => ?_) (fun hc => ?_)
  · rw [if_neg hc] at h
    refine hq_iconst (v := (0 : Int32)) (pm_d rk_X11_sameName 21 rfl) (by decide) ?_
    refine hq_drop [0, 1, 2] rfl ?_
    exact hj34 _ _ _ _ h
  rw [if_pos hc] at h
  show hp_go _ _ _ _ _ 29 _ _ _
  refine hq_iconst (v := (1 : Int32)) (pm_d rk_X11_sameName 19 rfl) (by decide) ?_
  refine hq_goto 34 (pm_d rk_X11_sameName 20 rfl) (by decide) ?_
  refine hq_drop [0, 1, 2] rfl ?_
  exact hj34 _ _ _ _ h
def l_M_X11_settle_0_353 : Nat → Int32 → Int32 → hp_S → Option (Int32 × hp_S)
  | 0, _, _, _ => none
  | n + 1, y1, y2, s =>
    if (hs_I s 0 12) ≤ y2 then
      if 0 ≤ y1 then
        pm_gd1 (pm_ib y1 101) (
        pm_gd1 (pm_ib (hs_A s 10 y1.toNatClampNeg) 501) (
        some ((hs_A s 3 (hs_A s 10 y1.toNatClampNeg).toNatClampNeg), s)))
      else
        some ((-1 : Int32), s)
    else
      pm_gd1 (pm_ib y2 102) (
      pm_gd1 (pm_ib y2 101) (
      pm_gd1 (pm_ib (hs_A s 17 y2.toNatClampNeg) 101) (
      pm_let (fun (z394_1 : Int32) (z394_2 : Int32) (z394_S0 : Int32) (z394_S1 : Int32) (z394_S2 : Int32) (s : hp_S) =>
        pm_gd1 (pm_ib z394_S2 102) (
        pm_let (hs_pA s 18 z394_S2.toNatClampNeg (z394_S1 + z394_S0)) (fun t2 =>
        pm_let (z394_2 + (1 : Int32)) (fun x3 =>
        l_M_X11_settle_0_353 n z394_1 x3 t2)))) (fun j394 =>
      if (hs_A s 6 (hs_A s 17 y2.toNatClampNeg).toNatClampNeg) = (3 : Int32) then
        j394 y1 y2 (1 : Int32) (hs_A s 18 y2.toNatClampNeg) (y2 + (1 : Int32)) s
      else
        j394 y1 y2 (0 : Int32) (hs_A s 18 y2.toNatClampNeg) (y2 + (1 : Int32)) s))))
set_option maxRecDepth 100000 in
set_option maxHeartbeats 400000 in
theorem wl_M_X11_settle_0_353 (d : Nat) (s1 : hp_S) (x0 : Int32)  : ∀ (n : Nat) (y1 : Int32) (y2 : Int32) (s : hp_S), l_M_X11_settle_0_353 n y1 y2 s = some (x0, s1) → hp_go sh_M me_X11_settle (d + 1) (some (.int x0)) s1 353 [(0, .ref 0), (1, .int y1), (2, .int y2)] [] s := by
  intro n
  induction n with
  | zero =>
    intro y1 y2 s h
    cases h
  | succ n ih =>
    intro y1 y2 s h
    rw [l_M_X11_settle_0_353.eq_2] at h
    refine hq_iload_n (pm_d rk_X11_settle 207 rfl) rfl 2 rfl ?_
    refine hq_aload_n (pm_d rk_X11_settle 208 rfl) rfl 0 rfl ?_
    show hp_go _ _ _ _ _ 355 _ _ _
    refine hq_getI 12 (pm_d rk_X11_settle 209 rfl) fl_X11_196 rfl rfl ?_
    refine hq_icmp_ge 402 (pm_d rk_X11_settle 210 rfl) (by decide) (fun hc => ?_) (fun hc => ?_)
    · rw [if_pos hc] at h
      refine hq_iload_n (pm_d rk_X11_settle 236 rfl) rfl 1 rfl ?_
      refine hq_if_ge 410 (pm_d rk_X11_settle 237 rfl) (by decide) (fun hc => ?_) (fun hc => ?_)
      · rw [if_pos hc] at h
        refine hq_aload_n (pm_d rk_X11_settle 240 rfl) rfl 0 rfl ?_
        refine hq_getR (h := 3) 8 (pm_d rk_X11_settle 241 rfl) fl_X11_20 rfl rfl ?_
        show hp_go _ _ _ _ _ 414 _ _ _
        refine hq_aload_n (pm_d rk_X11_settle 242 rfl) rfl 0 rfl ?_
        refine hq_getR (h := 10) 17 (pm_d rk_X11_settle 243 rfl) fl_X11_42 rfl rfl ?_
        refine hq_iload_n (pm_d rk_X11_settle 244 rfl) rfl 1 rfl ?_
        obtain ⟨hg, h⟩ := pm_gd_i h
        refine hq_iaload (pm_d rk_X11_settle 245 rfl) rfl hg ?_
        obtain ⟨hg, h⟩ := pm_gd_i h
        refine hq_iaload (pm_d rk_X11_settle 246 rfl) rfl hg ?_
        exact hq_iret (pm_d rk_X11_settle 247 rfl) rfl h
      rw [if_neg hc] at h
      show hp_go _ _ _ _ _ 406 _ _ _
      refine hq_iconst (v := (-1 : Int32)) (pm_d rk_X11_settle 238 rfl) (by decide) ?_
      refine hq_goto 421 (pm_d rk_X11_settle 239 rfl) (by decide) ?_
      exact hq_iret (pm_d rk_X11_settle 247 rfl) rfl h
    rw [if_neg hc] at h
    refine hq_aload_n (pm_d rk_X11_settle 211 rfl) rfl 0 rfl ?_
    refine hq_getR (h := 18) 26 (pm_d rk_X11_settle 212 rfl) fl_X11_66 rfl rfl ?_
    refine hq_iload_n (pm_d rk_X11_settle 213 rfl) rfl 2 rfl ?_
    show hp_go _ _ _ _ _ 366 _ _ _
    refine hq_iconst (v := (1 : Int32)) (pm_d rk_X11_settle 214 rfl) (by decide) ?_
    refine hq_iadd (pm_d rk_X11_settle 215 rfl) ?_
    refine hq_aload_n (pm_d rk_X11_settle 216 rfl) rfl 0 rfl ?_
    refine hq_getR (h := 18) 26 (pm_d rk_X11_settle 217 rfl) fl_X11_66 rfl rfl ?_
    refine hq_iload_n (pm_d rk_X11_settle 218 rfl) rfl 2 rfl ?_
    obtain ⟨hg, h⟩ := pm_gd_i h
    refine hq_iaload (pm_d rk_X11_settle 219 rfl) rfl hg ?_
    show hp_go _ _ _ _ _ 374 _ _ _
    refine hq_aload_n (pm_d rk_X11_settle 220 rfl) rfl 0 rfl ?_
    refine hq_getR (h := 6) 13 (pm_d rk_X11_settle 221 rfl) fl_X11_30 rfl rfl ?_
    refine hq_aload_n (pm_d rk_X11_settle 222 rfl) rfl 0 rfl ?_
    refine hq_getR (h := 17) 25 (pm_d rk_X11_settle 223 rfl) fl_X11_63 rfl rfl ?_
    refine hq_iload_n (pm_d rk_X11_settle 224 rfl) rfl 2 rfl ?_
    obtain ⟨hg, h⟩ := pm_gd_i h
    refine hq_iaload (pm_d rk_X11_settle 225 rfl) rfl hg ?_
    show hp_go _ _ _ _ _ 384 _ _ _
    obtain ⟨hg, h⟩ := pm_gd_i h
    refine hq_iaload (pm_d rk_X11_settle 226 rfl) rfl hg ?_
    refine hq_iconst (v := (3 : Int32)) (pm_d rk_X11_settle 227 rfl) (by decide) ?_
    refine pm_jn (P := fun j394 => ∀ (z394_1 : Int32) (z394_2 : Int32) (z394_S0 : Int32) (z394_S1 : Int32) (z394_S2 : Int32) (s : hp_S), j394 z394_1 z394_2 z394_S0 z394_S1 z394_S2 s = some (x0, s1) → hp_go sh_M me_X11_settle (d + 1) (some (.int x0)) s1 394 [(0, .ref 0), (1, .int z394_1), (2, .int z394_2)] [.int z394_S0, .int z394_S1, .int z394_S2, .ref 18] s) h ?_ (fun j394 hj394 h => ?_)
    · intro z394_1 z394_2 z394_S0 z394_S1 z394_S2 s h
      dsimp only at h
      refine hq_iadd (pm_d rk_X11_settle 232 rfl) ?_
      obtain ⟨hg, h⟩ := pm_gd_i h
      refine hq_iastore (pm_d rk_X11_settle 233 rfl) rfl hg ?_
      refine pm_nm (G := fun t2 => hp_go sh_M me_X11_settle (d + 1) (some (.int x0)) s1 396 [(0, .ref 0), (1, .int z394_1), (2, .int z394_2)] [] t2) h (fun t2 h => ?_)
      refine hq_iinc (v := z394_2 + (1 : Int32)) (L1 := [(2, .int (z394_2 + (1 : Int32))), (0, .ref 0), (1, .int z394_1)]) (pm_d rk_X11_settle 234 rfl) 2 rfl (by rw [show Int32.ofInt (1) = (1 : Int32) by decide]) (by decide) rfl ?_
      refine pm_nm (G := fun x3 => hp_go sh_M me_X11_settle (d + 1) (some (.int x0)) s1 399 [(2, .int x3), (0, .ref 0), (1, .int z394_1)] [] t2) h (fun x3 h => ?_)
      refine hq_goto 353 (pm_d rk_X11_settle 235 rfl) (by decide) ?_
      refine hq_drop [1, 2, 0] rfl ?_
      exact ih _ _ _ h
    show hp_go _ _ _ _ _ 386 _ _ _
    refine hq_icmp_ne 393 (pm_d rk_X11_settle 228 rfl) (by decide) (fun hc => ?_) (fun hc => ?_)
    · rw [if_neg hc] at h
      refine hq_iconst (v := (0 : Int32)) (pm_d rk_X11_settle 231 rfl) (by decide) ?_
      refine hq_drop [0, 1, 2] rfl ?_
      exact hj394 _ _ _ _ _ _ h
    rw [if_pos hc] at h
    refine hq_iconst (v := (1 : Int32)) (pm_d rk_X11_settle 229 rfl) (by decide) ?_
    refine hq_goto 394 (pm_d rk_X11_settle 230 rfl) (by decide) ?_
    refine hq_drop [0, 1, 2] rfl ?_
    exact hj394 _ _ _ _ _ _ h
def l_M_X11_settle_0_283 : Nat → Int32 → Int32 → hp_S → Option (Int32 × hp_S)
  | 0, _, _, _ => none
  | n + 1, y1, y2, s =>
    if (hs_I s 0 12) ≤ y2 then
      pm_gd1 (pm_ib (0 : Int32) 102) (
      pm_let (hs_pA s 18 (0 : Int32).toNatClampNeg (0 : Int32)) (fun t1 =>
      l_M_X11_settle_0_353 n y1 (0 : Int32) t1))
    else
      pm_gd1 (pm_ib y2 101) (
      pm_let (fun (z338_1 : Int32) (z338_2 : Int32) (s : hp_S) =>
        pm_let (z338_2 + (1 : Int32)) (fun x4 =>
        l_M_X11_settle_0_283 n z338_1 x4 s)) (fun j338 =>
      if (hs_A s 6 y2.toNatClampNeg) = (1 : Int32) then
        pm_gd1 (pm_ib y2 101) (
        if (hs_A s 19 y2.toNatClampNeg) < 0 then
          j338 y1 y2 s
        else
          pm_gd1 (pm_ib y2 101) (
          pm_gd1 (pm_ib (hs_A s 19 y2.toNatClampNeg) 101) (
          pm_let (fun (z337_1 : Int32) (z337_2 : Int32) (z337_S0 : Int32) (z337_S1 : Int32) (s : hp_S) =>
            pm_gd1 (pm_ib z337_S1 101) (
            pm_let (hs_pA s 6 z337_S1.toNatClampNeg z337_S0) (fun t5 =>
            j338 z337_1 z337_2 t5))) (fun j337 =>
          if (hs_A s 6 (hs_A s 19 y2.toNatClampNeg).toNatClampNeg) = (3 : Int32) then
            j337 y1 y2 (32 : Int32) y2 s
          else
            j337 y1 y2 (33 : Int32) y2 s))))
      else
        j338 y1 y2 s))
set_option maxRecDepth 100000 in
set_option maxHeartbeats 400000 in
theorem wl_M_X11_settle_0_283 (d : Nat) (s1 : hp_S) (x0 : Int32)  : ∀ (n : Nat) (y1 : Int32) (y2 : Int32) (s : hp_S), l_M_X11_settle_0_283 n y1 y2 s = some (x0, s1) → hp_go sh_M me_X11_settle (d + 1) (some (.int x0)) s1 283 [(0, .ref 0), (1, .int y1), (2, .int y2)] [] s := by
  intro n
  induction n with
  | zero =>
    intro y1 y2 s h
    cases h
  | succ n ih =>
    intro y1 y2 s h
    rw [l_M_X11_settle_0_283.eq_2] at h
    refine hq_iload_n (pm_d rk_X11_settle 167 rfl) rfl 2 rfl ?_
    show hp_go _ _ _ _ _ 284 _ _ _
    refine hq_aload_n (pm_d rk_X11_settle 168 rfl) rfl 0 rfl ?_
    refine hq_getI 12 (pm_d rk_X11_settle 169 rfl) fl_X11_196 rfl rfl ?_
    refine hq_icmp_ge 344 (pm_d rk_X11_settle 170 rfl) (by decide) (fun hc => ?_) (fun hc => ?_)
    · rw [if_pos hc] at h
      refine hq_aload_n (pm_d rk_X11_settle 200 rfl) rfl 0 rfl ?_
      refine hq_getR (h := 18) 26 (pm_d rk_X11_settle 201 rfl) fl_X11_66 rfl rfl ?_
      refine hq_iconst (v := (0 : Int32)) (pm_d rk_X11_settle 202 rfl) (by decide) ?_
      show hp_go _ _ _ _ _ 349 _ _ _
      refine hq_iconst (v := (0 : Int32)) (pm_d rk_X11_settle 203 rfl) (by decide) ?_
      obtain ⟨hg, h⟩ := pm_gd_i h
      refine hq_iastore (pm_d rk_X11_settle 204 rfl) rfl hg ?_
      refine pm_nm (G := fun t1 => hp_go sh_M me_X11_settle (d + 1) (some (.int x0)) s1 351 [(0, .ref 0), (1, .int y1), (2, .int y2)] [] t1) h (fun t1 h => ?_)
      refine hq_iconst (v := (0 : Int32)) (pm_d rk_X11_settle 205 rfl) (by decide) ?_
      refine hq_istore_n (L1 := [(2, .int (0 : Int32)), (0, .ref 0), (1, .int y1)]) (pm_d rk_X11_settle 206 rfl) rfl (by decide) rfl ?_
      refine hq_drop [1, 2, 0] rfl ?_
      exact wl_M_X11_settle_0_353 d _ _   _ _ _ _ h
    rw [if_neg hc] at h
    refine hq_aload_n (pm_d rk_X11_settle 171 rfl) rfl 0 rfl ?_
    refine hq_getR (h := 6) 13 (pm_d rk_X11_settle 172 rfl) fl_X11_30 rfl rfl ?_
    show hp_go _ _ _ _ _ 295 _ _ _
    refine hq_iload_n (pm_d rk_X11_settle 173 rfl) rfl 2 rfl ?_
    obtain ⟨hg, h⟩ := pm_gd_i h
    refine hq_iaload (pm_d rk_X11_settle 174 rfl) rfl hg ?_
    refine hq_iconst (v := (1 : Int32)) (pm_d rk_X11_settle 175 rfl) (by decide) ?_
    refine pm_jn (P := fun j338 => ∀ (z338_1 : Int32) (z338_2 : Int32) (s : hp_S), j338 z338_1 z338_2 s = some (x0, s1) → hp_go sh_M me_X11_settle (d + 1) (some (.int x0)) s1 338 [(0, .ref 0), (1, .int z338_1), (2, .int z338_2)] [] s) h ?_ (fun j338 hj338 h => ?_)
    · intro z338_1 z338_2 s h
      dsimp only at h
      refine hq_iinc (v := z338_2 + (1 : Int32)) (L1 := [(2, .int (z338_2 + (1 : Int32))), (0, .ref 0), (1, .int z338_1)]) (pm_d rk_X11_settle 198 rfl) 2 rfl (by rw [show Int32.ofInt (1) = (1 : Int32) by decide]) (by decide) rfl ?_
      refine pm_nm (G := fun x4 => hp_go sh_M me_X11_settle (d + 1) (some (.int x0)) s1 341 [(2, .int x4), (0, .ref 0), (1, .int z338_1)] [] s) h (fun x4 h => ?_)
      refine hq_goto 283 (pm_d rk_X11_settle 199 rfl) (by decide) ?_
      refine hq_drop [1, 2, 0] rfl ?_
      exact ih _ _ _ h
    refine hq_icmp_ne 338 (pm_d rk_X11_settle 176 rfl) (by decide) (fun hc => ?_) (fun hc => ?_)
    · rw [if_neg hc] at h
      refine hq_drop [0, 1, 2] rfl ?_
      exact hj338 _ _ _ h
    rw [if_pos hc] at h
    show hp_go _ _ _ _ _ 301 _ _ _
    refine hq_aload_n (pm_d rk_X11_settle 177 rfl) rfl 0 rfl ?_
    refine hq_getR (h := 19) 27 (pm_d rk_X11_settle 178 rfl) fl_X11_69 rfl rfl ?_
    refine hq_iload_n (pm_d rk_X11_settle 179 rfl) rfl 2 rfl ?_
    obtain ⟨hg, h⟩ := pm_gd_i h
    refine hq_iaload (pm_d rk_X11_settle 180 rfl) rfl hg ?_
    refine hq_if_lt 338 (pm_d rk_X11_settle 181 rfl) (by decide) (fun hc => ?_) (fun hc => ?_)
    · rw [if_pos hc] at h
      refine hq_drop [0, 1, 2] rfl ?_
      exact hj338 _ _ _ h
    rw [if_neg hc] at h
    refine hq_aload_n (pm_d rk_X11_settle 182 rfl) rfl 0 rfl ?_
    show hp_go _ _ _ _ _ 311 _ _ _
    refine hq_getR (h := 6) 13 (pm_d rk_X11_settle 183 rfl) fl_X11_30 rfl rfl ?_
    refine hq_iload_n (pm_d rk_X11_settle 184 rfl) rfl 2 rfl ?_
    refine hq_aload_n (pm_d rk_X11_settle 185 rfl) rfl 0 rfl ?_
    refine hq_getR (h := 6) 13 (pm_d rk_X11_settle 186 rfl) fl_X11_30 rfl rfl ?_
    refine hq_aload_n (pm_d rk_X11_settle 187 rfl) rfl 0 rfl ?_
    refine hq_getR (h := 19) 27 (pm_d rk_X11_settle 188 rfl) fl_X11_69 rfl rfl ?_
    show hp_go _ _ _ _ _ 323 _ _ _
    refine hq_iload_n (pm_d rk_X11_settle 189 rfl) rfl 2 rfl ?_
    obtain ⟨hg, h⟩ := pm_gd_i h
    refine hq_iaload (pm_d rk_X11_settle 190 rfl) rfl hg ?_
    obtain ⟨hg, h⟩ := pm_gd_i h
    refine hq_iaload (pm_d rk_X11_settle 191 rfl) rfl hg ?_
    refine hq_iconst (v := (3 : Int32)) (pm_d rk_X11_settle 192 rfl) (by decide) ?_
    refine pm_jn (P := fun j337 => ∀ (z337_1 : Int32) (z337_2 : Int32) (z337_S0 : Int32) (z337_S1 : Int32) (s : hp_S), j337 z337_1 z337_2 z337_S0 z337_S1 s = some (x0, s1) → hp_go sh_M me_X11_settle (d + 1) (some (.int x0)) s1 337 [(0, .ref 0), (1, .int z337_1), (2, .int z337_2)] [.int z337_S0, .int z337_S1, .ref 6] s) h ?_ (fun j337 hj337 h => ?_)
    · intro z337_1 z337_2 z337_S0 z337_S1 s h
      dsimp only at h
      obtain ⟨hg, h⟩ := pm_gd_i h
      refine hq_iastore (pm_d rk_X11_settle 197 rfl) rfl hg ?_
      refine pm_nm (G := fun t5 => hp_go sh_M me_X11_settle (d + 1) (some (.int x0)) s1 338 [(0, .ref 0), (1, .int z337_1), (2, .int z337_2)] [] t5) h (fun t5 h => ?_)
      refine hq_drop [0, 1, 2] rfl ?_
      exact hj338 _ _ _ h
    refine hq_icmp_ne 335 (pm_d rk_X11_settle 193 rfl) (by decide) (fun hc => ?_) (fun hc => ?_)
    · rw [if_neg hc] at h
      show hp_go _ _ _ _ _ 335 _ _ _
      refine hq_bipush (v := (33 : Int32)) (pm_d rk_X11_settle 196 rfl) (by decide) ?_
      refine hq_drop [0, 1, 2] rfl ?_
      exact hj337 _ _ _ _ _ h
    rw [if_pos hc] at h
    refine hq_bipush (v := (32 : Int32)) (pm_d rk_X11_settle 194 rfl) (by decide) ?_
    refine hq_goto 337 (pm_d rk_X11_settle 195 rfl) (by decide) ?_
    refine hq_drop [0, 1, 2] rfl ?_
    exact hj337 _ _ _ _ _ h
def l_M_X11_settle_0_114 (j275 : Int32 → Int32 → hp_S → Option (Int32 × hp_S)) : Nat → Int32 → Int32 → Int32 → hp_S → Option (Int32 × hp_S)
  | 0, _, _, _, _ => none
  | n + 1, y1, y2, y3, s =>
    if (hs_I s 0 12) ≤ y3 then
      pm_gd1 (pm_ib y2 101) (
      if 0 ≤ (hs_A s 19 y2.toNatClampNeg) then
        j275 y1 y2 s
      else
        pm_let (fun (z273_2 : Int32) (s : hp_S) =>
          j275 z273_2 z273_2 s) (fun j273 =>
        if y1 < 0 then
          j273 y2 s
        else
          pm_gd1 (pm_ib y2 101) (
          pm_gd1 (pm_ib y1 101) (
          if (hs_A s 10 y1.toNatClampNeg) ≤ (hs_A s 10 y2.toNatClampNeg) then
            j275 y1 y2 s
          else
            j273 y2 s))))
    else
      pm_gd1 (pm_ib y3 101) (
      pm_let (fun (z196_1 : Int32) (z196_2 : Int32) (z196_3 : Int32) (z196_S0 : Int32) (s : hp_S) =>
        pm_let (fun (z239_1 : Int32) (z239_2 : Int32) (z239_3 : Int32) (s : hp_S) =>
          pm_let (z239_3 + (1 : Int32)) (fun x8 =>
          l_M_X11_settle_0_114 j275 n z239_1 z239_2 x8 s)) (fun j239 =>
        if z196_S0 = 0 then
          j239 z196_1 z196_2 z196_3 s
        else
          pm_gd1 (pm_ib z196_2 101) (
          pm_let (fun (z232_1 : Int32) (z232_2 : Int32) (z232_3 : Int32) (s : hp_S) =>
            pm_gd1 (pm_ib z232_2 101) (
            pm_let (hs_pA s 19 z232_2.toNatClampNeg z232_3) (fun t9 =>
            j239 z232_1 z232_2 z232_3 t9))) (fun j232 =>
          if (hs_A s 19 z196_2.toNatClampNeg) < 0 then
            j232 z196_1 z196_2 z196_3 s
          else
            pm_gd1 (pm_ib z196_3 101) (
            pm_gd1 (pm_ib z196_2 101) (
            pm_gd1 (pm_ib (hs_A s 19 z196_2.toNatClampNeg) 101) (
            if (hs_A s 12 z196_3.toNatClampNeg) ≤ (hs_A s 12 (hs_A s 19 z196_2.toNatClampNeg).toNatClampNeg) then
              j239 z196_1 z196_2 z196_3 s
            else
              j232 z196_1 z196_2 z196_3 s))))))) (fun j196 =>
      pm_let (fun (z195_1 : Int32) (z195_2 : Int32) (z195_3 : Int32) (s : hp_S) =>
        j196 z195_1 z195_2 z195_3 (0 : Int32) s) (fun j195 =>
      pm_let (fun (z142_1 : Int32) (z142_2 : Int32) (z142_3 : Int32) (s : hp_S) =>
        pm_gd1 (pm_ib z142_2 101) (
        pm_gd1 (pm_ib z142_3 101) (
        if (hs_A s 10 z142_2.toNatClampNeg) < (hs_A s 12 z142_3.toNatClampNeg) then
          j195 z142_1 z142_2 z142_3 s
        else
          pm_gd1 (pm_ib z142_2 101) (
          pm_gd1 (pm_ib z142_3 101) (
          if (hs_A s 13 z142_3.toNatClampNeg) ≤ (hs_A s 10 z142_2.toNatClampNeg) then
            j195 z142_1 z142_2 z142_3 s
          else
            pm_gd1 (pm_ib z142_2 101) (
            pm_gd1 (pm_ib z142_3 101) (
            pm_bd (f_M_X11_sameName_0 n (hs_A s 10 z142_2.toNatClampNeg) (hs_A s 11 z142_3.toNatClampNeg) s) (fun x11 t10 =>
            if x11 = 0 then
              j195 z142_1 z142_2 z142_3 t10
            else
              j196 z142_1 z142_2 z142_3 (1 : Int32) t10)))))))) (fun j142 =>
      if (hs_A s 6 y3.toNatClampNeg) = (3 : Int32) then
        j142 y1 y2 y3 s
      else
        pm_gd1 (pm_ib y3 101) (
        if (hs_A s 6 y3.toNatClampNeg) = (4 : Int32) then
          j142 y1 y2 y3 s
        else
          j195 y1 y2 y3 s)))))
set_option maxRecDepth 100000 in
set_option maxHeartbeats 400000 in
theorem wl_M_X11_settle_0_114 (d : Nat) (j275 : Int32 → Int32 → hp_S → Option (Int32 × hp_S)) (s1 : hp_S) (x0 : Int32) (hj275 : ∀ (z275_1 : Int32) (z275_2 : Int32) (s : hp_S), j275 z275_1 z275_2 s = some (x0, s1) → hp_go sh_M me_X11_settle (d + 1) (some (.int x0)) s1 275 [(0, .ref 0), (1, .int z275_1), (2, .int z275_2)] [] s) : ∀ (n : Nat) (y1 : Int32) (y2 : Int32) (y3 : Int32) (s : hp_S), l_M_X11_settle_0_114 j275 n y1 y2 y3 s = some (x0, s1) → hp_go sh_M me_X11_settle (d + 1) (some (.int x0)) s1 114 [(0, .ref 0), (1, .int y1), (2, .int y2), (3, .int y3)] [] s := by
  intro n
  induction n with
  | zero =>
    intro y1 y2 y3 s h
    cases h
  | succ n ih =>
    intro y1 y2 y3 s h
    rw [l_M_X11_settle_0_114.eq_2] at h
    show hp_go _ _ _ _ _ 114 _ _ _
    refine hq_iload_n (pm_d rk_X11_settle 70 rfl) rfl 3 rfl ?_
    refine hq_aload_n (pm_d rk_X11_settle 71 rfl) rfl 0 rfl ?_
    refine hq_getI 12 (pm_d rk_X11_settle 72 rfl) fl_X11_196 rfl rfl ?_
    refine hq_icmp_ge 245 (pm_d rk_X11_settle 73 rfl) (by decide) (fun hc => ?_) (fun hc => ?_)
    · rw [if_pos hc] at h
      refine hq_aload_n (pm_d rk_X11_settle 145 rfl) rfl 0 rfl ?_
      refine hq_getR (h := 19) 27 (pm_d rk_X11_settle 146 rfl) fl_X11_69 rfl rfl ?_
      show hp_go _ _ _ _ _ 249 _ _ _
      refine hq_iload_n (pm_d rk_X11_settle 147 rfl) rfl 2 rfl ?_
      obtain ⟨hg, h⟩ := pm_gd_i h
      refine hq_iaload (pm_d rk_X11_settle 148 rfl) rfl hg ?_
      refine hq_if_ge 275 (pm_d rk_X11_settle 149 rfl) (by decide) (fun hc => ?_) (fun hc => ?_)
      · rw [if_pos hc] at h
        refine hq_drop [0, 1, 2] rfl ?_
        exact hj275 _ _ _ h
      rw [if_neg hc] at h
      refine hq_iload_n (pm_d rk_X11_settle 150 rfl) rfl 1 rfl ?_
      refine pm_jn (P := fun j273 => ∀ (z273_2 : Int32) (s : hp_S), j273 z273_2 s = some (x0, s1) → hp_go sh_M me_X11_settle (d + 1) (some (.int x0)) s1 273 [(0, .ref 0), (2, .int z273_2)] [] s) h ?_ (fun j273 hj273 h => ?_)
      · intro z273_2 s h
        dsimp only at h
        refine hq_iload_n (pm_d rk_X11_settle 161 rfl) rfl 1 rfl ?_
        refine hq_istore_n (L1 := [(1, .int z273_2), (0, .ref 0), (2, .int z273_2)]) (pm_d rk_X11_settle 162 rfl) rfl (by decide) rfl ?_
        refine hq_drop [1, 0, 2] rfl ?_
        exact hj275 _ _ _ h
      show hp_go _ _ _ _ _ 255 _ _ _
      refine hq_if_lt 273 (pm_d rk_X11_settle 151 rfl) (by decide) (fun hc => ?_) (fun hc => ?_)
      · rw [if_pos hc] at h
        refine hq_drop [0, 2] rfl ?_
        exact hj273 _ _ h
      rw [if_neg hc] at h
      refine hq_aload_n (pm_d rk_X11_settle 152 rfl) rfl 0 rfl ?_
      refine hq_getR (h := 10) 17 (pm_d rk_X11_settle 153 rfl) fl_X11_42 rfl rfl ?_
      refine hq_iload_n (pm_d rk_X11_settle 154 rfl) rfl 2 rfl ?_
      obtain ⟨hg, h⟩ := pm_gd_i h
      refine hq_iaload (pm_d rk_X11_settle 155 rfl) rfl hg ?_
      refine hq_aload_n (pm_d rk_X11_settle 156 rfl) rfl 0 rfl ?_
      show hp_go _ _ _ _ _ 265 _ _ _
      refine hq_getR (h := 10) 17 (pm_d rk_X11_settle 157 rfl) fl_X11_42 rfl rfl ?_
      refine hq_iload_n (pm_d rk_X11_settle 158 rfl) rfl 1 rfl ?_
      obtain ⟨hg, h⟩ := pm_gd_i h
      refine hq_iaload (pm_d rk_X11_settle 159 rfl) rfl hg ?_
      refine hq_icmp_ge 275 (pm_d rk_X11_settle 160 rfl) (by decide) (fun hc => ?_) (fun hc => ?_)
      · rw [if_pos hc] at h
        refine hq_drop [0, 1, 2] rfl ?_
        exact hj275 _ _ _ h
      rw [if_neg hc] at h
      refine hq_drop [0, 2] rfl ?_
      exact hj273 _ _ h
    rw [if_neg hc] at h
    refine hq_aload_n (pm_d rk_X11_settle 74 rfl) rfl 0 rfl ?_
    refine hq_getR (h := 6) 13 (pm_d rk_X11_settle 75 rfl) fl_X11_30 rfl rfl ?_
    show hp_go _ _ _ _ _ 126 _ _ _
    refine hq_iload_n (pm_d rk_X11_settle 76 rfl) rfl 3 rfl ?_
    obtain ⟨hg, h⟩ := pm_gd_i h
    refine hq_iaload (pm_d rk_X11_settle 77 rfl) rfl hg ?_
    refine hq_iconst (v := (3 : Int32)) (pm_d rk_X11_settle 78 rfl) (by decide) ?_
    refine pm_jn (P := fun j196 => ∀ (z196_1 : Int32) (z196_2 : Int32) (z196_3 : Int32) (z196_S0 : Int32) (s : hp_S), j196 z196_1 z196_2 z196_3 z196_S0 s = some (x0, s1) → hp_go sh_M me_X11_settle (d + 1) (some (.int x0)) s1 196 [(0, .ref 0), (1, .int z196_1), (2, .int z196_2), (3, .int z196_3)] [.int z196_S0] s) h ?_ (fun j196 hj196 h => ?_)
    · intro z196_1 z196_2 z196_3 z196_S0 s h
      dsimp only at h
      refine hq_istore (L1 := [(4, .int z196_S0), (0, .ref 0), (1, .int z196_1), (2, .int z196_2), (3, .int z196_3)]) (pm_d rk_X11_settle 118 rfl) (by decide) rfl ?_
      refine hq_iload (pm_d rk_X11_settle 119 rfl) 0 rfl ?_
      refine pm_jn (P := fun j239 => ∀ (z239_1 : Int32) (z239_2 : Int32) (z239_3 : Int32) (s : hp_S), j239 z239_1 z239_2 z239_3 s = some (x0, s1) → hp_go sh_M me_X11_settle (d + 1) (some (.int x0)) s1 239 [(0, .ref 0), (1, .int z239_1), (2, .int z239_2), (3, .int z239_3)] [] s) h ?_ (fun j239 hj239 h => ?_)
      · intro z239_1 z239_2 z239_3 s h
        dsimp only at h
        refine hq_iinc (v := z239_3 + (1 : Int32)) (L1 := [(3, .int (z239_3 + (1 : Int32))), (0, .ref 0), (1, .int z239_1), (2, .int z239_2)]) (pm_d rk_X11_settle 143 rfl) 3 rfl (by rw [show Int32.ofInt (1) = (1 : Int32) by decide]) (by decide) rfl ?_
        refine pm_nm (G := fun x8 => hp_go sh_M me_X11_settle (d + 1) (some (.int x0)) s1 242 [(3, .int x8), (0, .ref 0), (1, .int z239_1), (2, .int z239_2)] [] s) h (fun x8 h => ?_)
        show hp_go _ _ _ _ _ 242 _ _ _
        refine hq_goto 114 (pm_d rk_X11_settle 144 rfl) (by decide) ?_
        refine hq_drop [1, 2, 3, 0] rfl ?_
        exact ih _ _ _ _ h
      refine hq_if_eq 239 (pm_d rk_X11_settle 120 rfl) (by decide) (fun hc => ?_) (fun hc => ?_)
      · rw [if_pos hc] at h
        refine hq_drop [1, 2, 3, 4] rfl ?_
        exact hj239 _ _ _ _ h
      rw [if_neg hc] at h
      refine hq_aload_n (pm_d rk_X11_settle 121 rfl) rfl 1 rfl ?_
      refine hq_getR (h := 19) 27 (pm_d rk_X11_settle 122 rfl) fl_X11_69 rfl rfl ?_
      refine hq_iload_n (pm_d rk_X11_settle 123 rfl) rfl 3 rfl ?_
      obtain ⟨hg, h⟩ := pm_gd_i h
      refine hq_iaload (pm_d rk_X11_settle 124 rfl) rfl hg ?_
      refine pm_jn (P := fun j232 => ∀ (z232_1 : Int32) (z232_2 : Int32) (z232_3 : Int32) (s : hp_S), j232 z232_1 z232_2 z232_3 s = some (x0, s1) → hp_go sh_M me_X11_settle (d + 1) (some (.int x0)) s1 232 [(0, .ref 0), (1, .int z232_1), (2, .int z232_2), (3, .int z232_3)] [] s) h ?_ (fun j232 hj232 h => ?_)
      · intro z232_1 z232_2 z232_3 s h
        dsimp only at h
        show hp_go _ _ _ _ _ 232 _ _ _
        refine hq_aload_n (pm_d rk_X11_settle 138 rfl) rfl 0 rfl ?_
        refine hq_getR (h := 19) 27 (pm_d rk_X11_settle 139 rfl) fl_X11_69 rfl rfl ?_
        refine hq_iload_n (pm_d rk_X11_settle 140 rfl) rfl 2 rfl ?_
        refine hq_iload_n (pm_d rk_X11_settle 141 rfl) rfl 3 rfl ?_
        obtain ⟨hg, h⟩ := pm_gd_i h
        refine hq_iastore (pm_d rk_X11_settle 142 rfl) rfl hg ?_
        refine pm_nm (G := fun t9 => hp_go sh_M me_X11_settle (d + 1) (some (.int x0)) s1 239 [(0, .ref 0), (1, .int z232_1), (2, .int z232_2), (3, .int z232_3)] [] t9) h (fun t9 h => ?_)
        refine hq_drop [0, 1, 2, 3] rfl ?_
        exact hj239 _ _ _ _ h
      refine hq_if_lt 232 (pm_d rk_X11_settle 125 rfl) (by decide) (fun hc => ?_) (fun hc => ?_)
      · rw [if_pos hc] at h
        refine hq_drop [1, 2, 3, 4] rfl ?_
        exact hj232 _ _ _ _ h
      rw [if_neg hc] at h
      show hp_go _ _ _ _ _ 212 _ _ _
      refine hq_aload_n (pm_d rk_X11_settle 126 rfl) rfl 1 rfl ?_
      refine hq_getR (h := 12) 19 (pm_d rk_X11_settle 127 rfl) fl_X11_48 rfl rfl ?_
      refine hq_iload_n (pm_d rk_X11_settle 128 rfl) rfl 4 rfl ?_
      obtain ⟨hg, h⟩ := pm_gd_i h
      refine hq_iaload (pm_d rk_X11_settle 129 rfl) rfl hg ?_
      refine hq_aload_n (pm_d rk_X11_settle 130 rfl) rfl 1 rfl ?_
      refine hq_getR (h := 12) 19 (pm_d rk_X11_settle 131 rfl) fl_X11_48 rfl rfl ?_
      show hp_go _ _ _ _ _ 222 _ _ _
      refine hq_aload_n (pm_d rk_X11_settle 132 rfl) rfl 1 rfl ?_
      refine hq_getR (h := 19) 27 (pm_d rk_X11_settle 133 rfl) fl_X11_69 rfl rfl ?_
      refine hq_iload_n (pm_d rk_X11_settle 134 rfl) rfl 3 rfl ?_
      obtain ⟨hg, h⟩ := pm_gd_i h
      refine hq_iaload (pm_d rk_X11_settle 135 rfl) rfl hg ?_
      obtain ⟨hg, h⟩ := pm_gd_i h
      refine hq_iaload (pm_d rk_X11_settle 136 rfl) rfl hg ?_
      refine hq_icmp_le 239 (pm_d rk_X11_settle 137 rfl) (by decide) (fun hc => ?_) (fun hc => ?_)
      · rw [if_pos hc] at h
        refine hq_drop [1, 2, 3, 4] rfl ?_
        exact hj239 _ _ _ _ h
      rw [if_neg hc] at h
      refine hq_drop [1, 2, 3, 4] rfl ?_
      exact hj232 _ _ _ _ h
    refine pm_jn (P := fun j195 => ∀ (z195_1 : Int32) (z195_2 : Int32) (z195_3 : Int32) (s : hp_S), j195 z195_1 z195_2 z195_3 s = some (x0, s1) → hp_go sh_M me_X11_settle (d + 1) (some (.int x0)) s1 195 [(0, .ref 0), (1, .int z195_1), (2, .int z195_2), (3, .int z195_3)] [] s) h ?_ (fun j195 hj195 h => ?_)
    · intro z195_1 z195_2 z195_3 s h
      dsimp only at h
      show hp_go _ _ _ _ _ 195 _ _ _
      refine hq_iconst (v := (0 : Int32)) (pm_d rk_X11_settle 117 rfl) (by decide) ?_
      refine hq_drop [0, 1, 2, 3] rfl ?_
      exact hj196 _ _ _ _ _ h
    refine pm_jn (P := fun j142 => ∀ (z142_1 : Int32) (z142_2 : Int32) (z142_3 : Int32) (s : hp_S), j142 z142_1 z142_2 z142_3 s = some (x0, s1) → hp_go sh_M me_X11_settle (d + 1) (some (.int x0)) s1 142 [(0, .ref 0), (1, .int z142_1), (2, .int z142_2), (3, .int z142_3)] [] s) h ?_ (fun j142 hj142 h => ?_)
    · intro z142_1 z142_2 z142_3 s h
      dsimp only at h
      refine hq_aload_n (pm_d rk_X11_settle 86 rfl) rfl 0 rfl ?_
      refine hq_getR (h := 10) 17 (pm_d rk_X11_settle 87 rfl) fl_X11_42 rfl rfl ?_
      refine hq_iload_n (pm_d rk_X11_settle 88 rfl) rfl 2 rfl ?_
      obtain ⟨hg, h⟩ := pm_gd_i h
      refine hq_iaload (pm_d rk_X11_settle 89 rfl) rfl hg ?_
      refine hq_aload_n (pm_d rk_X11_settle 90 rfl) rfl 0 rfl ?_
      show hp_go _ _ _ _ _ 149 _ _ _
      refine hq_getR (h := 12) 19 (pm_d rk_X11_settle 91 rfl) fl_X11_48 rfl rfl ?_
      refine hq_iload_n (pm_d rk_X11_settle 92 rfl) rfl 3 rfl ?_
      obtain ⟨hg, h⟩ := pm_gd_i h
      refine hq_iaload (pm_d rk_X11_settle 93 rfl) rfl hg ?_
      refine hq_icmp_lt 195 (pm_d rk_X11_settle 94 rfl) (by decide) (fun hc => ?_) (fun hc => ?_)
      · rw [if_pos hc] at h
        refine hq_drop [0, 1, 2, 3] rfl ?_
        exact hj195 _ _ _ _ h
      rw [if_neg hc] at h
      refine hq_aload_n (pm_d rk_X11_settle 95 rfl) rfl 0 rfl ?_
      refine hq_getR (h := 10) 17 (pm_d rk_X11_settle 96 rfl) fl_X11_42 rfl rfl ?_
      show hp_go _ _ _ _ _ 161 _ _ _
      refine hq_iload_n (pm_d rk_X11_settle 97 rfl) rfl 2 rfl ?_
      obtain ⟨hg, h⟩ := pm_gd_i h
      refine hq_iaload (pm_d rk_X11_settle 98 rfl) rfl hg ?_
      refine hq_aload_n (pm_d rk_X11_settle 99 rfl) rfl 0 rfl ?_
      refine hq_getR (h := 13) 20 (pm_d rk_X11_settle 100 rfl) fl_X11_51 rfl rfl ?_
      refine hq_iload_n (pm_d rk_X11_settle 101 rfl) rfl 3 rfl ?_
      obtain ⟨hg, h⟩ := pm_gd_i h
      refine hq_iaload (pm_d rk_X11_settle 102 rfl) rfl hg ?_
      show hp_go _ _ _ _ _ 169 _ _ _
      refine hq_icmp_ge 195 (pm_d rk_X11_settle 103 rfl) (by decide) (fun hc => ?_) (fun hc => ?_)
      · rw [if_pos hc] at h
        refine hq_drop [0, 1, 2, 3] rfl ?_
        exact hj195 _ _ _ _ h
      rw [if_neg hc] at h
      refine hq_aload_n (pm_d rk_X11_settle 104 rfl) rfl 0 rfl ?_
      refine hq_aload_n (pm_d rk_X11_settle 105 rfl) rfl 0 rfl ?_
      refine hq_getR (h := 10) 17 (pm_d rk_X11_settle 106 rfl) fl_X11_42 rfl rfl ?_
      refine hq_iload_n (pm_d rk_X11_settle 107 rfl) rfl 2 rfl ?_
      obtain ⟨hg, h⟩ := pm_gd_i h
      refine hq_iaload (pm_d rk_X11_settle 108 rfl) rfl hg ?_
      show hp_go _ _ _ _ _ 179 _ _ _
      refine hq_aload_n (pm_d rk_X11_settle 109 rfl) rfl 0 rfl ?_
      refine hq_getR (h := 11) 18 (pm_d rk_X11_settle 110 rfl) fl_X11_45 rfl rfl ?_
      refine hq_iload_n (pm_d rk_X11_settle 111 rfl) rfl 3 rfl ?_
      obtain ⟨hg, h⟩ := pm_gd_i h
      refine hq_iaload (pm_d rk_X11_settle 112 rfl) rfl hg ?_
      obtain ⟨x11, t10, hq, h⟩ := pm_bd_i h
      have hM := w_M_X11_sameName_0 (d := d + 0) (h := hq)
      refine hq_callVi (a := 0) (ci := 11) [.int (hs_A s 10 z142_2.toNatClampNeg), .int (hs_A s 11 z142_3.toNatClampNeg)] [] (pm_d rk_X11_settle 113 rfl) ml_X11_237 iv_X11_sameName rfl rfl rfl rfl rfl (Nat.le_of_ble_eq_true rfl) hM ?_
      refine hq_if_eq 195 (pm_d rk_X11_settle 114 rfl) (by decide) (fun hc => ?_) (fun hc => ?_)
      · rw [if_pos hc] at h
        refine hq_drop [0, 1, 2, 3] rfl ?_
        exact hj195 _ _ _ _ h
      rw [if_neg hc] at h
      show hp_go _ _ _ _ _ 191 _ _ _
      refine hq_iconst (v := (1 : Int32)) (pm_d rk_X11_settle 115 rfl) (by decide) ?_
      refine hq_goto 196 (pm_d rk_X11_settle 116 rfl) (by decide) ?_
      refine hq_drop [0, 1, 2, 3] rfl ?_
      exact hj196 _ _ _ _ _ h
    refine hq_icmp_eq 142 (pm_d rk_X11_settle 79 rfl) (by decide) (fun hc => ?_) (fun hc => ?_)
    · rw [if_pos hc] at h
      refine hq_drop [0, 1, 2, 3] rfl ?_
      exact hj142 _ _ _ _ h
    rw [if_neg hc] at h
    refine hq_aload_n (pm_d rk_X11_settle 80 rfl) rfl 0 rfl ?_
    refine hq_getR (h := 6) 13 (pm_d rk_X11_settle 81 rfl) fl_X11_30 rfl rfl ?_
    refine hq_iload_n (pm_d rk_X11_settle 82 rfl) rfl 3 rfl ?_
    show hp_go _ _ _ _ _ 137 _ _ _
    obtain ⟨hg, h⟩ := pm_gd_i h
    refine hq_iaload (pm_d rk_X11_settle 83 rfl) rfl hg ?_
    refine hq_iconst (v := (4 : Int32)) (pm_d rk_X11_settle 84 rfl) (by decide) ?_
    refine hq_icmp_ne 195 (pm_d rk_X11_settle 85 rfl) (by decide) (fun hc => ?_) (fun hc => ?_)
    · rw [if_neg hc] at h
      refine hq_drop [0, 1, 2, 3] rfl ?_
      exact hj195 _ _ _ _ h
    rw [if_pos hc] at h
    refine hq_drop [0, 1, 2, 3] rfl ?_
    exact hj142 _ _ _ _ h
def l_M_X11_settle_0_84 : Nat → Int32 → Int32 → hp_S → Option (Int32 × hp_S)
  | 0, _, _, _ => none
  | n + 1, y1, y2, s =>
    if (hs_I s 0 12) ≤ y2 then
      l_M_X11_settle_0_283 n y1 (0 : Int32) s
    else
      pm_gd1 (pm_ib y2 101) (
      pm_let (fun (z275_1 : Int32) (z275_2 : Int32) (s : hp_S) =>
        pm_let (z275_2 + (1 : Int32)) (fun x6 =>
        l_M_X11_settle_0_84 n z275_1 x6 s)) (fun j275 =>
      if (hs_A s 6 y2.toNatClampNeg) = (1 : Int32) then
        pm_gd1 (pm_ib y2 101) (
        pm_let (hs_pA s 19 y2.toNatClampNeg (-1 : Int32)) (fun t7 =>
        l_M_X11_settle_0_114 j275 n y1 y2 (0 : Int32) t7))
      else
        j275 y1 y2 s))
set_option maxRecDepth 100000 in
set_option maxHeartbeats 400000 in
theorem wl_M_X11_settle_0_84 (d : Nat) (s1 : hp_S) (x0 : Int32)  : ∀ (n : Nat) (y1 : Int32) (y2 : Int32) (s : hp_S), l_M_X11_settle_0_84 n y1 y2 s = some (x0, s1) → hp_go sh_M me_X11_settle (d + 1) (some (.int x0)) s1 84 [(0, .ref 0), (1, .int y1), (2, .int y2)] [] s := by
  intro n
  induction n with
  | zero =>
    intro y1 y2 s h
    cases h
  | succ n ih =>
    intro y1 y2 s h
    rw [l_M_X11_settle_0_84.eq_2] at h
    refine hq_iload_n (pm_d rk_X11_settle 52 rfl) rfl 2 rfl ?_
    show hp_go _ _ _ _ _ 85 _ _ _
    refine hq_aload_n (pm_d rk_X11_settle 53 rfl) rfl 0 rfl ?_
    refine hq_getI 12 (pm_d rk_X11_settle 54 rfl) fl_X11_196 rfl rfl ?_
    refine hq_icmp_ge 281 (pm_d rk_X11_settle 55 rfl) (by decide) (fun hc => ?_) (fun hc => ?_)
    · rw [if_pos hc] at h
      refine hq_iconst (v := (0 : Int32)) (pm_d rk_X11_settle 165 rfl) (by decide) ?_
      refine hq_istore_n (L1 := [(2, .int (0 : Int32)), (0, .ref 0), (1, .int y1)]) (pm_d rk_X11_settle 166 rfl) rfl (by decide) rfl ?_
      refine hq_drop [1, 2, 0] rfl ?_
      exact wl_M_X11_settle_0_283 d _ _   _ _ _ _ h
    rw [if_neg hc] at h
    refine hq_aload_n (pm_d rk_X11_settle 56 rfl) rfl 0 rfl ?_
    refine hq_getR (h := 6) 13 (pm_d rk_X11_settle 57 rfl) fl_X11_30 rfl rfl ?_
    refine hq_iload_n (pm_d rk_X11_settle 58 rfl) rfl 2 rfl ?_
    show hp_go _ _ _ _ _ 97 _ _ _
    obtain ⟨hg, h⟩ := pm_gd_i h
    refine hq_iaload (pm_d rk_X11_settle 59 rfl) rfl hg ?_
    refine hq_iconst (v := (1 : Int32)) (pm_d rk_X11_settle 60 rfl) (by decide) ?_
    refine pm_jn (P := fun j275 => ∀ (z275_1 : Int32) (z275_2 : Int32) (s : hp_S), j275 z275_1 z275_2 s = some (x0, s1) → hp_go sh_M me_X11_settle (d + 1) (some (.int x0)) s1 275 [(0, .ref 0), (1, .int z275_1), (2, .int z275_2)] [] s) h ?_ (fun j275 hj275 h => ?_)
    · intro z275_1 z275_2 s h
      dsimp only at h
      refine hq_iinc (v := z275_2 + (1 : Int32)) (L1 := [(2, .int (z275_2 + (1 : Int32))), (0, .ref 0), (1, .int z275_1)]) (pm_d rk_X11_settle 163 rfl) 2 rfl (by rw [show Int32.ofInt (1) = (1 : Int32) by decide]) (by decide) rfl ?_
      refine pm_nm (G := fun x6 => hp_go sh_M me_X11_settle (d + 1) (some (.int x0)) s1 278 [(2, .int x6), (0, .ref 0), (1, .int z275_1)] [] s) h (fun x6 h => ?_)
      refine hq_goto 84 (pm_d rk_X11_settle 164 rfl) (by decide) ?_
      refine hq_drop [1, 2, 0] rfl ?_
      exact ih _ _ _ h
    refine hq_icmp_eq 105 (pm_d rk_X11_settle 61 rfl) (by decide) (fun hc => ?_) (fun hc => ?_)
    · rw [if_pos hc] at h
      refine hq_aload_n (pm_d rk_X11_settle 63 rfl) rfl 0 rfl ?_
      show hp_go _ _ _ _ _ 106 _ _ _
      refine hq_getR (h := 19) 27 (pm_d rk_X11_settle 64 rfl) fl_X11_69 rfl rfl ?_
      refine hq_iload_n (pm_d rk_X11_settle 65 rfl) rfl 2 rfl ?_
      refine hq_iconst (v := (-1 : Int32)) (pm_d rk_X11_settle 66 rfl) (by decide) ?_
      obtain ⟨hg, h⟩ := pm_gd_i h
      refine hq_iastore (pm_d rk_X11_settle 67 rfl) rfl hg ?_
      refine pm_nm (G := fun t7 => hp_go sh_M me_X11_settle (d + 1) (some (.int x0)) s1 112 [(0, .ref 0), (1, .int y1), (2, .int y2)] [] t7) h (fun t7 h => ?_)
      refine hq_iconst (v := (0 : Int32)) (pm_d rk_X11_settle 68 rfl) (by decide) ?_
      refine hq_istore_n (L1 := [(3, .int (0 : Int32)), (0, .ref 0), (1, .int y1), (2, .int y2)]) (pm_d rk_X11_settle 69 rfl) rfl (by decide) rfl ?_
      refine hq_drop [1, 2, 3, 0] rfl ?_
      exact wl_M_X11_settle_0_114 d _ _ _  hj275 _ _ _ _ _ h
    rw [if_neg hc] at h
    refine hq_goto 275 (pm_d rk_X11_settle 62 rfl) (by decide) ?_
    refine hq_drop [0, 1, 2] rfl ?_
    exact hj275 _ _ _ h
def l_M_X11_settle_0_19 (k2 : Int32 → hp_S → Option (Int32 × hp_S)) : Nat → Int32 → Int32 → hp_S → Option (Int32 × hp_S)
  | 0, _, _, _ => none
  | n + 1, y1, y2, s =>
    if (hs_I s 0 12) ≤ y2 then
      pm_gd1 (pm_ib y1 101) (
      pm_gd1 (pm_ib (hs_A s 16 y1.toNatClampNeg) 101) (
      pm_let (hs_pA s 17 (hs_A s 16 y1.toNatClampNeg).toNatClampNeg y1) (fun t13 =>
      pm_let (y1 + (1 : Int32)) (fun x14 =>
      k2 x14 t13))))
    else
      pm_gd1 (pm_ib y1 101) (
      pm_gd1 (pm_ib y2 101) (
      pm_gd1 (pm_ib y1 101) (
      pm_let (fun (z54_1 : Int32) (z54_2 : Int32) (z54_S0 : Int32) (z54_S1 : Int32) (z54_S2 : Int32) (s : hp_S) =>
        pm_gd1 (pm_ib z54_S2 101) (
        pm_let (hs_pA s 16 z54_S2.toNatClampNeg (z54_S1 + z54_S0)) (fun t15 =>
        pm_let (z54_2 + (1 : Int32)) (fun x16 =>
        l_M_X11_settle_0_19 k2 n z54_1 x16 t15)))) (fun j54 =>
      if (hs_A s 10 y1.toNatClampNeg) ≤ (hs_A s 10 y2.toNatClampNeg) then
        j54 y1 y2 (0 : Int32) (hs_A s 16 y1.toNatClampNeg) y1 s
      else
        j54 y1 y2 (1 : Int32) (hs_A s 16 y1.toNatClampNeg) y1 s))))
set_option maxRecDepth 100000 in
set_option maxHeartbeats 400000 in
theorem wl_M_X11_settle_0_19 (d : Nat) (k2 : Int32 → hp_S → Option (Int32 × hp_S)) (s1 : hp_S) (x0 : Int32) (hk2 : ∀ (y1 : Int32) (s : hp_S), k2 y1 s = some (x0, s1) → hp_go sh_M me_X11_settle (d + 1) (some (.int x0)) s1 2 [(0, .ref 0), (1, .int y1)] [] s) : ∀ (n : Nat) (y1 : Int32) (y2 : Int32) (s : hp_S), l_M_X11_settle_0_19 k2 n y1 y2 s = some (x0, s1) → hp_go sh_M me_X11_settle (d + 1) (some (.int x0)) s1 19 [(0, .ref 0), (1, .int y1), (2, .int y2)] [] s := by
  intro n
  induction n with
  | zero =>
    intro y1 y2 s h
    cases h
  | succ n ih =>
    intro y1 y2 s h
    rw [l_M_X11_settle_0_19.eq_2] at h
    refine hq_iload_n (pm_d rk_X11_settle 13 rfl) rfl 2 rfl ?_
    show hp_go _ _ _ _ _ 20 _ _ _
    refine hq_aload_n (pm_d rk_X11_settle 14 rfl) rfl 0 rfl ?_
    refine hq_getI 12 (pm_d rk_X11_settle 15 rfl) fl_X11_196 rfl rfl ?_
    refine hq_icmp_ge 62 (pm_d rk_X11_settle 16 rfl) (by decide) (fun hc => ?_) (fun hc => ?_)
    · rw [if_pos hc] at h
      refine hq_aload_n (pm_d rk_X11_settle 38 rfl) rfl 0 rfl ?_
      refine hq_getR (h := 17) 25 (pm_d rk_X11_settle 39 rfl) fl_X11_63 rfl rfl ?_
      refine hq_aload_n (pm_d rk_X11_settle 40 rfl) rfl 0 rfl ?_
      show hp_go _ _ _ _ _ 67 _ _ _
      refine hq_getR (h := 16) 24 (pm_d rk_X11_settle 41 rfl) fl_X11_60 rfl rfl ?_
      refine hq_iload_n (pm_d rk_X11_settle 42 rfl) rfl 1 rfl ?_
      obtain ⟨hg, h⟩ := pm_gd_i h
      refine hq_iaload (pm_d rk_X11_settle 43 rfl) rfl hg ?_
      refine hq_iload_n (pm_d rk_X11_settle 44 rfl) rfl 1 rfl ?_
      obtain ⟨hg, h⟩ := pm_gd_i h
      refine hq_iastore (pm_d rk_X11_settle 45 rfl) rfl hg ?_
      refine pm_nm (G := fun t13 => hp_go sh_M me_X11_settle (d + 1) (some (.int x0)) s1 74 [(0, .ref 0), (1, .int y1), (2, .int y2)] [] t13) h (fun t13 h => ?_)
      refine hq_iinc (v := y1 + (1 : Int32)) (L1 := [(1, .int (y1 + (1 : Int32))), (0, .ref 0), (2, .int y2)]) (pm_d rk_X11_settle 46 rfl) 1 rfl (by rw [show Int32.ofInt (1) = (1 : Int32) by decide]) (by decide) rfl ?_
      refine pm_nm (G := fun x14 => hp_go sh_M me_X11_settle (d + 1) (some (.int x0)) s1 77 [(1, .int x14), (0, .ref 0), (2, .int y2)] [] t13) h (fun x14 h => ?_)
      show hp_go _ _ _ _ _ 77 _ _ _
      refine hq_goto 2 (pm_d rk_X11_settle 47 rfl) (by decide) ?_
      refine hq_drop [1, 0] rfl ?_
      exact hk2 _ _ h
    rw [if_neg hc] at h
    refine hq_aload_n (pm_d rk_X11_settle 17 rfl) rfl 0 rfl ?_
    refine hq_getR (h := 16) 24 (pm_d rk_X11_settle 18 rfl) fl_X11_60 rfl rfl ?_
    refine hq_iload_n (pm_d rk_X11_settle 19 rfl) rfl 1 rfl ?_
    refine hq_dup2 (pm_d rk_X11_settle 20 rfl) rfl rfl ?_
    obtain ⟨hg, h⟩ := pm_gd_i h
    refine hq_iaload (pm_d rk_X11_settle 21 rfl) rfl hg ?_
    show hp_go _ _ _ _ _ 34 _ _ _
    refine hq_aload_n (pm_d rk_X11_settle 22 rfl) rfl 0 rfl ?_
    refine hq_getR (h := 10) 17 (pm_d rk_X11_settle 23 rfl) fl_X11_42 rfl rfl ?_
    refine hq_iload_n (pm_d rk_X11_settle 24 rfl) rfl 2 rfl ?_
    obtain ⟨hg, h⟩ := pm_gd_i h
    refine hq_iaload (pm_d rk_X11_settle 25 rfl) rfl hg ?_
    refine hq_aload_n (pm_d rk_X11_settle 26 rfl) rfl 0 rfl ?_
    refine hq_getR (h := 10) 17 (pm_d rk_X11_settle 27 rfl) fl_X11_42 rfl rfl ?_
    show hp_go _ _ _ _ _ 44 _ _ _
    refine hq_iload_n (pm_d rk_X11_settle 28 rfl) rfl 1 rfl ?_
    obtain ⟨hg, h⟩ := pm_gd_i h
    refine hq_iaload (pm_d rk_X11_settle 29 rfl) rfl hg ?_
    refine pm_jn (P := fun j54 => ∀ (z54_1 : Int32) (z54_2 : Int32) (z54_S0 : Int32) (z54_S1 : Int32) (z54_S2 : Int32) (s : hp_S), j54 z54_1 z54_2 z54_S0 z54_S1 z54_S2 s = some (x0, s1) → hp_go sh_M me_X11_settle (d + 1) (some (.int x0)) s1 54 [(0, .ref 0), (1, .int z54_1), (2, .int z54_2)] [.int z54_S0, .int z54_S1, .int z54_S2, .ref 16] s) h ?_ (fun j54 hj54 h => ?_)
    · intro z54_1 z54_2 z54_S0 z54_S1 z54_S2 s h
      dsimp only at h
      refine hq_iadd (pm_d rk_X11_settle 34 rfl) ?_
      obtain ⟨hg, h⟩ := pm_gd_i h
      refine hq_iastore (pm_d rk_X11_settle 35 rfl) rfl hg ?_
      refine pm_nm (G := fun t15 => hp_go sh_M me_X11_settle (d + 1) (some (.int x0)) s1 56 [(0, .ref 0), (1, .int z54_1), (2, .int z54_2)] [] t15) h (fun t15 h => ?_)
      refine hq_iinc (v := z54_2 + (1 : Int32)) (L1 := [(2, .int (z54_2 + (1 : Int32))), (0, .ref 0), (1, .int z54_1)]) (pm_d rk_X11_settle 36 rfl) 2 rfl (by rw [show Int32.ofInt (1) = (1 : Int32) by decide]) (by decide) rfl ?_
      refine pm_nm (G := fun x16 => hp_go sh_M me_X11_settle (d + 1) (some (.int x0)) s1 59 [(2, .int x16), (0, .ref 0), (1, .int z54_1)] [] t15) h (fun x16 h => ?_)
      refine hq_goto 19 (pm_d rk_X11_settle 37 rfl) (by decide) ?_
      refine hq_drop [1, 2, 0] rfl ?_
      exact ih _ _ _ h
    show hp_go _ _ _ _ _ 46 _ _ _
    refine hq_icmp_ge 53 (pm_d rk_X11_settle 30 rfl) (by decide) (fun hc => ?_) (fun hc => ?_)
    · rw [if_pos hc] at h
      refine hq_iconst (v := (0 : Int32)) (pm_d rk_X11_settle 33 rfl) (by decide) ?_
      refine hq_drop [0, 1, 2] rfl ?_
      exact hj54 _ _ _ _ _ _ h
    rw [if_neg hc] at h
    refine hq_iconst (v := (1 : Int32)) (pm_d rk_X11_settle 31 rfl) (by decide) ?_
    refine hq_goto 54 (pm_d rk_X11_settle 32 rfl) (by decide) ?_
    refine hq_drop [0, 1, 2] rfl ?_
    exact hj54 _ _ _ _ _ _ h
def l_M_X11_settle_0_2 : Nat → Int32 → hp_S → Option (Int32 × hp_S)
  | 0, _, _ => none
  | n + 1, y1, s =>
    if (hs_I s 0 12) ≤ y1 then
      l_M_X11_settle_0_84 n (-1 : Int32) (0 : Int32) s
    else
      pm_gd1 (pm_ib y1 101) (
      pm_let (hs_pA s 16 y1.toNatClampNeg (0 : Int32)) (fun t12 =>
      l_M_X11_settle_0_19 (l_M_X11_settle_0_2 n) n y1 (0 : Int32) t12))
set_option maxRecDepth 100000 in
set_option maxHeartbeats 400000 in
theorem wl_M_X11_settle_0_2 (d : Nat) (s1 : hp_S) (x0 : Int32)  : ∀ (n : Nat) (y1 : Int32) (s : hp_S), l_M_X11_settle_0_2 n y1 s = some (x0, s1) → hp_go sh_M me_X11_settle (d + 1) (some (.int x0)) s1 2 [(0, .ref 0), (1, .int y1)] [] s := by
  intro n
  induction n with
  | zero =>
    intro y1 s h
    cases h
  | succ n ih =>
    intro y1 s h
    rw [l_M_X11_settle_0_2.eq_2] at h
    refine hq_iload_n (pm_d rk_X11_settle 2 rfl) rfl 1 rfl ?_
    refine hq_aload_n (pm_d rk_X11_settle 3 rfl) rfl 0 rfl ?_
    refine hq_getI 12 (pm_d rk_X11_settle 4 rfl) fl_X11_196 rfl rfl ?_
    show hp_go _ _ _ _ _ 7 _ _ _
    refine hq_icmp_ge 80 (pm_d rk_X11_settle 5 rfl) (by decide) (fun hc => ?_) (fun hc => ?_)
    · rw [if_pos hc] at h
      refine hq_iconst (v := (-1 : Int32)) (pm_d rk_X11_settle 48 rfl) (by decide) ?_
      refine hq_istore_n (L1 := [(1, .int (-1 : Int32)), (0, .ref 0)]) (pm_d rk_X11_settle 49 rfl) rfl (by decide) rfl ?_
      refine hq_iconst (v := (0 : Int32)) (pm_d rk_X11_settle 50 rfl) (by decide) ?_
      refine hq_istore_n (L1 := [(2, .int (0 : Int32)), (1, .int (-1 : Int32)), (0, .ref 0)]) (pm_d rk_X11_settle 51 rfl) rfl (by decide) rfl ?_
      refine hq_drop [2, 1, 0] rfl ?_
      exact wl_M_X11_settle_0_84 d _ _   _ _ _ _ h
    rw [if_neg hc] at h
    refine hq_aload_n (pm_d rk_X11_settle 6 rfl) rfl 0 rfl ?_
    refine hq_getR (h := 16) 24 (pm_d rk_X11_settle 7 rfl) fl_X11_60 rfl rfl ?_
    show hp_go _ _ _ _ _ 14 _ _ _
    refine hq_iload_n (pm_d rk_X11_settle 8 rfl) rfl 1 rfl ?_
    refine hq_iconst (v := (0 : Int32)) (pm_d rk_X11_settle 9 rfl) (by decide) ?_
    obtain ⟨hg, h⟩ := pm_gd_i h
    refine hq_iastore (pm_d rk_X11_settle 10 rfl) rfl hg ?_
    refine pm_nm (G := fun t12 => hp_go sh_M me_X11_settle (d + 1) (some (.int x0)) s1 17 [(0, .ref 0), (1, .int y1)] [] t12) h (fun t12 h => ?_)
    refine hq_iconst (v := (0 : Int32)) (pm_d rk_X11_settle 11 rfl) (by decide) ?_
    refine hq_istore_n (L1 := [(2, .int (0 : Int32)), (0, .ref 0), (1, .int y1)]) (pm_d rk_X11_settle 12 rfl) rfl (by decide) rfl ?_
    refine hq_drop [1, 2, 0] rfl ?_
    exact wl_M_X11_settle_0_19 d _ _ _  ih _ _ _ _ h
def f_M_X11_settle_0 (n : Nat) (s : hp_S) : Option (Int32 × hp_S) :=
  l_M_X11_settle_0_2 n (0 : Int32) s
set_option maxRecDepth 100000 in
set_option maxHeartbeats 400000 in
theorem w_M_X11_settle_0 (d : Nat) (n : Nat) (s s1 : hp_S) (x0 : Int32) (h : f_M_X11_settle_0 n s = some (x0, s1)) : hp_is sh_M me_X11_settle (d + 1) [.ref 0] s (some (.int x0)) s1 := by
  refine hp_ofF [(0, .ref 0)] (by decide +kernel) (Nat.le_of_ble_eq_true rfl) rfl ?_
  unfold f_M_X11_settle_0 at h
  refine hq_iconst (v := (0 : Int32)) (pm_d rk_X11_settle 0 rfl) (by decide) ?_
  refine hq_istore_n (L1 := [(1, .int (0 : Int32)), (0, .ref 0)]) (pm_d rk_X11_settle 1 rfl) rfl (by decide) rfl ?_
  refine hq_drop [1, 0] rfl ?_
  exact wl_M_X11_settle_0_2 d _ _   _ _ _ h
def l_M_X11_below_0_4 : Nat → Int32 → Int32 → Int32 → hp_S → Option (Int32 × hp_S)
  | 0, _, _, _, _ => none
  | n + 1, y1, y2, y3, s =>
    if (hs_I s 0 12) ≤ y3 then
      some (y2, s)
    else
      pm_gd1 (pm_ib y3 101) (
      pm_let (fun (z28_1 : Int32) (z28_3 : Int32) (z28_S0 : Int32) (z28_S1 : Int32) (s : hp_S) =>
        pm_let (z28_S1 + z28_S0) (fun x1 =>
        pm_let (z28_3 + (1 : Int32)) (fun x2 =>
        l_M_X11_below_0_4 n z28_1 x1 x2 s))) (fun j28 =>
      if y1 ≤ (hs_A s 10 y3.toNatClampNeg) then
        j28 y1 y3 (0 : Int32) y2 s
      else
        j28 y1 y3 (1 : Int32) y2 s))
set_option maxRecDepth 100000 in
set_option maxHeartbeats 400000 in
theorem wl_M_X11_below_0_4 (d : Nat) (s1 : hp_S) (x0 : Int32)  : ∀ (n : Nat) (y1 : Int32) (y2 : Int32) (y3 : Int32) (s : hp_S), l_M_X11_below_0_4 n y1 y2 y3 s = some (x0, s1) → hp_go sh_M me_X11_below (d + 0) (some (.int x0)) s1 4 [(0, .ref 0), (1, .int y1), (2, .int y2), (3, .int y3)] [] s := by
  intro n
  induction n with
  | zero =>
    intro y1 y2 y3 s h
    cases h
  | succ n ih =>
    intro y1 y2 y3 s h
    rw [l_M_X11_below_0_4.eq_2] at h
    refine hq_iload_n (pm_d rk_X11_below 4 rfl) rfl 3 rfl ?_
    show hp_go _ _ _ _ _ 5 _ _ _
    refine hq_aload_n (pm_d rk_X11_below 5 rfl) rfl 0 rfl ?_
    refine hq_getI 12 (pm_d rk_X11_below 6 rfl) fl_X11_196 rfl rfl ?_
    refine hq_icmp_ge 36 (pm_d rk_X11_below 7 rfl) (by decide) (fun hc => ?_) (fun hc => ?_)
    · rw [if_pos hc] at h
      refine hq_iload_n (pm_d rk_X11_below 22 rfl) rfl 2 rfl ?_
      exact hq_iret (pm_d rk_X11_below 23 rfl) rfl h
    rw [if_neg hc] at h
    refine hq_iload_n (pm_d rk_X11_below 8 rfl) rfl 2 rfl ?_
    show hp_go _ _ _ _ _ 13 _ _ _
    refine hq_aload_n (pm_d rk_X11_below 9 rfl) rfl 0 rfl ?_
    refine hq_getR (h := 10) 17 (pm_d rk_X11_below 10 rfl) fl_X11_42 rfl rfl ?_
    refine hq_iload_n (pm_d rk_X11_below 11 rfl) rfl 3 rfl ?_
    obtain ⟨hg, h⟩ := pm_gd_i h
    refine hq_iaload (pm_d rk_X11_below 12 rfl) rfl hg ?_
    refine hq_iload_n (pm_d rk_X11_below 13 rfl) rfl 1 rfl ?_
    refine pm_jn (P := fun j28 => ∀ (z28_1 : Int32) (z28_3 : Int32) (z28_S0 : Int32) (z28_S1 : Int32) (s : hp_S), j28 z28_1 z28_3 z28_S0 z28_S1 s = some (x0, s1) → hp_go sh_M me_X11_below (d + 0) (some (.int x0)) s1 28 [(0, .ref 0), (1, .int z28_1), (3, .int z28_3)] [.int z28_S0, .int z28_S1] s) h ?_ (fun j28 hj28 h => ?_)
    · intro z28_1 z28_3 z28_S0 z28_S1 s h
      dsimp only at h
      refine hq_iadd (pm_d rk_X11_below 18 rfl) ?_
      show hp_go _ _ _ _ _ 29 _ _ _
      refine pm_nm (G := fun x1 => hp_go sh_M me_X11_below (d + 0) (some (.int x0)) s1 29 [(0, .ref 0), (1, .int z28_1), (3, .int z28_3)] [.int x1] s) h (fun x1 h => ?_)
      refine hq_istore_n (L1 := [(2, .int x1), (0, .ref 0), (1, .int z28_1), (3, .int z28_3)]) (pm_d rk_X11_below 19 rfl) rfl (by decide) rfl ?_
      refine hq_iinc (v := z28_3 + (1 : Int32)) (L1 := [(3, .int (z28_3 + (1 : Int32))), (2, .int x1), (0, .ref 0), (1, .int z28_1)]) (pm_d rk_X11_below 20 rfl) 3 rfl (by rw [show Int32.ofInt (1) = (1 : Int32) by decide]) (by decide) rfl ?_
      refine pm_nm (G := fun x2 => hp_go sh_M me_X11_below (d + 0) (some (.int x0)) s1 33 [(3, .int x2), (2, .int x1), (0, .ref 0), (1, .int z28_1)] [] s) h (fun x2 h => ?_)
      refine hq_goto 4 (pm_d rk_X11_below 21 rfl) (by decide) ?_
      refine hq_drop [2, 3, 1, 0] rfl ?_
      exact ih _ _ _ _ h
    refine hq_icmp_ge 27 (pm_d rk_X11_below 14 rfl) (by decide) (fun hc => ?_) (fun hc => ?_)
    · rw [if_pos hc] at h
      refine hq_iconst (v := (0 : Int32)) (pm_d rk_X11_below 17 rfl) (by decide) ?_
      refine hq_drop [0, 1, 3] rfl ?_
      exact hj28 _ _ _ _ _ h
    rw [if_neg hc] at h
    refine hq_iconst (v := (1 : Int32)) (pm_d rk_X11_below 15 rfl) (by decide) ?_
    show hp_go _ _ _ _ _ 24 _ _ _
    refine hq_goto 28 (pm_d rk_X11_below 16 rfl) (by decide) ?_
    refine hq_drop [0, 1, 3] rfl ?_
    exact hj28 _ _ _ _ _ h
def f_M_X11_below_0 (n : Nat) (a1 : Int32) (s : hp_S) : Option (Int32 × hp_S) :=
  l_M_X11_below_0_4 n a1 (0 : Int32) (0 : Int32) s
set_option maxRecDepth 100000 in
set_option maxHeartbeats 400000 in
theorem w_M_X11_below_0 (d : Nat) (n : Nat) (a1 : Int32) (s s1 : hp_S) (x0 : Int32) (h : f_M_X11_below_0 n a1 s = some (x0, s1)) : hp_is sh_M me_X11_below (d + 0) [.ref 0, .int a1] s (some (.int x0)) s1 := by
  refine hp_ofF [(0, .ref 0), (1, .int a1)] (by decide +kernel) (Nat.le_of_ble_eq_true rfl) rfl ?_
  unfold f_M_X11_below_0 at h
  refine hq_iconst (v := (0 : Int32)) (pm_d rk_X11_below 0 rfl) (by decide) ?_
  refine hq_istore_n (L1 := [(2, .int (0 : Int32)), (0, .ref 0), (1, .int a1)]) (pm_d rk_X11_below 1 rfl) rfl (by decide) rfl ?_
  refine hq_iconst (v := (0 : Int32)) (pm_d rk_X11_below 2 rfl) (by decide) ?_
  refine hq_istore_n (L1 := [(3, .int (0 : Int32)), (2, .int (0 : Int32)), (0, .ref 0), (1, .int a1)]) (pm_d rk_X11_below 3 rfl) rfl (by decide) rfl ?_
  refine hq_drop [2, 3, 1, 0] rfl ?_
  exact wl_M_X11_below_0_4 d _ _   _ _ _ _ _ h
def f_M_X11_low_0 (n : Nat) (a1 : Int32) (s : hp_S) : Option (Int32 × hp_S) :=
  if a1 = 0 then
    some ((0 : Int32), s)
  else
    pm_gd1 (pm_ib a1 2001) (
    pm_gd1 (pm_ib (hs_A s 20 a1.toNatClampNeg) 101) (
    pm_bd (f_M_X11_below_0 n (hs_A s 14 (hs_A s 20 a1.toNatClampNeg).toNatClampNeg) s) (fun x2 t1 =>
    some (x2, t1))))
set_option maxRecDepth 100000 in
set_option maxHeartbeats 400000 in
theorem w_M_X11_low_0 (d : Nat) (n : Nat) (a1 : Int32) (s s1 : hp_S) (x0 : Int32) (h : f_M_X11_low_0 n a1 s = some (x0, s1)) : hp_is sh_M me_X11_low (d + 1) [.ref 0, .int a1] s (some (.int x0)) s1 := by
  refine hp_ofF [(0, .ref 0), (1, .int a1)] (by decide +kernel) (Nat.le_of_ble_eq_true rfl) rfl ?_
  unfold f_M_X11_low_0 at h
  refine hq_iload_n (pm_d rk_X11_low 0 rfl) rfl 1 rfl ?_
  refine hq_if_ne 8 (pm_d rk_X11_low 1 rfl) (by decide) (fun hc => ?_) (fun hc => ?_)
  · rw [if_neg hc] at h
    refine hq_aload_n (pm_d rk_X11_low 4 rfl) rfl 0 rfl ?_
    refine hq_aload_n (pm_d rk_X11_low 5 rfl) rfl 0 rfl ?_
    refine hq_getR (h := 14) 21 (pm_d rk_X11_low 6 rfl) fl_X11_54 rfl rfl ?_
    show hp_go _ _ _ _ _ 13 _ _ _
    refine hq_aload_n (pm_d rk_X11_low 7 rfl) rfl 0 rfl ?_
    refine hq_getR (h := 20) 29 (pm_d rk_X11_low 8 rfl) fl_X11_72 rfl rfl ?_
    refine hq_iload_n (pm_d rk_X11_low 9 rfl) rfl 1 rfl ?_
    obtain ⟨hg, h⟩ := pm_gd_i h
    refine hq_iaload (pm_d rk_X11_low 10 rfl) rfl hg ?_
    obtain ⟨hg, h⟩ := pm_gd_i h
    refine hq_iaload (pm_d rk_X11_low 11 rfl) rfl hg ?_
    obtain ⟨x2, t1, hq, h⟩ := pm_bd_i h
    have hM := w_M_X11_below_0 (d := d + 0) (h := hq)
    refine hq_callVi (a := 0) (ci := 11) [.int (hs_A s 14 (hs_A s 20 a1.toNatClampNeg).toNatClampNeg)] [] (pm_d rk_X11_low 12 rfl) ml_X11_241 iv_X11_below rfl rfl rfl rfl rfl (Nat.le_of_ble_eq_true rfl) hM ?_
    show hp_go _ _ _ _ _ 23 _ _ _
    exact hq_iret (pm_d rk_X11_low 13 rfl) rfl h
  rw [if_pos hc] at h
  refine hq_iconst (v := (0 : Int32)) (pm_d rk_X11_low 2 rfl) (by decide) ?_
  refine hq_goto 23 (pm_d rk_X11_low 3 rfl) (by decide) ?_
  exact hq_iret (pm_d rk_X11_low 13 rfl) rfl h
def f_M_X11_high_0 (n : Nat) (a1 : Int32) (s : hp_S) : Option (Int32 × hp_S) :=
  if a1 = 0 then
    some ((hs_I s 0 12), s)
  else
    pm_gd1 (pm_ib a1 2001) (
    pm_gd1 (pm_ib (hs_A s 20 a1.toNatClampNeg) 101) (
    pm_bd (f_M_X11_below_0 n (hs_A s 15 (hs_A s 20 a1.toNatClampNeg).toNatClampNeg) s) (fun x2 t1 =>
    some (x2, t1))))
set_option maxRecDepth 100000 in
set_option maxHeartbeats 400000 in
theorem w_M_X11_high_0 (d : Nat) (n : Nat) (a1 : Int32) (s s1 : hp_S) (x0 : Int32) (h : f_M_X11_high_0 n a1 s = some (x0, s1)) : hp_is sh_M me_X11_high (d + 1) [.ref 0, .int a1] s (some (.int x0)) s1 := by
  refine hp_ofF [(0, .ref 0), (1, .int a1)] (by decide +kernel) (Nat.le_of_ble_eq_true rfl) rfl ?_
  unfold f_M_X11_high_0 at h
  refine hq_iload_n (pm_d rk_X11_high 0 rfl) rfl 1 rfl ?_
  refine hq_if_ne 11 (pm_d rk_X11_high 1 rfl) (by decide) (fun hc => ?_) (fun hc => ?_)
  · rw [if_neg hc] at h
    refine hq_aload_n (pm_d rk_X11_high 5 rfl) rfl 0 rfl ?_
    refine hq_aload_n (pm_d rk_X11_high 6 rfl) rfl 0 rfl ?_
    refine hq_getR (h := 15) 22 (pm_d rk_X11_high 7 rfl) fl_X11_57 rfl rfl ?_
    show hp_go _ _ _ _ _ 16 _ _ _
    refine hq_aload_n (pm_d rk_X11_high 8 rfl) rfl 0 rfl ?_
    refine hq_getR (h := 20) 29 (pm_d rk_X11_high 9 rfl) fl_X11_72 rfl rfl ?_
    refine hq_iload_n (pm_d rk_X11_high 10 rfl) rfl 1 rfl ?_
    obtain ⟨hg, h⟩ := pm_gd_i h
    refine hq_iaload (pm_d rk_X11_high 11 rfl) rfl hg ?_
    obtain ⟨hg, h⟩ := pm_gd_i h
    refine hq_iaload (pm_d rk_X11_high 12 rfl) rfl hg ?_
    obtain ⟨x2, t1, hq, h⟩ := pm_bd_i h
    have hM := w_M_X11_below_0 (d := d + 0) (h := hq)
    refine hq_callVi (a := 0) (ci := 11) [.int (hs_A s 15 (hs_A s 20 a1.toNatClampNeg).toNatClampNeg)] [] (pm_d rk_X11_high 13 rfl) ml_X11_241 iv_X11_below rfl rfl rfl rfl rfl (Nat.le_of_ble_eq_true rfl) hM ?_
    show hp_go _ _ _ _ _ 26 _ _ _
    exact hq_iret (pm_d rk_X11_high 14 rfl) rfl h
  rw [if_pos hc] at h
  refine hq_aload_n (pm_d rk_X11_high 2 rfl) rfl 0 rfl ?_
  refine hq_getI 12 (pm_d rk_X11_high 3 rfl) fl_X11_196 rfl rfl ?_
  refine hq_goto 26 (pm_d rk_X11_high 4 rfl) (by decide) ?_
  exact hq_iret (pm_d rk_X11_high 14 rfl) rfl h
def f_M_X11_open_0 (n : Nat) (a1 : Int32) (s : hp_S) : Option hp_S :=
  pm_bd (f_M_X11_low_0 n a1 s) (fun x2 t1 =>
  pm_bd (f_M_X11_high_0 n a1 t1) (fun x4 t3 =>
  pm_gd1 (pm_ib a1 2001) (
  pm_let (hs_pA t3 22 a1.toNatClampNeg (hs_I t3 0 32)) (fun t5 =>
  pm_gd1 (pm_ib x4 102) (
  pm_gd1 (pm_ib x2 102) (
  pm_let (hs_pI t5 0 32 ((hs_I t5 0 32) + (((x4 - x2) + (hs_A t5 18 x4.toNatClampNeg)) - (hs_A t5 18 x2.toNatClampNeg)))) (fun t6 =>
  some t6)))))))
set_option maxRecDepth 100000 in
set_option maxHeartbeats 400000 in
theorem w_M_X11_open_0 (d : Nat) (n : Nat) (a1 : Int32) (s s1 : hp_S) (h : f_M_X11_open_0 n a1 s = some s1) : hp_is sh_M me_X11_open (d + 2) [.ref 0, .int a1] s none s1 := by
  refine hp_ofF [(0, .ref 0), (1, .int a1)] (by decide +kernel) (Nat.le_of_ble_eq_true rfl) rfl ?_
  unfold f_M_X11_open_0 at h
  refine hq_aload_n (pm_d rk_X11_open 0 rfl) rfl 0 rfl ?_
  refine hq_iload_n (pm_d rk_X11_open 1 rfl) rfl 1 rfl ?_
  obtain ⟨x2, t1, hq, h⟩ := pm_bd_i h
  have hM := w_M_X11_low_0 (d := d + 0) (h := hq)
  refine hq_callVi (a := 0) (ci := 11) [.int a1] [] (pm_d rk_X11_open 2 rfl) ml_X11_247 iv_X11_low rfl rfl rfl rfl rfl (Nat.le_of_ble_eq_true rfl) hM ?_
  refine hq_istore_n (L1 := [(2, .int x2), (0, .ref 0), (1, .int a1)]) (pm_d rk_X11_open 3 rfl) rfl (by decide) rfl ?_
  refine hq_aload_n (pm_d rk_X11_open 4 rfl) rfl 1 rfl ?_
  show hp_go _ _ _ _ _ 7 _ _ _
  refine hq_iload_n (pm_d rk_X11_open 5 rfl) rfl 2 rfl ?_
  obtain ⟨x4, t3, hq, h⟩ := pm_bd_i h
  have hM := w_M_X11_high_0 (d := d + 0) (h := hq)
  refine hq_callVi (a := 0) (ci := 11) [.int a1] [] (pm_d rk_X11_open 6 rfl) ml_X11_250 iv_X11_high rfl rfl rfl rfl rfl (Nat.le_of_ble_eq_true rfl) hM ?_
  refine hq_istore_n (L1 := [(3, .int x4), (2, .int x2), (0, .ref 0), (1, .int a1)]) (pm_d rk_X11_open 7 rfl) rfl (by decide) rfl ?_
  refine hq_aload_n (pm_d rk_X11_open 8 rfl) rfl 2 rfl ?_
  refine hq_getR (h := 22) 31 (pm_d rk_X11_open 9 rfl) fl_X11_78 rfl rfl ?_
  refine hq_iload_n (pm_d rk_X11_open 10 rfl) rfl 3 rfl ?_
  show hp_go _ _ _ _ _ 17 _ _ _
  refine hq_aload_n (pm_d rk_X11_open 11 rfl) rfl 2 rfl ?_
  refine hq_getI 32 (pm_d rk_X11_open 12 rfl) fl_X11_253 rfl rfl ?_
  obtain ⟨hg, h⟩ := pm_gd_i h
  refine hq_iastore (pm_d rk_X11_open 13 rfl) rfl hg ?_
  refine pm_nm (G := fun t5 => hp_go sh_M me_X11_open (d + 2) none s1 22 [(3, .int x4), (2, .int x2), (0, .ref 0), (1, .int a1)] [] t5) h (fun t5 h => ?_)
  refine hq_aload_n (pm_d rk_X11_open 14 rfl) rfl 2 rfl ?_
  refine hq_dup (pm_d rk_X11_open 15 rfl) rfl ?_
  refine hq_getI 32 (pm_d rk_X11_open 16 rfl) fl_X11_253 rfl rfl ?_
  show hp_go _ _ _ _ _ 27 _ _ _
  refine hq_iload_n (pm_d rk_X11_open 17 rfl) rfl 0 rfl ?_
  refine hq_iload_n (pm_d rk_X11_open 18 rfl) rfl 1 rfl ?_
  refine hq_isub (pm_d rk_X11_open 19 rfl) ?_
  refine hq_aload_n (pm_d rk_X11_open 20 rfl) rfl 2 rfl ?_
  refine hq_getR (h := 18) 26 (pm_d rk_X11_open 21 rfl) fl_X11_66 rfl rfl ?_
  refine hq_iload_n (pm_d rk_X11_open 22 rfl) rfl 0 rfl ?_
  show hp_go _ _ _ _ _ 35 _ _ _
  obtain ⟨hg, h⟩ := pm_gd_i h
  refine hq_iaload (pm_d rk_X11_open 23 rfl) rfl hg ?_
  refine hq_iadd (pm_d rk_X11_open 24 rfl) ?_
  refine hq_aload_n (pm_d rk_X11_open 25 rfl) rfl 2 rfl ?_
  refine hq_getR (h := 18) 26 (pm_d rk_X11_open 26 rfl) fl_X11_66 rfl rfl ?_
  refine hq_iload_n (pm_d rk_X11_open 27 rfl) rfl 1 rfl ?_
  obtain ⟨hg, h⟩ := pm_gd_i h
  refine hq_iaload (pm_d rk_X11_open 28 rfl) rfl hg ?_
  show hp_go _ _ _ _ _ 43 _ _ _
  refine hq_isub (pm_d rk_X11_open 29 rfl) ?_
  refine hq_iadd (pm_d rk_X11_open 30 rfl) ?_
  refine hq_putI 32 (pm_d rk_X11_open 31 rfl) fl_X11_253 rfl rfl ?_
  refine pm_nm (G := fun t6 => hp_go sh_M me_X11_open (d + 2) none s1 48 [(3, .int x4), (2, .int x2), (0, .ref 0), (1, .int a1)] [] t6) h (fun t6 h => ?_)
  exact hq_vret (pm_d rk_X11_open 32 rfl) rfl h
def f_M_X11_holds_0 (a1 : Int32) (a2 : Int32) (s : hp_S) : Option (Int32 × hp_S) :=
  if a1 = 0 then
    some ((1 : Int32), s)
  else
    pm_gd1 (pm_ib a2 101) (
    pm_gd1 (pm_ib a1 2001) (
    pm_gd1 (pm_ib (hs_A s 20 a1.toNatClampNeg) 101) (
    if (hs_A s 10 a2.toNatClampNeg) < (hs_A s 14 (hs_A s 20 a1.toNatClampNeg).toNatClampNeg) then
      some ((0 : Int32), s)
    else
      pm_gd1 (pm_ib a2 101) (
      pm_gd1 (pm_ib a1 2001) (
      pm_gd1 (pm_ib (hs_A s 20 a1.toNatClampNeg) 101) (
      if (hs_A s 15 (hs_A s 20 a1.toNatClampNeg).toNatClampNeg) ≤ (hs_A s 10 a2.toNatClampNeg) then
        some ((0 : Int32), s)
      else
        some ((1 : Int32), s)))))))
set_option maxRecDepth 100000 in
set_option maxHeartbeats 400000 in
theorem w_M_X11_holds_0 (d : Nat) (a1 : Int32) (a2 : Int32) (s s1 : hp_S) (x0 : Int32) (h : f_M_X11_holds_0 a1 a2 s = some (x0, s1)) : hp_is sh_M me_X11_holds (d + 0) [.ref 0, .int a1, .int a2] s (some (.int x0)) s1 := by
  refine hp_ofF [(0, .ref 0), (1, .int a1), (2, .int a2)] (by decide +kernel) (Nat.le_of_ble_eq_true rfl) rfl ?_
  unfold f_M_X11_holds_0 at h
  refine hq_iload_n (pm_d rk_X11_holds 0 rfl) rfl 1 rfl ?_
  refine hq_if_eq 44 (pm_d rk_X11_holds 1 rfl) (by decide) (fun hc => ?_) (fun hc => ?_)
  · rw [if_pos hc] at h
    refine hq_iconst (v := (1 : Int32)) (pm_d rk_X11_holds 26 rfl) (by decide) ?_
    refine hq_goto 49 (pm_d rk_X11_holds 27 rfl) (by decide) ?_
    exact hq_zret (pm_d rk_X11_holds 29 rfl) rfl rfl h
  rw [if_neg hc] at h
  show hp_go _ _ _ _ _ 4 _ _ _
  refine hq_aload_n (pm_d rk_X11_holds 2 rfl) rfl 0 rfl ?_
  refine hq_getR (h := 10) 17 (pm_d rk_X11_holds 3 rfl) fl_X11_42 rfl rfl ?_
  refine hq_iload_n (pm_d rk_X11_holds 4 rfl) rfl 2 rfl ?_
  obtain ⟨hg, h⟩ := pm_gd_i h
  refine hq_iaload (pm_d rk_X11_holds 5 rfl) rfl hg ?_
  refine hq_aload_n (pm_d rk_X11_holds 6 rfl) rfl 0 rfl ?_
  refine hq_getR (h := 14) 21 (pm_d rk_X11_holds 7 rfl) fl_X11_54 rfl rfl ?_
  show hp_go _ _ _ _ _ 14 _ _ _
  refine hq_aload_n (pm_d rk_X11_holds 8 rfl) rfl 0 rfl ?_
  refine hq_getR (h := 20) 29 (pm_d rk_X11_holds 9 rfl) fl_X11_72 rfl rfl ?_
  refine hq_iload_n (pm_d rk_X11_holds 10 rfl) rfl 1 rfl ?_
  obtain ⟨hg, h⟩ := pm_gd_i h
  refine hq_iaload (pm_d rk_X11_holds 11 rfl) rfl hg ?_
  obtain ⟨hg, h⟩ := pm_gd_i h
  refine hq_iaload (pm_d rk_X11_holds 12 rfl) rfl hg ?_
  refine hq_icmp_lt 48 (pm_d rk_X11_holds 13 rfl) (by decide) (fun hc => ?_) (fun hc => ?_)
  · rw [if_pos hc] at h
    show hp_go _ _ _ _ _ 48 _ _ _
    refine hq_iconst (v := (0 : Int32)) (pm_d rk_X11_holds 28 rfl) (by decide) ?_
    exact hq_zret (pm_d rk_X11_holds 29 rfl) rfl rfl h
  rw [if_neg hc] at h
  refine hq_aload_n (pm_d rk_X11_holds 14 rfl) rfl 0 rfl ?_
  refine hq_getR (h := 10) 17 (pm_d rk_X11_holds 15 rfl) fl_X11_42 rfl rfl ?_
  refine hq_iload_n (pm_d rk_X11_holds 16 rfl) rfl 2 rfl ?_
  obtain ⟨hg, h⟩ := pm_gd_i h
  refine hq_iaload (pm_d rk_X11_holds 17 rfl) rfl hg ?_
  show hp_go _ _ _ _ _ 30 _ _ _
  refine hq_aload_n (pm_d rk_X11_holds 18 rfl) rfl 0 rfl ?_
  refine hq_getR (h := 15) 22 (pm_d rk_X11_holds 19 rfl) fl_X11_57 rfl rfl ?_
  refine hq_aload_n (pm_d rk_X11_holds 20 rfl) rfl 0 rfl ?_
  refine hq_getR (h := 20) 29 (pm_d rk_X11_holds 21 rfl) fl_X11_72 rfl rfl ?_
  refine hq_iload_n (pm_d rk_X11_holds 22 rfl) rfl 1 rfl ?_
  obtain ⟨hg, h⟩ := pm_gd_i h
  refine hq_iaload (pm_d rk_X11_holds 23 rfl) rfl hg ?_
  show hp_go _ _ _ _ _ 40 _ _ _
  obtain ⟨hg, h⟩ := pm_gd_i h
  refine hq_iaload (pm_d rk_X11_holds 24 rfl) rfl hg ?_
  refine hq_icmp_ge 48 (pm_d rk_X11_holds 25 rfl) (by decide) (fun hc => ?_) (fun hc => ?_)
  · rw [if_pos hc] at h
    refine hq_iconst (v := (0 : Int32)) (pm_d rk_X11_holds 28 rfl) (by decide) ?_
    exact hq_zret (pm_d rk_X11_holds 29 rfl) rfl rfl h
  rw [if_neg hc] at h
  refine hq_iconst (v := (1 : Int32)) (pm_d rk_X11_holds 26 rfl) (by decide) ?_
  refine hq_goto 49 (pm_d rk_X11_holds 27 rfl) (by decide) ?_
  show hp_go _ _ _ _ _ 49 _ _ _
  exact hq_zret (pm_d rk_X11_holds 29 rfl) rfl rfl h
def l_M_X11_copyWith_0_2 : Nat → Int32 → Int32 → hp_S → Option (Int32 × hp_S)
  | 0, _, _, _ => none
  | n + 1, y2, y3, s =>
    pm_bd (f_M_X11_holds_0 y3 y2 s) (fun x2 t1 =>
    if x2 = 0 then
      pm_gd1 (pm_ib y3 2001) (
      pm_let (hs_A t1 21 y3.toNatClampNeg) (fun x3 =>
      l_M_X11_copyWith_0_2 n y2 x3 t1))
    else
      some (y3, t1))
set_option maxRecDepth 100000 in
set_option maxHeartbeats 400000 in
theorem wl_M_X11_copyWith_0_2 (d : Nat) (s1 : hp_S) (x0 : Int32)  : ∀ (n : Nat) (y2 : Int32) (y3 : Int32) (s : hp_S), l_M_X11_copyWith_0_2 n y2 y3 s = some (x0, s1) → hp_go sh_M me_X11_copyWith (d + 1) (some (.int x0)) s1 2 [(0, .ref 0), (2, .int y2), (3, .int y3)] [] s := by
  intro n
  induction n with
  | zero =>
    intro y2 y3 s h
    cases h
  | succ n ih =>
    intro y2 y3 s h
    rw [l_M_X11_copyWith_0_2.eq_2] at h
    refine hq_aload_n (pm_d rk_X11_copyWith 2 rfl) rfl 0 rfl ?_
    refine hq_iload_n (pm_d rk_X11_copyWith 3 rfl) rfl 2 rfl ?_
    refine hq_iload_n (pm_d rk_X11_copyWith 4 rfl) rfl 1 rfl ?_
    show hp_go _ _ _ _ _ 5 _ _ _
    obtain ⟨x2, t1, hq, h⟩ := pm_bd_i h
    have hM := w_M_X11_holds_0 (d := d + 0) (h := hq)
    refine hq_callVi (a := 0) (ci := 11) [.int y3, .int y2] [] (pm_d rk_X11_copyWith 5 rfl) ml_X11_244 iv_X11_holds rfl rfl rfl rfl rfl (Nat.le_of_ble_eq_true rfl) hM ?_
    refine hq_if_ne 21 (pm_d rk_X11_copyWith 6 rfl) (by decide) (fun hc => ?_) (fun hc => ?_)
    · rw [if_neg hc] at h
      refine hq_iload_n (pm_d rk_X11_copyWith 13 rfl) rfl 2 rfl ?_
      exact hq_iret (pm_d rk_X11_copyWith 14 rfl) rfl h
    rw [if_pos hc] at h
    refine hq_aload_n (pm_d rk_X11_copyWith 7 rfl) rfl 0 rfl ?_
    refine hq_getR (h := 21) 30 (pm_d rk_X11_copyWith 8 rfl) fl_X11_75 rfl rfl ?_
    show hp_go _ _ _ _ _ 15 _ _ _
    refine hq_iload_n (pm_d rk_X11_copyWith 9 rfl) rfl 2 rfl ?_
    obtain ⟨hg, h⟩ := pm_gd_i h
    refine hq_iaload (pm_d rk_X11_copyWith 10 rfl) rfl hg ?_
    refine pm_nm (G := fun x3 => hp_go sh_M me_X11_copyWith (d + 1) (some (.int x0)) s1 17 [(0, .ref 0), (2, .int y2), (3, .int y3)] [.int x3] t1) h (fun x3 h => ?_)
    refine hq_istore_n (L1 := [(3, .int x3), (0, .ref 0), (2, .int y2)]) (pm_d rk_X11_copyWith 11 rfl) rfl (by decide) rfl ?_
    refine hq_goto 2 (pm_d rk_X11_copyWith 12 rfl) (by decide) ?_
    refine hq_drop [1, 2, 0] rfl ?_
    exact ih _ _ _ h
def f_M_X11_copyWith_0 (n : Nat) (a1 : Int32) (a2 : Int32) (s : hp_S) : Option (Int32 × hp_S) :=
  l_M_X11_copyWith_0_2 n a2 a1 s
set_option maxRecDepth 100000 in
set_option maxHeartbeats 400000 in
theorem w_M_X11_copyWith_0 (d : Nat) (n : Nat) (a1 : Int32) (a2 : Int32) (s s1 : hp_S) (x0 : Int32) (h : f_M_X11_copyWith_0 n a1 a2 s = some (x0, s1)) : hp_is sh_M me_X11_copyWith (d + 1) [.ref 0, .int a1, .int a2] s (some (.int x0)) s1 := by
  refine hp_ofF [(0, .ref 0), (1, .int a1), (2, .int a2)] (by decide +kernel) (Nat.le_of_ble_eq_true rfl) rfl ?_
  unfold f_M_X11_copyWith_0 at h
  refine hq_iload_n (pm_d rk_X11_copyWith 0 rfl) rfl 1 rfl ?_
  refine hq_istore_n (L1 := [(3, .int a1), (0, .ref 0), (1, .int a1), (2, .int a2)]) (pm_d rk_X11_copyWith 1 rfl) rfl (by decide) rfl ?_
  refine hq_drop [1, 3, 0] rfl ?_
  exact wl_M_X11_copyWith_0_2 d _ _   _ _ _ _ h
def l_M_X11_expand_0_48 (k24 : Int32 → hp_S → Option (Int32 × hp_S)) : Nat → Int32 → Int32 → hp_S → Option (Int32 × hp_S)
  | 0, _, _, _ => none
  | n + 1, y1, y2, s =>
    pm_bd (f_M_X11_high_0 n y1 s) (fun x8 t7 =>
    pm_let (fun (z147_1 : Int32) (s : hp_S) =>
      pm_let (z147_1 + (1 : Int32)) (fun x9 =>
      k24 x9 s)) (fun j147 =>
    if x8 ≤ y2 then
      j147 y1 t7
    else
      if (2000 : Int32) < (hs_I t7 0 32) then
        j147 y1 t7
      else
        pm_gd1 (pm_ib y2 101) (
        pm_let (hs_A t7 17 y2.toNatClampNeg) (fun x10 =>
        pm_gd1 (pm_ib x10 101) (
        pm_let (fun (z141_1 : Int32) (z141_2 : Int32) (s : hp_S) =>
          pm_let (z141_2 + (1 : Int32)) (fun x11 =>
          l_M_X11_expand_0_48 k24 n z141_1 x11 s)) (fun j141 =>
        if (hs_A t7 6 x10.toNatClampNeg) = (33 : Int32) then
          pm_gd1 (pm_ib x10 101) (
          pm_gd1 (pm_ib (hs_I t7 0 28) 2001) (
          pm_let (hs_pA t7 20 (hs_I t7 0 28).toNatClampNeg (hs_A t7 19 x10.toNatClampNeg)) (fun t12 =>
          pm_gd1 (pm_ib x10 101) (
          pm_bd (f_M_X11_copyWith_0 n y1 (hs_A t12 19 x10.toNatClampNeg) t12) (fun x14 t13 =>
          pm_gd1 (pm_ib (hs_I t12 0 28) 2001) (
          pm_let (hs_pA t13 21 (hs_I t12 0 28).toNatClampNeg x14) (fun t15 =>
          pm_b1 (f_M_X11_open_0 n (hs_I t15 0 28) t15) (fun t16 =>
          pm_let (hs_pI t16 0 28 ((hs_I t16 0 28) + (1 : Int32))) (fun t17 =>
          j141 y1 y2 t17)))))))))
        else
          j141 y1 y2 t7))))))
set_option maxRecDepth 100000 in
set_option maxHeartbeats 400000 in
theorem wl_M_X11_expand_0_48 (d : Nat) (k24 : Int32 → hp_S → Option (Int32 × hp_S)) (s1 : hp_S) (x0 : Int32) (hk24 : ∀ (y1 : Int32) (s : hp_S), k24 y1 s = some (x0, s1) → hp_go sh_M me_X11_expand (d + 3) (some (.int x0)) s1 24 [(0, .ref 0), (1, .int y1)] [] s) : ∀ (n : Nat) (y1 : Int32) (y2 : Int32) (s : hp_S), l_M_X11_expand_0_48 k24 n y1 y2 s = some (x0, s1) → hp_go sh_M me_X11_expand (d + 3) (some (.int x0)) s1 48 [(0, .ref 0), (1, .int y1), (2, .int y2)] [] s := by
  intro n
  induction n with
  | zero =>
    intro y1 y2 s h
    cases h
  | succ n ih =>
    intro y1 y2 s h
    rw [l_M_X11_expand_0_48.eq_2] at h
    refine hq_iload_n (pm_d rk_X11_expand 28 rfl) rfl 2 rfl ?_
    refine hq_aload_n (pm_d rk_X11_expand 29 rfl) rfl 0 rfl ?_
    refine hq_iload_n (pm_d rk_X11_expand 30 rfl) rfl 1 rfl ?_
    obtain ⟨x8, t7, hq, h⟩ := pm_bd_i h
    have hM := w_M_X11_high_0 (d := d + 1) (h := hq)
    refine hq_callVi (a := 0) (ci := 11) [.int y1] [.int y2] (pm_d rk_X11_expand 31 rfl) ml_X11_250 iv_X11_high rfl rfl rfl rfl rfl (Nat.le_of_ble_eq_true rfl) hM ?_
    refine pm_jn (P := fun j147 => ∀ (z147_1 : Int32) (s : hp_S), j147 z147_1 s = some (x0, s1) → hp_go sh_M me_X11_expand (d + 3) (some (.int x0)) s1 147 [(0, .ref 0), (1, .int z147_1)] [] s) h ?_ (fun j147 hj147 h => ?_)
    · intro z147_1 s h
      dsimp only at h
      show hp_go _ _ _ _ _ 147 _ _ _
      refine hq_iinc (v := z147_1 + (1 : Int32)) (L1 := [(1, .int (z147_1 + (1 : Int32))), (0, .ref 0)]) (pm_d rk_X11_expand 82 rfl) 1 rfl (by rw [show Int32.ofInt (1) = (1 : Int32) by decide]) (by decide) rfl ?_
      refine pm_nm (G := fun x9 => hp_go sh_M me_X11_expand (d + 3) (some (.int x0)) s1 150 [(1, .int x9), (0, .ref 0)] [] s) h (fun x9 h => ?_)
      refine hq_goto 24 (pm_d rk_X11_expand 83 rfl) (by decide) ?_
      refine hq_drop [1, 0] rfl ?_
      exact hk24 _ _ h
    refine hq_icmp_ge 147 (pm_d rk_X11_expand 32 rfl) (by decide) (fun hc => ?_) (fun hc => ?_)
    · rw [if_pos hc] at h
      refine hq_drop [0, 1] rfl ?_
      exact hj147 _ _ h
    rw [if_neg hc] at h
    refine hq_aload_n (pm_d rk_X11_expand 33 rfl) rfl 0 rfl ?_
    refine hq_getI 32 (pm_d rk_X11_expand 34 rfl) fl_X11_253 rfl rfl ?_
    refine hq_sipush (v := (2000 : Int32)) (pm_d rk_X11_expand 35 rfl) (by decide) ?_
    show hp_go _ _ _ _ _ 64 _ _ _
    refine hq_icmp_gt 147 (pm_d rk_X11_expand 36 rfl) (by decide) (fun hc => ?_) (fun hc => ?_)
    · rw [if_pos hc] at h
      refine hq_drop [0, 1] rfl ?_
      exact hj147 _ _ h
    rw [if_neg hc] at h
    refine hq_aload_n (pm_d rk_X11_expand 37 rfl) rfl 0 rfl ?_
    refine hq_getR (h := 17) 25 (pm_d rk_X11_expand 38 rfl) fl_X11_63 rfl rfl ?_
    refine hq_iload_n (pm_d rk_X11_expand 39 rfl) rfl 2 rfl ?_
    obtain ⟨hg, h⟩ := pm_gd_i h
    refine hq_iaload (pm_d rk_X11_expand 40 rfl) rfl hg ?_
    refine pm_nm (G := fun x10 => hp_go sh_M me_X11_expand (d + 3) (some (.int x0)) s1 73 [(0, .ref 0), (1, .int y1), (2, .int y2)] [.int x10] t7) h (fun x10 h => ?_)
    refine hq_istore_n (L1 := [(3, .int x10), (0, .ref 0), (1, .int y1), (2, .int y2)]) (pm_d rk_X11_expand 41 rfl) rfl (by decide) rfl ?_
    show hp_go _ _ _ _ _ 74 _ _ _
    refine hq_aload_n (pm_d rk_X11_expand 42 rfl) rfl 1 rfl ?_
    refine hq_getR (h := 6) 13 (pm_d rk_X11_expand 43 rfl) fl_X11_30 rfl rfl ?_
    refine hq_iload_n (pm_d rk_X11_expand 44 rfl) rfl 0 rfl ?_
    obtain ⟨hg, h⟩ := pm_gd_i h
    refine hq_iaload (pm_d rk_X11_expand 45 rfl) rfl hg ?_
    refine hq_bipush (v := (33 : Int32)) (pm_d rk_X11_expand 46 rfl) (by decide) ?_
    refine pm_jn (P := fun j141 => ∀ (z141_1 : Int32) (z141_2 : Int32) (s : hp_S), j141 z141_1 z141_2 s = some (x0, s1) → hp_go sh_M me_X11_expand (d + 3) (some (.int x0)) s1 141 [(0, .ref 0), (1, .int z141_1), (2, .int z141_2)] [] s) h ?_ (fun j141 hj141 h => ?_)
    · intro z141_1 z141_2 s h
      dsimp only at h
      refine hq_iinc (v := z141_2 + (1 : Int32)) (L1 := [(2, .int (z141_2 + (1 : Int32))), (0, .ref 0), (1, .int z141_1)]) (pm_d rk_X11_expand 80 rfl) 2 rfl (by rw [show Int32.ofInt (1) = (1 : Int32) by decide]) (by decide) rfl ?_
      refine pm_nm (G := fun x11 => hp_go sh_M me_X11_expand (d + 3) (some (.int x0)) s1 144 [(2, .int x11), (0, .ref 0), (1, .int z141_1)] [] s) h (fun x11 h => ?_)
      show hp_go _ _ _ _ _ 144 _ _ _
      refine hq_goto 48 (pm_d rk_X11_expand 81 rfl) (by decide) ?_
      refine hq_drop [1, 2, 0] rfl ?_
      exact ih _ _ _ h
    refine hq_icmp_eq 88 (pm_d rk_X11_expand 47 rfl) (by decide) (fun hc => ?_) (fun hc => ?_)
    · rw [if_pos hc] at h
      refine hq_aload_n (pm_d rk_X11_expand 49 rfl) rfl 1 rfl ?_
      refine hq_getR (h := 20) 29 (pm_d rk_X11_expand 50 rfl) fl_X11_72 rfl rfl ?_
      refine hq_aload_n (pm_d rk_X11_expand 51 rfl) rfl 1 rfl ?_
      refine hq_getI 28 (pm_d rk_X11_expand 52 rfl) fl_X11_256 rfl rfl ?_
      show hp_go _ _ _ _ _ 96 _ _ _
      refine hq_aload_n (pm_d rk_X11_expand 53 rfl) rfl 1 rfl ?_
      refine hq_getR (h := 19) 27 (pm_d rk_X11_expand 54 rfl) fl_X11_69 rfl rfl ?_
      refine hq_iload_n (pm_d rk_X11_expand 55 rfl) rfl 0 rfl ?_
      obtain ⟨hg, h⟩ := pm_gd_i h
      refine hq_iaload (pm_d rk_X11_expand 56 rfl) rfl hg ?_
      obtain ⟨hg, h⟩ := pm_gd_i h
      refine hq_iastore (pm_d rk_X11_expand 57 rfl) rfl hg ?_
      refine pm_nm (G := fun t12 => hp_go sh_M me_X11_expand (d + 3) (some (.int x0)) s1 103 [(3, .int x10), (0, .ref 0), (1, .int y1), (2, .int y2)] [] t12) h (fun t12 h => ?_)
      refine hq_aload_n (pm_d rk_X11_expand 58 rfl) rfl 1 rfl ?_
      show hp_go _ _ _ _ _ 104 _ _ _
      refine hq_getR (h := 21) 30 (pm_d rk_X11_expand 59 rfl) fl_X11_75 rfl rfl ?_
      refine hq_aload_n (pm_d rk_X11_expand 60 rfl) rfl 1 rfl ?_
      refine hq_getI 28 (pm_d rk_X11_expand 61 rfl) fl_X11_256 rfl rfl ?_
      refine hq_aload_n (pm_d rk_X11_expand 62 rfl) rfl 1 rfl ?_
      refine hq_iload_n (pm_d rk_X11_expand 63 rfl) rfl 2 rfl ?_
      refine hq_aload_n (pm_d rk_X11_expand 64 rfl) rfl 1 rfl ?_
      show hp_go _ _ _ _ _ 114 _ _ _
      refine hq_getR (h := 19) 27 (pm_d rk_X11_expand 65 rfl) fl_X11_69 rfl rfl ?_
      refine hq_iload_n (pm_d rk_X11_expand 66 rfl) rfl 0 rfl ?_
      obtain ⟨hg, h⟩ := pm_gd_i h
      refine hq_iaload (pm_d rk_X11_expand 67 rfl) rfl hg ?_
      obtain ⟨x14, t13, hq, h⟩ := pm_bd_i h
      have hM := w_M_X11_copyWith_0 (d := d + 1) (h := hq)
      refine hq_callVi (a := 0) (ci := 11) [.int y1, .int (hs_A t12 19 x10.toNatClampNeg)] [.int (hs_I t12 0 28), .ref 21] (pm_d rk_X11_expand 68 rfl) ml_X11_262 iv_X11_copyWith rfl rfl rfl rfl rfl (Nat.le_of_ble_eq_true rfl) hM ?_
      obtain ⟨hg, h⟩ := pm_gd_i h
      refine hq_iastore (pm_d rk_X11_expand 69 rfl) rfl hg ?_
      refine pm_nm (G := fun t15 => hp_go sh_M me_X11_expand (d + 3) (some (.int x0)) s1 123 [(3, .int x10), (0, .ref 0), (1, .int y1), (2, .int y2)] [] t15) h (fun t15 h => ?_)
      refine hq_aload_n (pm_d rk_X11_expand 70 rfl) rfl 1 rfl ?_
      show hp_go _ _ _ _ _ 124 _ _ _
      refine hq_aload_n (pm_d rk_X11_expand 71 rfl) rfl 1 rfl ?_
      refine hq_getI 28 (pm_d rk_X11_expand 72 rfl) fl_X11_256 rfl rfl ?_
      obtain ⟨t16, hq, h⟩ := pm_b1_i h
      have hM := w_M_X11_open_0 (d := d + 0) (h := hq)
      refine hq_callVv (a := 0) (ci := 11) [.int (hs_I t15 0 28)] [] (pm_d rk_X11_expand 73 rfl) ml_X11_259 iv_X11_open rfl rfl rfl rfl rfl (Nat.le_of_ble_eq_true rfl) hM ?_
      refine hq_aload_n (pm_d rk_X11_expand 74 rfl) rfl 1 rfl ?_
      refine hq_dup (pm_d rk_X11_expand 75 rfl) rfl ?_
      refine hq_getI 28 (pm_d rk_X11_expand 76 rfl) fl_X11_256 rfl rfl ?_
      show hp_go _ _ _ _ _ 136 _ _ _
      refine hq_iconst (v := (1 : Int32)) (pm_d rk_X11_expand 77 rfl) (by decide) ?_
      refine hq_iadd (pm_d rk_X11_expand 78 rfl) ?_
      refine hq_putI 28 (pm_d rk_X11_expand 79 rfl) fl_X11_256 rfl rfl ?_
      refine pm_nm (G := fun t17 => hp_go sh_M me_X11_expand (d + 3) (some (.int x0)) s1 141 [(3, .int x10), (0, .ref 0), (1, .int y1), (2, .int y2)] [] t17) h (fun t17 h => ?_)
      refine hq_drop [1, 2, 3] rfl ?_
      exact hj141 _ _ _ h
    rw [if_neg hc] at h
    refine hq_goto 141 (pm_d rk_X11_expand 48 rfl) (by decide) ?_
    refine hq_drop [1, 2, 3] rfl ?_
    exact hj141 _ _ _ h
def l_M_X11_expand_0_24 : Nat → Int32 → hp_S → Option (Int32 × hp_S)
  | 0, _, _ => none
  | n + 1, y1, s =>
    pm_let (fun (s : hp_S) =>
      if (2000 : Int32) < (hs_I s 0 32) then
        some ((0 : Int32), s)
      else
        some ((1 : Int32), s)) (fun j153 =>
    if (hs_I s 0 28) ≤ y1 then
      j153  s
    else
      if (2000 : Int32) < (hs_I s 0 32) then
        j153  s
      else
        pm_bd (f_M_X11_low_0 n y1 s) (fun x6 t5 =>
        l_M_X11_expand_0_48 (l_M_X11_expand_0_24 n) n y1 x6 t5))
set_option maxRecDepth 100000 in
set_option maxHeartbeats 400000 in
theorem wl_M_X11_expand_0_24 (d : Nat) (s1 : hp_S) (x0 : Int32)  : ∀ (n : Nat) (y1 : Int32) (s : hp_S), l_M_X11_expand_0_24 n y1 s = some (x0, s1) → hp_go sh_M me_X11_expand (d + 3) (some (.int x0)) s1 24 [(0, .ref 0), (1, .int y1)] [] s := by
  intro n
  induction n with
  | zero =>
    intro y1 s h
    cases h
  | succ n ih =>
    intro y1 s h
    rw [l_M_X11_expand_0_24.eq_2] at h
    refine hq_iload_n (pm_d rk_X11_expand 16 rfl) rfl 1 rfl ?_
    show hp_go _ _ _ _ _ 25 _ _ _
    refine hq_aload_n (pm_d rk_X11_expand 17 rfl) rfl 0 rfl ?_
    refine hq_getI 28 (pm_d rk_X11_expand 18 rfl) fl_X11_256 rfl rfl ?_
    refine pm_jn (P := fun j153 => ∀ (s : hp_S), j153  s = some (x0, s1) → hp_go sh_M me_X11_expand (d + 3) (some (.int x0)) s1 153 [(0, .ref 0)] [] s) h ?_ (fun j153 hj153 h => ?_)
    · intro  s h
      dsimp only at h
      refine hq_aload_n (pm_d rk_X11_expand 84 rfl) rfl 0 rfl ?_
      refine hq_getI 32 (pm_d rk_X11_expand 85 rfl) fl_X11_253 rfl rfl ?_
      refine hq_sipush (v := (2000 : Int32)) (pm_d rk_X11_expand 86 rfl) (by decide) ?_
      refine hq_icmp_gt 167 (pm_d rk_X11_expand 87 rfl) (by decide) (fun hc => ?_) (fun hc => ?_)
      · rw [if_pos hc] at h
        show hp_go _ _ _ _ _ 167 _ _ _
        refine hq_iconst (v := (0 : Int32)) (pm_d rk_X11_expand 90 rfl) (by decide) ?_
        exact hq_zret (pm_d rk_X11_expand 91 rfl) rfl rfl h
      rw [if_neg hc] at h
      refine hq_iconst (v := (1 : Int32)) (pm_d rk_X11_expand 88 rfl) (by decide) ?_
      refine hq_goto 168 (pm_d rk_X11_expand 89 rfl) (by decide) ?_
      exact hq_zret (pm_d rk_X11_expand 91 rfl) rfl rfl h
    refine hq_icmp_ge 153 (pm_d rk_X11_expand 19 rfl) (by decide) (fun hc => ?_) (fun hc => ?_)
    · rw [if_pos hc] at h
      refine hq_drop [0] rfl ?_
      exact hj153  _ h
    rw [if_neg hc] at h
    show hp_go _ _ _ _ _ 32 _ _ _
    refine hq_aload_n (pm_d rk_X11_expand 20 rfl) rfl 0 rfl ?_
    refine hq_getI 32 (pm_d rk_X11_expand 21 rfl) fl_X11_253 rfl rfl ?_
    refine hq_sipush (v := (2000 : Int32)) (pm_d rk_X11_expand 22 rfl) (by decide) ?_
    refine hq_icmp_gt 153 (pm_d rk_X11_expand 23 rfl) (by decide) (fun hc => ?_) (fun hc => ?_)
    · rw [if_pos hc] at h
      refine hq_drop [0] rfl ?_
      exact hj153  _ h
    rw [if_neg hc] at h
    refine hq_aload_n (pm_d rk_X11_expand 24 rfl) rfl 0 rfl ?_
    refine hq_iload_n (pm_d rk_X11_expand 25 rfl) rfl 1 rfl ?_
    show hp_go _ _ _ _ _ 44 _ _ _
    obtain ⟨x6, t5, hq, h⟩ := pm_bd_i h
    have hM := w_M_X11_low_0 (d := d + 1) (h := hq)
    refine hq_callVi (a := 0) (ci := 11) [.int y1] [] (pm_d rk_X11_expand 26 rfl) ml_X11_247 iv_X11_low rfl rfl rfl rfl rfl (Nat.le_of_ble_eq_true rfl) hM ?_
    refine hq_istore_n (L1 := [(2, .int x6), (0, .ref 0), (1, .int y1)]) (pm_d rk_X11_expand 27 rfl) rfl (by decide) rfl ?_
    refine hq_drop [1, 2, 0] rfl ?_
    exact wl_M_X11_expand_0_48 d _ _ _  ih _ _ _ _ h
def f_M_X11_expand_0 (n : Nat) (s : hp_S) : Option (Int32 × hp_S) :=
  pm_let (hs_pI s 0 32 (0 : Int32)) (fun t1 =>
  pm_let (hs_pI t1 0 28 (1 : Int32)) (fun t2 =>
  pm_gd1 (pm_ib (0 : Int32) 2001) (
  pm_let (hs_pA t2 20 (0 : Int32).toNatClampNeg (-1 : Int32)) (fun t3 =>
  pm_b1 (f_M_X11_open_0 n (0 : Int32) t3) (fun t4 =>
  l_M_X11_expand_0_24 n (0 : Int32) t4)))))
set_option maxRecDepth 100000 in
set_option maxHeartbeats 400000 in
theorem w_M_X11_expand_0 (d : Nat) (n : Nat) (s s1 : hp_S) (x0 : Int32) (h : f_M_X11_expand_0 n s = some (x0, s1)) : hp_is sh_M me_X11_expand (d + 3) [.ref 0] s (some (.int x0)) s1 := by
  refine hp_ofF [(0, .ref 0)] (by decide +kernel) (Nat.le_of_ble_eq_true rfl) rfl ?_
  unfold f_M_X11_expand_0 at h
  refine hq_aload_n (pm_d rk_X11_expand 0 rfl) rfl 0 rfl ?_
  refine hq_iconst (v := (0 : Int32)) (pm_d rk_X11_expand 1 rfl) (by decide) ?_
  refine hq_putI 32 (pm_d rk_X11_expand 2 rfl) fl_X11_253 rfl rfl ?_
  refine pm_nm (G := fun t1 => hp_go sh_M me_X11_expand (d + 3) (some (.int x0)) s1 5 [(0, .ref 0)] [] t1) h (fun t1 h => ?_)
  refine hq_aload_n (pm_d rk_X11_expand 3 rfl) rfl 0 rfl ?_
  refine hq_iconst (v := (1 : Int32)) (pm_d rk_X11_expand 4 rfl) (by decide) ?_
  show hp_go _ _ _ _ _ 7 _ _ _
  refine hq_putI 28 (pm_d rk_X11_expand 5 rfl) fl_X11_256 rfl rfl ?_
  refine pm_nm (G := fun t2 => hp_go sh_M me_X11_expand (d + 3) (some (.int x0)) s1 10 [(0, .ref 0)] [] t2) h (fun t2 h => ?_)
  refine hq_aload_n (pm_d rk_X11_expand 6 rfl) rfl 0 rfl ?_
  refine hq_getR (h := 20) 29 (pm_d rk_X11_expand 7 rfl) fl_X11_72 rfl rfl ?_
  refine hq_iconst (v := (0 : Int32)) (pm_d rk_X11_expand 8 rfl) (by decide) ?_
  refine hq_iconst (v := (-1 : Int32)) (pm_d rk_X11_expand 9 rfl) (by decide) ?_
  obtain ⟨hg, h⟩ := pm_gd_i h
  refine hq_iastore (pm_d rk_X11_expand 10 rfl) rfl hg ?_
  refine pm_nm (G := fun t3 => hp_go sh_M me_X11_expand (d + 3) (some (.int x0)) s1 17 [(0, .ref 0)] [] t3) h (fun t3 h => ?_)
  show hp_go _ _ _ _ _ 17 _ _ _
  refine hq_aload_n (pm_d rk_X11_expand 11 rfl) rfl 0 rfl ?_
  refine hq_iconst (v := (0 : Int32)) (pm_d rk_X11_expand 12 rfl) (by decide) ?_
  obtain ⟨t4, hq, h⟩ := pm_b1_i h
  have hM := w_M_X11_open_0 (d := d + 0) (h := hq)
  refine hq_callVv (a := 0) (ci := 11) [.int (0 : Int32)] [] (pm_d rk_X11_expand 13 rfl) ml_X11_259 iv_X11_open rfl rfl rfl rfl rfl (Nat.le_of_ble_eq_true rfl) hM ?_
  refine hq_iconst (v := (0 : Int32)) (pm_d rk_X11_expand 14 rfl) (by decide) ?_
  refine hq_istore_n (L1 := [(1, .int (0 : Int32)), (0, .ref 0)]) (pm_d rk_X11_expand 15 rfl) rfl (by decide) rfl ?_
  refine hq_drop [1, 0] rfl ?_
  exact wl_M_X11_expand_0_24 d _ _   _ _ _ h
def f_M_X11_fresh_0 (a1 : Int32) (a2 : Int32) (a3 : Int32) (s : hp_S) : Option (Int32 × hp_S) :=
  pm_gd1 (pm_ib (hs_I s 0 37) 10200) (
  pm_let (hs_pA s 23 (hs_I s 0 37).toNatClampNeg (hs_I s 0 37)) (fun t1 =>
  pm_gd1 (pm_ib (hs_I t1 0 37) 10200) (
  pm_let (hs_pA t1 24 (hs_I t1 0 37).toNatClampNeg a1) (fun t2 =>
  pm_gd1 (pm_ib (hs_I t2 0 37) 10200) (
  pm_let (hs_pA t2 25 (hs_I t2 0 37).toNatClampNeg a2) (fun t3 =>
  pm_gd1 (pm_ib (hs_I t3 0 37) 10200) (
  pm_let (hs_pA t3 26 (hs_I t3 0 37).toNatClampNeg a3) (fun t4 =>
  pm_let (hs_pI t4 0 37 ((hs_I t4 0 37) + (1 : Int32))) (fun t5 =>
  some (((hs_I t5 0 37) - (1 : Int32)), t5))))))))))
set_option maxRecDepth 100000 in
set_option maxHeartbeats 400000 in
theorem w_M_X11_fresh_0 (d : Nat) (a1 : Int32) (a2 : Int32) (a3 : Int32) (s s1 : hp_S) (x0 : Int32) (h : f_M_X11_fresh_0 a1 a2 a3 s = some (x0, s1)) : hp_is sh_M me_X11_fresh (d + 0) [.ref 0, .int a1, .int a2, .int a3] s (some (.int x0)) s1 := by
  refine hp_ofF [(0, .ref 0), (1, .int a1), (2, .int a2), (3, .int a3)] (by decide +kernel) (Nat.le_of_ble_eq_true rfl) rfl ?_
  unfold f_M_X11_fresh_0 at h
  refine hq_aload_n (pm_d rk_X11_fresh 0 rfl) rfl 0 rfl ?_
  refine hq_getR (h := 23) 33 (pm_d rk_X11_fresh 1 rfl) fl_X11_81 rfl rfl ?_
  refine hq_aload_n (pm_d rk_X11_fresh 2 rfl) rfl 0 rfl ?_
  refine hq_getI 37 (pm_d rk_X11_fresh 3 rfl) fl_X11_265 rfl rfl ?_
  refine hq_aload_n (pm_d rk_X11_fresh 4 rfl) rfl 0 rfl ?_
  show hp_go _ _ _ _ _ 9 _ _ _
  refine hq_getI 37 (pm_d rk_X11_fresh 5 rfl) fl_X11_265 rfl rfl ?_
  obtain ⟨hg, h⟩ := pm_gd_i h
  refine hq_iastore (pm_d rk_X11_fresh 6 rfl) rfl hg ?_
  refine pm_nm (G := fun t1 => hp_go sh_M me_X11_fresh (d + 0) (some (.int x0)) s1 13 [(0, .ref 0), (1, .int a1), (2, .int a2), (3, .int a3)] [] t1) h (fun t1 h => ?_)
  refine hq_aload_n (pm_d rk_X11_fresh 7 rfl) rfl 0 rfl ?_
  refine hq_getR (h := 24) 34 (pm_d rk_X11_fresh 8 rfl) fl_X11_84 rfl rfl ?_
  refine hq_aload_n (pm_d rk_X11_fresh 9 rfl) rfl 0 rfl ?_
  refine hq_getI 37 (pm_d rk_X11_fresh 10 rfl) fl_X11_265 rfl rfl ?_
  show hp_go _ _ _ _ _ 21 _ _ _
  refine hq_iload_n (pm_d rk_X11_fresh 11 rfl) rfl 1 rfl ?_
  obtain ⟨hg, h⟩ := pm_gd_i h
  refine hq_iastore (pm_d rk_X11_fresh 12 rfl) rfl hg ?_
  refine pm_nm (G := fun t2 => hp_go sh_M me_X11_fresh (d + 0) (some (.int x0)) s1 23 [(0, .ref 0), (1, .int a1), (2, .int a2), (3, .int a3)] [] t2) h (fun t2 h => ?_)
  refine hq_aload_n (pm_d rk_X11_fresh 13 rfl) rfl 0 rfl ?_
  refine hq_getR (h := 25) 35 (pm_d rk_X11_fresh 14 rfl) fl_X11_87 rfl rfl ?_
  refine hq_aload_n (pm_d rk_X11_fresh 15 rfl) rfl 0 rfl ?_
  refine hq_getI 37 (pm_d rk_X11_fresh 16 rfl) fl_X11_265 rfl rfl ?_
  show hp_go _ _ _ _ _ 31 _ _ _
  refine hq_iload_n (pm_d rk_X11_fresh 17 rfl) rfl 2 rfl ?_
  obtain ⟨hg, h⟩ := pm_gd_i h
  refine hq_iastore (pm_d rk_X11_fresh 18 rfl) rfl hg ?_
  refine pm_nm (G := fun t3 => hp_go sh_M me_X11_fresh (d + 0) (some (.int x0)) s1 33 [(0, .ref 0), (1, .int a1), (2, .int a2), (3, .int a3)] [] t3) h (fun t3 h => ?_)
  refine hq_aload_n (pm_d rk_X11_fresh 19 rfl) rfl 0 rfl ?_
  refine hq_getR (h := 26) 36 (pm_d rk_X11_fresh 20 rfl) fl_X11_90 rfl rfl ?_
  refine hq_aload_n (pm_d rk_X11_fresh 21 rfl) rfl 0 rfl ?_
  refine hq_getI 37 (pm_d rk_X11_fresh 22 rfl) fl_X11_265 rfl rfl ?_
  show hp_go _ _ _ _ _ 41 _ _ _
  refine hq_iload_n (pm_d rk_X11_fresh 23 rfl) rfl 3 rfl ?_
  obtain ⟨hg, h⟩ := pm_gd_i h
  refine hq_iastore (pm_d rk_X11_fresh 24 rfl) rfl hg ?_
  refine pm_nm (G := fun t4 => hp_go sh_M me_X11_fresh (d + 0) (some (.int x0)) s1 43 [(0, .ref 0), (1, .int a1), (2, .int a2), (3, .int a3)] [] t4) h (fun t4 h => ?_)
  refine hq_aload_n (pm_d rk_X11_fresh 25 rfl) rfl 0 rfl ?_
  refine hq_dup (pm_d rk_X11_fresh 26 rfl) rfl ?_
  refine hq_getI 37 (pm_d rk_X11_fresh 27 rfl) fl_X11_265 rfl rfl ?_
  refine hq_iconst (v := (1 : Int32)) (pm_d rk_X11_fresh 28 rfl) (by decide) ?_
  show hp_go _ _ _ _ _ 49 _ _ _
  refine hq_iadd (pm_d rk_X11_fresh 29 rfl) ?_
  refine hq_putI 37 (pm_d rk_X11_fresh 30 rfl) fl_X11_265 rfl rfl ?_
  refine pm_nm (G := fun t5 => hp_go sh_M me_X11_fresh (d + 0) (some (.int x0)) s1 53 [(0, .ref 0), (1, .int a1), (2, .int a2), (3, .int a3)] [] t5) h (fun t5 h => ?_)
  refine hq_aload_n (pm_d rk_X11_fresh 31 rfl) rfl 0 rfl ?_
  refine hq_getI 37 (pm_d rk_X11_fresh 32 rfl) fl_X11_265 rfl rfl ?_
  refine hq_iconst (v := (1 : Int32)) (pm_d rk_X11_fresh 33 rfl) (by decide) ?_
  refine hq_isub (pm_d rk_X11_fresh 34 rfl) ?_
  show hp_go _ _ _ _ _ 59 _ _ _
  exact hq_iret (pm_d rk_X11_fresh 35 rfl) rfl h
def l_M_X11_root_0_2 : Nat → Int32 → hp_S → Option (Int32 × hp_S)
  | 0, _, _ => none
  | n + 1, y2, s =>
    pm_gd1 (pm_ib y2 10200) (
    if (hs_A s 23 y2.toNatClampNeg) = y2 then
      some (y2, s)
    else
      pm_gd1 (pm_ib y2 10200) (
      pm_let (hs_A s 23 y2.toNatClampNeg) (fun x1 =>
      l_M_X11_root_0_2 n x1 s)))
set_option maxRecDepth 100000 in
set_option maxHeartbeats 400000 in
theorem wl_M_X11_root_0_2 (d : Nat) (s1 : hp_S) (x0 : Int32)  : ∀ (n : Nat) (y2 : Int32) (s : hp_S), l_M_X11_root_0_2 n y2 s = some (x0, s1) → hp_go sh_M me_X11_root (d + 0) (some (.int x0)) s1 2 [(0, .ref 0), (2, .int y2)] [] s := by
  intro n
  induction n with
  | zero =>
    intro y2 s h
    cases h
  | succ n ih =>
    intro y2 s h
    rw [l_M_X11_root_0_2.eq_2] at h
    refine hq_aload_n (pm_d rk_X11_root 2 rfl) rfl 0 rfl ?_
    refine hq_getR (h := 23) 33 (pm_d rk_X11_root 3 rfl) fl_X11_81 rfl rfl ?_
    refine hq_iload_n (pm_d rk_X11_root 4 rfl) rfl 1 rfl ?_
    show hp_go _ _ _ _ _ 7 _ _ _
    obtain ⟨hg, h⟩ := pm_gd_i h
    refine hq_iaload (pm_d rk_X11_root 5 rfl) rfl hg ?_
    refine hq_iload_n (pm_d rk_X11_root 6 rfl) rfl 1 rfl ?_
    refine hq_icmp_eq 22 (pm_d rk_X11_root 7 rfl) (by decide) (fun hc => ?_) (fun hc => ?_)
    · rw [if_pos hc] at h
      refine hq_iload_n (pm_d rk_X11_root 14 rfl) rfl 1 rfl ?_
      exact hq_iret (pm_d rk_X11_root 15 rfl) rfl h
    rw [if_neg hc] at h
    refine hq_aload_n (pm_d rk_X11_root 8 rfl) rfl 0 rfl ?_
    show hp_go _ _ _ _ _ 13 _ _ _
    refine hq_getR (h := 23) 33 (pm_d rk_X11_root 9 rfl) fl_X11_81 rfl rfl ?_
    refine hq_iload_n (pm_d rk_X11_root 10 rfl) rfl 1 rfl ?_
    obtain ⟨hg, h⟩ := pm_gd_i h
    refine hq_iaload (pm_d rk_X11_root 11 rfl) rfl hg ?_
    refine pm_nm (G := fun x1 => hp_go sh_M me_X11_root (d + 0) (some (.int x0)) s1 18 [(0, .ref 0), (2, .int y2)] [.int x1] s) h (fun x1 h => ?_)
    refine hq_istore_n (L1 := [(2, .int x1), (0, .ref 0)]) (pm_d rk_X11_root 12 rfl) rfl (by decide) rfl ?_
    refine hq_goto 2 (pm_d rk_X11_root 13 rfl) (by decide) ?_
    refine hq_drop [1, 0] rfl ?_
    exact ih _ _ h
def f_M_X11_root_0 (n : Nat) (a1 : Int32) (s : hp_S) : Option (Int32 × hp_S) :=
  l_M_X11_root_0_2 n a1 s
set_option maxRecDepth 100000 in
set_option maxHeartbeats 400000 in
theorem w_M_X11_root_0 (d : Nat) (n : Nat) (a1 : Int32) (s s1 : hp_S) (x0 : Int32) (h : f_M_X11_root_0 n a1 s = some (x0, s1)) : hp_is sh_M me_X11_root (d + 0) [.ref 0, .int a1] s (some (.int x0)) s1 := by
  refine hp_ofF [(0, .ref 0), (1, .int a1)] (by decide +kernel) (Nat.le_of_ble_eq_true rfl) rfl ?_
  unfold f_M_X11_root_0 at h
  refine hq_iload_n (pm_d rk_X11_root 0 rfl) rfl 1 rfl ?_
  refine hq_istore_n (L1 := [(2, .int a1), (0, .ref 0), (1, .int a1)]) (pm_d rk_X11_root 1 rfl) rfl (by decide) rfl ?_
  refine hq_drop [1, 0] rfl ?_
  exact wl_M_X11_root_0_2 d _ _   _ _ _ h
def l_M_X11_isFinite_0_85 (k73 : Int32 → Int32 → hp_S → Option (Int32 × hp_S)) : Nat → Int32 → Int32 → Int32 → hp_S → Option (Int32 × hp_S)
  | 0, _, _, _, _ => none
  | n + 1, y1, y2, y3, s =>
    if (hs_I s 0 37) ≤ y3 then
      k73 y1 y2 s
    else
      pm_gd1 (pm_ib y3 10200) (
      pm_let (fun (z154_1 : Int32) (z154_2 : Int32) (z154_3 : Int32) (s : hp_S) =>
        pm_let (z154_3 + (1 : Int32)) (fun x1 =>
        l_M_X11_isFinite_0_85 k73 n z154_1 z154_2 x1 s)) (fun j154 =>
      if (hs_A s 31 y3.toNatClampNeg) = (1 : Int32) then
        j154 y1 y2 y3 s
      else
        pm_gd1 (pm_ib y3 10200) (
        pm_bd (f_M_X11_root_0 n (hs_A s 25 y3.toNatClampNeg) s) (fun x3 t2 =>
        pm_gd1 (pm_ib x3 10200) (
        if (hs_A t2 31 x3.toNatClampNeg) = 0 then
          j154 y1 y2 y3 t2
        else
          pm_gd1 (pm_ib y3 10200) (
          pm_bd (f_M_X11_root_0 n (hs_A t2 26 y3.toNatClampNeg) t2) (fun x5 t4 =>
          pm_gd1 (pm_ib x5 10200) (
          if (hs_A t4 31 x5.toNatClampNeg) = 0 then
            j154 y1 y2 y3 t4
          else
            pm_gd1 (pm_ib y3 10200) (
            pm_let (hs_pA t4 31 y3.toNatClampNeg (1 : Int32)) (fun t6 =>
            pm_let (y1 + (-1 : Int32)) (fun x7 =>
            j154 x7 (1 : Int32) y3 t6)))))))))))
set_option maxRecDepth 100000 in
set_option maxHeartbeats 400000 in
theorem wl_M_X11_isFinite_0_85 (d : Nat) (k73 : Int32 → Int32 → hp_S → Option (Int32 × hp_S)) (s1 : hp_S) (x0 : Int32) (hk73 : ∀ (y1 : Int32) (y2 : Int32) (s : hp_S), k73 y1 y2 s = some (x0, s1) → hp_go sh_M me_X11_isFinite (d + 1) (some (.int x0)) s1 73 [(0, .ref 0), (1, .int y1), (2, .int y2)] [] s) : ∀ (n : Nat) (y1 : Int32) (y2 : Int32) (y3 : Int32) (s : hp_S), l_M_X11_isFinite_0_85 k73 n y1 y2 y3 s = some (x0, s1) → hp_go sh_M me_X11_isFinite (d + 1) (some (.int x0)) s1 85 [(0, .ref 0), (1, .int y1), (2, .int y2), (3, .int y3)] [] s := by
  intro n
  induction n with
  | zero =>
    intro y1 y2 y3 s h
    cases h
  | succ n ih =>
    intro y1 y2 y3 s h
    rw [l_M_X11_isFinite_0_85.eq_2] at h
    refine hq_iload_n (pm_d rk_X11_isFinite 53 rfl) rfl 3 rfl ?_
    refine hq_aload_n (pm_d rk_X11_isFinite 54 rfl) rfl 0 rfl ?_
    refine hq_getI 37 (pm_d rk_X11_isFinite 55 rfl) fl_X11_265 rfl rfl ?_
    refine hq_icmp_ge 160 (pm_d rk_X11_isFinite 56 rfl) (by decide) (fun hc => ?_) (fun hc => ?_)
    · rw [if_pos hc] at h
      show hp_go _ _ _ _ _ 160 _ _ _
      refine hq_goto 73 (pm_d rk_X11_isFinite 94 rfl) (by decide) ?_
      refine hq_drop [0, 1, 2] rfl ?_
      exact hk73 _ _ _ h
    rw [if_neg hc] at h
    refine hq_aload_n (pm_d rk_X11_isFinite 57 rfl) rfl 0 rfl ?_
    refine hq_getR (h := 31) 44 (pm_d rk_X11_isFinite 58 rfl) fl_X11_106 rfl rfl ?_
    refine hq_iload_n (pm_d rk_X11_isFinite 59 rfl) rfl 3 rfl ?_
    obtain ⟨hg, h⟩ := pm_gd_i h
    refine hq_iaload (pm_d rk_X11_isFinite 60 rfl) rfl hg ?_
    refine hq_iconst (v := (1 : Int32)) (pm_d rk_X11_isFinite 61 rfl) (by decide) ?_
    refine pm_jn (P := fun j154 => ∀ (z154_1 : Int32) (z154_2 : Int32) (z154_3 : Int32) (s : hp_S), j154 z154_1 z154_2 z154_3 s = some (x0, s1) → hp_go sh_M me_X11_isFinite (d + 1) (some (.int x0)) s1 154 [(0, .ref 0), (1, .int z154_1), (2, .int z154_2), (3, .int z154_3)] [] s) h ?_ (fun j154 hj154 h => ?_)
    · intro z154_1 z154_2 z154_3 s h
      dsimp only at h
      show hp_go _ _ _ _ _ 154 _ _ _
      refine hq_iinc (v := z154_3 + (1 : Int32)) (L1 := [(3, .int (z154_3 + (1 : Int32))), (0, .ref 0), (1, .int z154_1), (2, .int z154_2)]) (pm_d rk_X11_isFinite 92 rfl) 3 rfl (by rw [show Int32.ofInt (1) = (1 : Int32) by decide]) (by decide) rfl ?_
      refine pm_nm (G := fun x1 => hp_go sh_M me_X11_isFinite (d + 1) (some (.int x0)) s1 157 [(3, .int x1), (0, .ref 0), (1, .int z154_1), (2, .int z154_2)] [] s) h (fun x1 h => ?_)
      refine hq_goto 85 (pm_d rk_X11_isFinite 93 rfl) (by decide) ?_
      refine hq_drop [1, 2, 3, 0] rfl ?_
      exact ih _ _ _ _ h
    refine hq_icmp_eq 154 (pm_d rk_X11_isFinite 62 rfl) (by decide) (fun hc => ?_) (fun hc => ?_)
    · rw [if_pos hc] at h
      refine hq_drop [0, 1, 2, 3] rfl ?_
      exact hj154 _ _ _ _ h
    rw [if_neg hc] at h
    refine hq_aload_n (pm_d rk_X11_isFinite 63 rfl) rfl 0 rfl ?_
    refine hq_getR (h := 31) 44 (pm_d rk_X11_isFinite 64 rfl) fl_X11_106 rfl rfl ?_
    refine hq_aload_n (pm_d rk_X11_isFinite 65 rfl) rfl 0 rfl ?_
    show hp_go _ _ _ _ _ 108 _ _ _
    refine hq_aload_n (pm_d rk_X11_isFinite 66 rfl) rfl 0 rfl ?_
    refine hq_getR (h := 25) 35 (pm_d rk_X11_isFinite 67 rfl) fl_X11_87 rfl rfl ?_
    refine hq_iload_n (pm_d rk_X11_isFinite 68 rfl) rfl 3 rfl ?_
    obtain ⟨hg, h⟩ := pm_gd_i h
    refine hq_iaload (pm_d rk_X11_isFinite 69 rfl) rfl hg ?_
    obtain ⟨x3, t2, hq, h⟩ := pm_bd_i h
    have hM := w_M_X11_root_0 (d := d + 0) (h := hq)
    refine hq_callVi (a := 0) (ci := 11) [.int (hs_A s 25 y3.toNatClampNeg)] [.ref 31] (pm_d rk_X11_isFinite 70 rfl) ml_X11_274 iv_X11_root rfl rfl rfl rfl rfl (Nat.le_of_ble_eq_true rfl) hM ?_
    obtain ⟨hg, h⟩ := pm_gd_i h
    refine hq_iaload (pm_d rk_X11_isFinite 71 rfl) rfl hg ?_
    show hp_go _ _ _ _ _ 118 _ _ _
    refine hq_if_eq 154 (pm_d rk_X11_isFinite 72 rfl) (by decide) (fun hc => ?_) (fun hc => ?_)
    · rw [if_pos hc] at h
      refine hq_drop [0, 1, 2, 3] rfl ?_
      exact hj154 _ _ _ _ h
    rw [if_neg hc] at h
    refine hq_aload_n (pm_d rk_X11_isFinite 73 rfl) rfl 0 rfl ?_
    refine hq_getR (h := 31) 44 (pm_d rk_X11_isFinite 74 rfl) fl_X11_106 rfl rfl ?_
    refine hq_aload_n (pm_d rk_X11_isFinite 75 rfl) rfl 0 rfl ?_
    refine hq_aload_n (pm_d rk_X11_isFinite 76 rfl) rfl 0 rfl ?_
    refine hq_getR (h := 26) 36 (pm_d rk_X11_isFinite 77 rfl) fl_X11_90 rfl rfl ?_
    show hp_go _ _ _ _ _ 130 _ _ _
    refine hq_iload_n (pm_d rk_X11_isFinite 78 rfl) rfl 3 rfl ?_
    obtain ⟨hg, h⟩ := pm_gd_i h
    refine hq_iaload (pm_d rk_X11_isFinite 79 rfl) rfl hg ?_
    obtain ⟨x5, t4, hq, h⟩ := pm_bd_i h
    have hM := w_M_X11_root_0 (d := d + 0) (h := hq)
    refine hq_callVi (a := 0) (ci := 11) [.int (hs_A t2 26 y3.toNatClampNeg)] [.ref 31] (pm_d rk_X11_isFinite 80 rfl) ml_X11_274 iv_X11_root rfl rfl rfl rfl rfl (Nat.le_of_ble_eq_true rfl) hM ?_
    obtain ⟨hg, h⟩ := pm_gd_i h
    refine hq_iaload (pm_d rk_X11_isFinite 81 rfl) rfl hg ?_
    refine hq_if_ne 142 (pm_d rk_X11_isFinite 82 rfl) (by decide) (fun hc => ?_) (fun hc => ?_)
    · rw [if_neg hc] at h
      refine hq_aload_n (pm_d rk_X11_isFinite 84 rfl) rfl 0 rfl ?_
      show hp_go _ _ _ _ _ 143 _ _ _
      refine hq_getR (h := 31) 44 (pm_d rk_X11_isFinite 85 rfl) fl_X11_106 rfl rfl ?_
      refine hq_iload_n (pm_d rk_X11_isFinite 86 rfl) rfl 3 rfl ?_
      refine hq_iconst (v := (1 : Int32)) (pm_d rk_X11_isFinite 87 rfl) (by decide) ?_
      obtain ⟨hg, h⟩ := pm_gd_i h
      refine hq_iastore (pm_d rk_X11_isFinite 88 rfl) rfl hg ?_
      refine pm_nm (G := fun t6 => hp_go sh_M me_X11_isFinite (d + 1) (some (.int x0)) s1 149 [(0, .ref 0), (1, .int y1), (2, .int y2), (3, .int y3)] [] t6) h (fun t6 h => ?_)
      refine hq_iinc (v := y1 + (-1 : Int32)) (L1 := [(1, .int (y1 + (-1 : Int32))), (0, .ref 0), (2, .int y2), (3, .int y3)]) (pm_d rk_X11_isFinite 89 rfl) 1 rfl (by rw [show Int32.ofInt (-1) = (-1 : Int32) by decide]) (by decide) rfl ?_
      refine pm_nm (G := fun x7 => hp_go sh_M me_X11_isFinite (d + 1) (some (.int x0)) s1 152 [(1, .int x7), (0, .ref 0), (2, .int y2), (3, .int y3)] [] t6) h (fun x7 h => ?_)
      refine hq_iconst (v := (1 : Int32)) (pm_d rk_X11_isFinite 90 rfl) (by decide) ?_
      show hp_go _ _ _ _ _ 153 _ _ _
      refine hq_istore_n (L1 := [(2, .int (1 : Int32)), (1, .int x7), (0, .ref 0), (3, .int y3)]) (pm_d rk_X11_isFinite 91 rfl) rfl (by decide) rfl ?_
      refine hq_drop [2, 1, 0, 3] rfl ?_
      exact hj154 _ _ _ _ h
    rw [if_pos hc] at h
    refine hq_goto 154 (pm_d rk_X11_isFinite 83 rfl) (by decide) ?_
    refine hq_drop [0, 1, 2, 3] rfl ?_
    exact hj154 _ _ _ _ h
def l_M_X11_isFinite_0_73 : Nat → Int32 → Int32 → hp_S → Option (Int32 × hp_S)
  | 0, _, _, _ => none
  | n + 1, y1, y2, s =>
    pm_let (fun (z163_1 : Int32) (s : hp_S) =>
      if z163_1 = 0 then
        some ((1 : Int32), s)
      else
        some ((0 : Int32), s)) (fun j163 =>
    if y2 = 0 then
      j163 y1 s
    else
      if y1 ≤ 0 then
        j163 y1 s
      else
        l_M_X11_isFinite_0_85 (l_M_X11_isFinite_0_73 n) n y1 (0 : Int32) (0 : Int32) s)
set_option maxRecDepth 100000 in
set_option maxHeartbeats 400000 in
theorem wl_M_X11_isFinite_0_73 (d : Nat) (s1 : hp_S) (x0 : Int32)  : ∀ (n : Nat) (y1 : Int32) (y2 : Int32) (s : hp_S), l_M_X11_isFinite_0_73 n y1 y2 s = some (x0, s1) → hp_go sh_M me_X11_isFinite (d + 1) (some (.int x0)) s1 73 [(0, .ref 0), (1, .int y1), (2, .int y2)] [] s := by
  intro n
  induction n with
  | zero =>
    intro y1 y2 s h
    cases h
  | succ n ih =>
    intro y1 y2 s h
    rw [l_M_X11_isFinite_0_73.eq_2] at h
    refine hq_iload_n (pm_d rk_X11_isFinite 45 rfl) rfl 2 rfl ?_
    refine pm_jn (P := fun j163 => ∀ (z163_1 : Int32) (s : hp_S), j163 z163_1 s = some (x0, s1) → hp_go sh_M me_X11_isFinite (d + 1) (some (.int x0)) s1 163 [(1, .int z163_1)] [] s) h ?_ (fun j163 hj163 h => ?_)
    · intro z163_1 s h
      dsimp only at h
      show hp_go _ _ _ _ _ 163 _ _ _
      refine hq_iload_n (pm_d rk_X11_isFinite 95 rfl) rfl 0 rfl ?_
      refine hq_if_ne 171 (pm_d rk_X11_isFinite 96 rfl) (by decide) (fun hc => ?_) (fun hc => ?_)
      · rw [if_neg hc] at h
        refine hq_iconst (v := (0 : Int32)) (pm_d rk_X11_isFinite 99 rfl) (by decide) ?_
        exact hq_zret (pm_d rk_X11_isFinite 100 rfl) rfl rfl h
      rw [if_pos hc] at h
      refine hq_iconst (v := (1 : Int32)) (pm_d rk_X11_isFinite 97 rfl) (by decide) ?_
      refine hq_goto 172 (pm_d rk_X11_isFinite 98 rfl) (by decide) ?_
      show hp_go _ _ _ _ _ 172 _ _ _
      exact hq_zret (pm_d rk_X11_isFinite 100 rfl) rfl rfl h
    refine hq_if_eq 163 (pm_d rk_X11_isFinite 46 rfl) (by decide) (fun hc => ?_) (fun hc => ?_)
    · rw [if_pos hc] at h
      refine hq_drop [1] rfl ?_
      exact hj163 _ _ h
    rw [if_neg hc] at h
    refine hq_iload_n (pm_d rk_X11_isFinite 47 rfl) rfl 1 rfl ?_
    refine hq_if_le 163 (pm_d rk_X11_isFinite 48 rfl) (by decide) (fun hc => ?_) (fun hc => ?_)
    · rw [if_pos hc] at h
      refine hq_drop [1] rfl ?_
      exact hj163 _ _ h
    rw [if_neg hc] at h
    refine hq_iconst (v := (0 : Int32)) (pm_d rk_X11_isFinite 49 rfl) (by decide) ?_
    refine hq_istore_n (L1 := [(2, .int (0 : Int32)), (0, .ref 0), (1, .int y1)]) (pm_d rk_X11_isFinite 50 rfl) rfl (by decide) rfl ?_
    show hp_go _ _ _ _ _ 83 _ _ _
    refine hq_iconst (v := (0 : Int32)) (pm_d rk_X11_isFinite 51 rfl) (by decide) ?_
    refine hq_istore_n (L1 := [(3, .int (0 : Int32)), (2, .int (0 : Int32)), (0, .ref 0), (1, .int y1)]) (pm_d rk_X11_isFinite 52 rfl) rfl (by decide) rfl ?_
    refine hq_drop [2, 3, 1, 0] rfl ?_
    exact wl_M_X11_isFinite_0_85 d _ _ _  ih _ _ _ _ _ h
def l_M_X11_isFinite_0_4 : Nat → Int32 → Int32 → hp_S → Option (Int32 × hp_S)
  | 0, _, _, _ => none
  | n + 1, y1, y2, s =>
    if (hs_I s 0 37) ≤ y2 then
      l_M_X11_isFinite_0_73 n y1 (1 : Int32) s
    else
      pm_gd1 (pm_ib y2 10200) (
      pm_let (fun (z37_1 : Int32) (z37_2 : Int32) (z37_S0 : Int32) (s : hp_S) =>
        pm_let (fun (z52_1 : Int32) (z52_2 : Int32) (z52_3 : Int32) (z52_S0 : Int32) (z52_S1 : Int32) (s : hp_S) =>
          pm_gd1 (pm_ib z52_S1 10200) (
          pm_let (hs_pA s 31 z52_S1.toNatClampNeg z52_S0) (fun t8 =>
          pm_let (fun (z63_2 : Int32) (z63_S0 : Int32) (z63_S1 : Int32) (s : hp_S) =>
            pm_let (z63_S1 + z63_S0) (fun x9 =>
            pm_let (z63_2 + (1 : Int32)) (fun x10 =>
            l_M_X11_isFinite_0_4 n x9 x10 s))) (fun j63 =>
          if z52_3 = 0 then
            j63 z52_2 (1 : Int32) z52_1 t8
          else
            j63 z52_2 (0 : Int32) z52_1 t8)))) (fun j52 =>
        if z37_S0 = 0 then
          j52 z37_1 z37_2 z37_S0 (0 : Int32) z37_2 s
        else
          j52 z37_1 z37_2 z37_S0 (1 : Int32) z37_2 s)) (fun j37 =>
      pm_let (fun (z32_1 : Int32) (z32_2 : Int32) (s : hp_S) =>
        j37 z32_1 z32_2 (1 : Int32) s) (fun j32 =>
      if (hs_A s 23 y2.toNatClampNeg) = y2 then
        pm_gd1 (pm_ib y2 10200) (
        if (3 : Int32) ≤ (hs_A s 24 y2.toNatClampNeg) then
          j37 y1 y2 (0 : Int32) s
        else
          j32 y1 y2 s)
      else
        j32 y1 y2 s)))
set_option maxRecDepth 100000 in
set_option maxHeartbeats 400000 in
theorem wl_M_X11_isFinite_0_4 (d : Nat) (s1 : hp_S) (x0 : Int32)  : ∀ (n : Nat) (y1 : Int32) (y2 : Int32) (s : hp_S), l_M_X11_isFinite_0_4 n y1 y2 s = some (x0, s1) → hp_go sh_M me_X11_isFinite (d + 1) (some (.int x0)) s1 4 [(0, .ref 0), (1, .int y1), (2, .int y2)] [] s := by
  intro n
  induction n with
  | zero =>
    intro y1 y2 s h
    cases h
  | succ n ih =>
    intro y1 y2 s h
    rw [l_M_X11_isFinite_0_4.eq_2] at h
    refine hq_iload_n (pm_d rk_X11_isFinite 4 rfl) rfl 2 rfl ?_
    show hp_go _ _ _ _ _ 5 _ _ _
    refine hq_aload_n (pm_d rk_X11_isFinite 5 rfl) rfl 0 rfl ?_
    refine hq_getI 37 (pm_d rk_X11_isFinite 6 rfl) fl_X11_265 rfl rfl ?_
    refine hq_icmp_ge 71 (pm_d rk_X11_isFinite 7 rfl) (by decide) (fun hc => ?_) (fun hc => ?_)
    · rw [if_pos hc] at h
      refine hq_iconst (v := (1 : Int32)) (pm_d rk_X11_isFinite 43 rfl) (by decide) ?_
      refine hq_istore_n (L1 := [(2, .int (1 : Int32)), (0, .ref 0), (1, .int y1)]) (pm_d rk_X11_isFinite 44 rfl) rfl (by decide) rfl ?_
      refine hq_drop [1, 2, 0] rfl ?_
      exact wl_M_X11_isFinite_0_73 d _ _   _ _ _ _ h
    rw [if_neg hc] at h
    refine hq_aload_n (pm_d rk_X11_isFinite 8 rfl) rfl 0 rfl ?_
    refine hq_getR (h := 23) 33 (pm_d rk_X11_isFinite 9 rfl) fl_X11_81 rfl rfl ?_
    refine hq_iload_n (pm_d rk_X11_isFinite 10 rfl) rfl 2 rfl ?_
    obtain ⟨hg, h⟩ := pm_gd_i h
    refine hq_iaload (pm_d rk_X11_isFinite 11 rfl) rfl hg ?_
    show hp_go _ _ _ _ _ 18 _ _ _
    refine hq_iload_n (pm_d rk_X11_isFinite 12 rfl) rfl 2 rfl ?_
    refine pm_jn (P := fun j37 => ∀ (z37_1 : Int32) (z37_2 : Int32) (z37_S0 : Int32) (s : hp_S), j37 z37_1 z37_2 z37_S0 s = some (x0, s1) → hp_go sh_M me_X11_isFinite (d + 1) (some (.int x0)) s1 37 [(0, .ref 0), (1, .int z37_1), (2, .int z37_2)] [.int z37_S0] s) h ?_ (fun j37 hj37 h => ?_)
    · intro z37_1 z37_2 z37_S0 s h
      dsimp only at h
      refine hq_istore_n (L1 := [(3, .int z37_S0), (0, .ref 0), (1, .int z37_1), (2, .int z37_2)]) (pm_d rk_X11_isFinite 23 rfl) rfl (by decide) rfl ?_
      refine hq_aload_n (pm_d rk_X11_isFinite 24 rfl) rfl 1 rfl ?_
      refine hq_getR (h := 31) 44 (pm_d rk_X11_isFinite 25 rfl) fl_X11_106 rfl rfl ?_
      refine hq_iload_n (pm_d rk_X11_isFinite 26 rfl) rfl 3 rfl ?_
      refine hq_iload_n (pm_d rk_X11_isFinite 27 rfl) rfl 0 rfl ?_
      refine pm_jn (P := fun j52 => ∀ (z52_1 : Int32) (z52_2 : Int32) (z52_3 : Int32) (z52_S0 : Int32) (z52_S1 : Int32) (s : hp_S), j52 z52_1 z52_2 z52_3 z52_S0 z52_S1 s = some (x0, s1) → hp_go sh_M me_X11_isFinite (d + 1) (some (.int x0)) s1 52 [(0, .ref 0), (1, .int z52_1), (2, .int z52_2), (3, .int z52_3)] [.int z52_S0, .int z52_S1, .ref 31] s) h ?_ (fun j52 hj52 h => ?_)
      · intro z52_1 z52_2 z52_3 z52_S0 z52_S1 s h
        dsimp only at h
        show hp_go _ _ _ _ _ 52 _ _ _
        obtain ⟨hg, h⟩ := pm_gd_i h
        refine hq_iastore (pm_d rk_X11_isFinite 32 rfl) rfl hg ?_
        refine pm_nm (G := fun t8 => hp_go sh_M me_X11_isFinite (d + 1) (some (.int x0)) s1 53 [(0, .ref 0), (1, .int z52_1), (2, .int z52_2), (3, .int z52_3)] [] t8) h (fun t8 h => ?_)
        refine hq_iload_n (pm_d rk_X11_isFinite 33 rfl) rfl 1 rfl ?_
        refine hq_iload_n (pm_d rk_X11_isFinite 34 rfl) rfl 3 rfl ?_
        refine pm_jn (P := fun j63 => ∀ (z63_2 : Int32) (z63_S0 : Int32) (z63_S1 : Int32) (s : hp_S), j63 z63_2 z63_S0 z63_S1 s = some (x0, s1) → hp_go sh_M me_X11_isFinite (d + 1) (some (.int x0)) s1 63 [(0, .ref 0), (2, .int z63_2)] [.int z63_S0, .int z63_S1] s) h ?_ (fun j63 hj63 h => ?_)
        · intro z63_2 z63_S0 z63_S1 s h
          dsimp only at h
          refine hq_iadd (pm_d rk_X11_isFinite 39 rfl) ?_
          refine pm_nm (G := fun x9 => hp_go sh_M me_X11_isFinite (d + 1) (some (.int x0)) s1 64 [(0, .ref 0), (2, .int z63_2)] [.int x9] s) h (fun x9 h => ?_)
          refine hq_istore_n (L1 := [(1, .int x9), (0, .ref 0), (2, .int z63_2)]) (pm_d rk_X11_isFinite 40 rfl) rfl (by decide) rfl ?_
          refine hq_iinc (v := z63_2 + (1 : Int32)) (L1 := [(2, .int (z63_2 + (1 : Int32))), (1, .int x9), (0, .ref 0)]) (pm_d rk_X11_isFinite 41 rfl) 2 rfl (by rw [show Int32.ofInt (1) = (1 : Int32) by decide]) (by decide) rfl ?_
          refine pm_nm (G := fun x10 => hp_go sh_M me_X11_isFinite (d + 1) (some (.int x0)) s1 68 [(2, .int x10), (1, .int x9), (0, .ref 0)] [] s) h (fun x10 h => ?_)
          show hp_go _ _ _ _ _ 68 _ _ _
          refine hq_goto 4 (pm_d rk_X11_isFinite 42 rfl) (by decide) ?_
          refine hq_drop [2, 1, 0] rfl ?_
          exact ih _ _ _ h
        refine hq_if_eq 62 (pm_d rk_X11_isFinite 35 rfl) (by decide) (fun hc => ?_) (fun hc => ?_)
        · rw [if_pos hc] at h
          refine hq_iconst (v := (1 : Int32)) (pm_d rk_X11_isFinite 38 rfl) (by decide) ?_
          refine hq_drop [0, 2] rfl ?_
          exact hj63 _ _ _ _ h
        rw [if_neg hc] at h
        refine hq_iconst (v := (0 : Int32)) (pm_d rk_X11_isFinite 36 rfl) (by decide) ?_
        refine hq_goto 63 (pm_d rk_X11_isFinite 37 rfl) (by decide) ?_
        refine hq_drop [0, 2] rfl ?_
        exact hj63 _ _ _ _ h
      refine hq_if_eq 51 (pm_d rk_X11_isFinite 28 rfl) (by decide) (fun hc => ?_) (fun hc => ?_)
      · rw [if_pos hc] at h
        show hp_go _ _ _ _ _ 51 _ _ _
        refine hq_iconst (v := (0 : Int32)) (pm_d rk_X11_isFinite 31 rfl) (by decide) ?_
        refine hq_drop [1, 2, 3, 0] rfl ?_
        exact hj52 _ _ _ _ _ _ h
      rw [if_neg hc] at h
      refine hq_iconst (v := (1 : Int32)) (pm_d rk_X11_isFinite 29 rfl) (by decide) ?_
      refine hq_goto 52 (pm_d rk_X11_isFinite 30 rfl) (by decide) ?_
      refine hq_drop [1, 2, 3, 0] rfl ?_
      exact hj52 _ _ _ _ _ _ h
    refine pm_jn (P := fun j32 => ∀ (z32_1 : Int32) (z32_2 : Int32) (s : hp_S), j32 z32_1 z32_2 s = some (x0, s1) → hp_go sh_M me_X11_isFinite (d + 1) (some (.int x0)) s1 32 [(0, .ref 0), (1, .int z32_1), (2, .int z32_2)] [] s) h ?_ (fun j32 hj32 h => ?_)
    · intro z32_1 z32_2 s h
      dsimp only at h
      refine hq_iconst (v := (1 : Int32)) (pm_d rk_X11_isFinite 20 rfl) (by decide) ?_
      refine hq_goto 37 (pm_d rk_X11_isFinite 21 rfl) (by decide) ?_
      refine hq_drop [0, 1, 2] rfl ?_
      exact hj37 _ _ _ _ h
    refine hq_icmp_ne 32 (pm_d rk_X11_isFinite 13 rfl) (by decide) (fun hc => ?_) (fun hc => ?_)
    · rw [if_neg hc] at h
      refine hq_drop [0, 1, 2] rfl ?_
      exact hj32 _ _ _ h
    rw [if_pos hc] at h
    show hp_go _ _ _ _ _ 22 _ _ _
    refine hq_aload_n (pm_d rk_X11_isFinite 14 rfl) rfl 0 rfl ?_
    refine hq_getR (h := 24) 34 (pm_d rk_X11_isFinite 15 rfl) fl_X11_84 rfl rfl ?_
    refine hq_iload_n (pm_d rk_X11_isFinite 16 rfl) rfl 2 rfl ?_
    obtain ⟨hg, h⟩ := pm_gd_i h
    refine hq_iaload (pm_d rk_X11_isFinite 17 rfl) rfl hg ?_
    refine hq_iconst (v := (3 : Int32)) (pm_d rk_X11_isFinite 18 rfl) (by decide) ?_
    refine hq_icmp_ge 36 (pm_d rk_X11_isFinite 19 rfl) (by decide) (fun hc => ?_) (fun hc => ?_)
    · rw [if_pos hc] at h
      show hp_go _ _ _ _ _ 36 _ _ _
      refine hq_iconst (v := (0 : Int32)) (pm_d rk_X11_isFinite 22 rfl) (by decide) ?_
      refine hq_drop [0, 1, 2] rfl ?_
      exact hj37 _ _ _ _ h
    rw [if_neg hc] at h
    refine hq_drop [0, 1, 2] rfl ?_
    exact hj32 _ _ _ h
def f_M_X11_isFinite_0 (n : Nat) (s : hp_S) : Option (Int32 × hp_S) :=
  l_M_X11_isFinite_0_4 n (0 : Int32) (0 : Int32) s
set_option maxRecDepth 100000 in
set_option maxHeartbeats 400000 in
theorem w_M_X11_isFinite_0 (d : Nat) (n : Nat) (s s1 : hp_S) (x0 : Int32) (h : f_M_X11_isFinite_0 n s = some (x0, s1)) : hp_is sh_M me_X11_isFinite (d + 1) [.ref 0] s (some (.int x0)) s1 := by
  refine hp_ofF [(0, .ref 0)] (by decide +kernel) (Nat.le_of_ble_eq_true rfl) rfl ?_
  unfold f_M_X11_isFinite_0 at h
  refine hq_iconst (v := (0 : Int32)) (pm_d rk_X11_isFinite 0 rfl) (by decide) ?_
  refine hq_istore_n (L1 := [(1, .int (0 : Int32)), (0, .ref 0)]) (pm_d rk_X11_isFinite 1 rfl) rfl (by decide) rfl ?_
  refine hq_iconst (v := (0 : Int32)) (pm_d rk_X11_isFinite 2 rfl) (by decide) ?_
  refine hq_istore_n (L1 := [(2, .int (0 : Int32)), (1, .int (0 : Int32)), (0, .ref 0)]) (pm_d rk_X11_isFinite 3 rfl) rfl (by decide) rfl ?_
  refine hq_drop [2, 1, 0] rfl ?_
  exact wl_M_X11_isFinite_0_4 d _ _   _ _ _ _ h
def f_M_X11_typeOf_0 (n : Nat) (a1 : Int32) (a2 : Int32) (s : hp_S) : Option (Int32 × hp_S) :=
  pm_gd1 (pm_ib a1 2001) (
  pm_gd1 (pm_ib a2 101) (
  pm_bd (f_M_X11_low_0 n a1 s) (fun x2 t1 =>
  some ((((hs_A s 22 a1.toNatClampNeg) + (hs_A s 16 a2.toNatClampNeg)) - x2), t1))))
set_option maxRecDepth 100000 in
set_option maxHeartbeats 400000 in
theorem w_M_X11_typeOf_0 (d : Nat) (n : Nat) (a1 : Int32) (a2 : Int32) (s s1 : hp_S) (x0 : Int32) (h : f_M_X11_typeOf_0 n a1 a2 s = some (x0, s1)) : hp_is sh_M me_X11_typeOf (d + 2) [.ref 0, .int a1, .int a2] s (some (.int x0)) s1 := by
  refine hp_ofF [(0, .ref 0), (1, .int a1), (2, .int a2)] (by decide +kernel) (Nat.le_of_ble_eq_true rfl) rfl ?_
  unfold f_M_X11_typeOf_0 at h
  refine hq_aload_n (pm_d rk_X11_typeOf 0 rfl) rfl 0 rfl ?_
  refine hq_getR (h := 22) 31 (pm_d rk_X11_typeOf 1 rfl) fl_X11_78 rfl rfl ?_
  refine hq_iload_n (pm_d rk_X11_typeOf 2 rfl) rfl 1 rfl ?_
  obtain ⟨hg, h⟩ := pm_gd_i h
  refine hq_iaload (pm_d rk_X11_typeOf 3 rfl) rfl hg ?_
  refine hq_aload_n (pm_d rk_X11_typeOf 4 rfl) rfl 0 rfl ?_
  show hp_go _ _ _ _ _ 7 _ _ _
  refine hq_getR (h := 16) 24 (pm_d rk_X11_typeOf 5 rfl) fl_X11_60 rfl rfl ?_
  refine hq_iload_n (pm_d rk_X11_typeOf 6 rfl) rfl 2 rfl ?_
  obtain ⟨hg, h⟩ := pm_gd_i h
  refine hq_iaload (pm_d rk_X11_typeOf 7 rfl) rfl hg ?_
  refine hq_iadd (pm_d rk_X11_typeOf 8 rfl) ?_
  refine hq_aload_n (pm_d rk_X11_typeOf 9 rfl) rfl 0 rfl ?_
  refine hq_iload_n (pm_d rk_X11_typeOf 10 rfl) rfl 1 rfl ?_
  show hp_go _ _ _ _ _ 15 _ _ _
  obtain ⟨x2, t1, hq, h⟩ := pm_bd_i h
  have hM := w_M_X11_low_0 (d := d + 0) (h := hq)
  refine hq_callVi (a := 0) (ci := 11) [.int a1] [.int ((hs_A s 22 a1.toNatClampNeg) + (hs_A s 16 a2.toNatClampNeg))] (pm_d rk_X11_typeOf 11 rfl) ml_X11_247 iv_X11_low rfl rfl rfl rfl rfl (Nat.le_of_ble_eq_true rfl) hM ?_
  refine hq_isub (pm_d rk_X11_typeOf 12 rfl) ?_
  exact hq_iret (pm_d rk_X11_typeOf 13 rfl) rfl h
def l_M_X11_same_0_19 : Nat → hp_S → Option hp_S
  | 0, _ => none
  | n + 1, s =>
    if (hs_I s 0 40) ≤ 0 then
      some s
    else
      if (hs_I s 0 41) = 0 then
        pm_let (hs_pI s 0 40 ((hs_I s 0 40) - (1 : Int32))) (fun t4 =>
        pm_gd1 (pm_ib (hs_I t4 0 40) 20000) (
        pm_bd (f_M_X11_root_0 n (hs_A t4 27 (hs_I t4 0 40).toNatClampNeg) t4) (fun x6 t5 =>
        pm_gd1 (pm_ib (hs_I t5 0 40) 20000) (
        pm_bd (f_M_X11_root_0 n (hs_A t5 28 (hs_I t5 0 40).toNatClampNeg) t5) (fun x8 t7 =>
        if x6 = x8 then
          l_M_X11_same_0_19 n  t7
        else
          pm_gd1 (pm_ib x6 10200) (
          pm_let (fun (s : hp_S) =>
            l_M_X11_same_0_19 n  s) (fun j243 =>
          if (hs_A t7 24 x6.toNatClampNeg) = 0 then
            pm_gd1 (pm_ib x6 10200) (
            pm_let (hs_pA t7 23 x6.toNatClampNeg x8) (fun t17 =>
            j243  t17))
          else
            pm_gd1 (pm_ib x8 10200) (
            if (hs_A t7 24 x8.toNatClampNeg) = 0 then
              pm_gd1 (pm_ib x8 10200) (
              pm_let (hs_pA t7 23 x8.toNatClampNeg x6) (fun t16 =>
              j243  t16))
            else
              pm_gd1 (pm_ib x6 10200) (
              pm_gd1 (pm_ib x8 10200) (
              if (hs_A t7 24 x6.toNatClampNeg) = (hs_A t7 24 x8.toNatClampNeg) then
                pm_gd1 (pm_ib x6 10200) (
                pm_let (hs_pA t7 23 x6.toNatClampNeg x8) (fun t9 =>
                pm_gd1 (pm_ib x6 10200) (
                if (3 : Int32) ≤ (hs_A t9 24 x6.toNatClampNeg) then
                  pm_gd1 (pm_ib x6 10200) (
                  pm_gd1 (pm_ib (hs_I t9 0 40) 20000) (
                  pm_let (hs_pA t9 27 (hs_I t9 0 40).toNatClampNeg (hs_A t9 25 x6.toNatClampNeg)) (fun t10 =>
                  pm_gd1 (pm_ib x8 10200) (
                  pm_gd1 (pm_ib (hs_I t10 0 40) 20000) (
                  pm_let (hs_pA t10 28 (hs_I t10 0 40).toNatClampNeg (hs_A t10 25 x8.toNatClampNeg)) (fun t11 =>
                  pm_gd1 (pm_ib x6 10200) (
                  pm_gd1 (pm_ib ((hs_I t11 0 40) + (1 : Int32)) 20000) (
                  pm_let (hs_pA t11 27 ((hs_I t11 0 40) + (1 : Int32)).toNatClampNeg (hs_A t11 26 x6.toNatClampNeg)) (fun t12 =>
                  pm_gd1 (pm_ib x8 10200) (
                  pm_gd1 (pm_ib ((hs_I t12 0 40) + (1 : Int32)) 20000) (
                  pm_let (hs_pA t12 28 ((hs_I t12 0 40) + (1 : Int32)).toNatClampNeg (hs_A t12 26 x8.toNatClampNeg)) (fun t13 =>
                  pm_let (hs_pI t13 0 40 ((hs_I t13 0 40) + (2 : Int32))) (fun t14 =>
                  j243  t14)))))))))))))
                else
                  l_M_X11_same_0_19 n  t9)))
              else
                pm_let (hs_pI t7 0 41 (1 : Int32)) (fun t15 =>
                j243  t15)))))))))))
      else
        some s
set_option maxRecDepth 100000 in
set_option maxHeartbeats 400000 in
theorem wl_M_X11_same_0_19 (d : Nat) (s1 : hp_S)  : ∀ (n : Nat) (s : hp_S), l_M_X11_same_0_19 n  s = some s1 → hp_go sh_M me_X11_same (d + 1) none s1 19 [(0, .ref 0)] [] s := by
  intro n
  induction n with
  | zero =>
    intro  s h
    cases h
  | succ n ih =>
    intro  s h
    rw [l_M_X11_same_0_19.eq_2] at h
    refine hq_aload_n (pm_d rk_X11_same 13 rfl) rfl 0 rfl ?_
    refine hq_getI 40 (pm_d rk_X11_same 14 rfl) fl_X11_268 rfl rfl ?_
    refine hq_if_le 246 (pm_d rk_X11_same 15 rfl) (by decide) (fun hc => ?_) (fun hc => ?_)
    · rw [if_pos hc] at h
      exact hq_vret (pm_d rk_X11_same 139 rfl) rfl h
    rw [if_neg hc] at h
    show hp_go _ _ _ _ _ 26 _ _ _
    refine hq_aload_n (pm_d rk_X11_same 16 rfl) rfl 0 rfl ?_
    refine hq_getI 41 (pm_d rk_X11_same 17 rfl) fl_X11_271 rfl rfl ?_
    refine hq_if_ne 246 (pm_d rk_X11_same 18 rfl) (by decide) (fun hc => ?_) (fun hc => ?_)
    · rw [if_neg hc] at h
      exact hq_vret (pm_d rk_X11_same 139 rfl) rfl h
    rw [if_pos hc] at h
    refine hq_aload_n (pm_d rk_X11_same 19 rfl) rfl 0 rfl ?_
    refine hq_dup (pm_d rk_X11_same 20 rfl) rfl ?_
    show hp_go _ _ _ _ _ 35 _ _ _
    refine hq_getI 40 (pm_d rk_X11_same 21 rfl) fl_X11_268 rfl rfl ?_
    refine hq_iconst (v := (1 : Int32)) (pm_d rk_X11_same 22 rfl) (by decide) ?_
    refine hq_isub (pm_d rk_X11_same 23 rfl) ?_
    refine hq_putI 40 (pm_d rk_X11_same 24 rfl) fl_X11_268 rfl rfl ?_
    refine pm_nm (G := fun t4 => hp_go sh_M me_X11_same (d + 1) none s1 43 [(0, .ref 0)] [] t4) h (fun t4 h => ?_)
    refine hq_aload_n (pm_d rk_X11_same 25 rfl) rfl 0 rfl ?_
    refine hq_aload_n (pm_d rk_X11_same 26 rfl) rfl 0 rfl ?_
    show hp_go _ _ _ _ _ 45 _ _ _
    refine hq_getR (h := 27) 38 (pm_d rk_X11_same 27 rfl) fl_X11_93 rfl rfl ?_
    refine hq_aload_n (pm_d rk_X11_same 28 rfl) rfl 0 rfl ?_
    refine hq_getI 40 (pm_d rk_X11_same 29 rfl) fl_X11_268 rfl rfl ?_
    obtain ⟨hg, h⟩ := pm_gd_i h
    refine hq_iaload (pm_d rk_X11_same 30 rfl) rfl hg ?_
    obtain ⟨x6, t5, hq, h⟩ := pm_bd_i h
    have hM := w_M_X11_root_0 (d := d + 0) (h := hq)
    refine hq_callVi (a := 0) (ci := 11) [.int (hs_A t4 27 (hs_I t4 0 40).toNatClampNeg)] [] (pm_d rk_X11_same 31 rfl) ml_X11_274 iv_X11_root rfl rfl rfl rfl rfl (Nat.le_of_ble_eq_true rfl) hM ?_
    refine hq_istore_n (L1 := [(3, .int x6), (0, .ref 0)]) (pm_d rk_X11_same 32 rfl) rfl (by decide) rfl ?_
    show hp_go _ _ _ _ _ 57 _ _ _
    refine hq_aload_n (pm_d rk_X11_same 33 rfl) rfl 1 rfl ?_
    refine hq_aload_n (pm_d rk_X11_same 34 rfl) rfl 1 rfl ?_
    refine hq_getR (h := 28) 39 (pm_d rk_X11_same 35 rfl) fl_X11_96 rfl rfl ?_
    refine hq_aload_n (pm_d rk_X11_same 36 rfl) rfl 1 rfl ?_
    refine hq_getI 40 (pm_d rk_X11_same 37 rfl) fl_X11_268 rfl rfl ?_
    obtain ⟨hg, h⟩ := pm_gd_i h
    refine hq_iaload (pm_d rk_X11_same 38 rfl) rfl hg ?_
    show hp_go _ _ _ _ _ 67 _ _ _
    obtain ⟨x8, t7, hq, h⟩ := pm_bd_i h
    have hM := w_M_X11_root_0 (d := d + 0) (h := hq)
    refine hq_callVi (a := 0) (ci := 11) [.int (hs_A t5 28 (hs_I t5 0 40).toNatClampNeg)] [] (pm_d rk_X11_same 39 rfl) ml_X11_274 iv_X11_root rfl rfl rfl rfl rfl (Nat.le_of_ble_eq_true rfl) hM ?_
    refine hq_istore (L1 := [(4, .int x8), (3, .int x6), (0, .ref 0)]) (pm_d rk_X11_same 40 rfl) (by decide) rfl ?_
    refine hq_iload_n (pm_d rk_X11_same 41 rfl) rfl 1 rfl ?_
    refine hq_iload (pm_d rk_X11_same 42 rfl) 0 rfl ?_
    refine hq_icmp_ne 81 (pm_d rk_X11_same 43 rfl) (by decide) (fun hc => ?_) (fun hc => ?_)
    · rw [if_neg hc] at h
      refine hq_aload_n (pm_d rk_X11_same 45 rfl) rfl 2 rfl ?_
      show hp_go _ _ _ _ _ 82 _ _ _
      refine hq_getR (h := 24) 34 (pm_d rk_X11_same 46 rfl) fl_X11_84 rfl rfl ?_
      refine hq_iload_n (pm_d rk_X11_same 47 rfl) rfl 1 rfl ?_
      obtain ⟨hg, h⟩ := pm_gd_i h
      refine hq_iaload (pm_d rk_X11_same 48 rfl) rfl hg ?_
      refine pm_jn (P := fun j243 => ∀ (s : hp_S), j243  s = some s1 → hp_go sh_M me_X11_same (d + 1) none s1 243 [(0, .ref 0)] [] s) h ?_ (fun j243 hj243 h => ?_)
      · intro  s h
        dsimp only at h
        refine hq_goto 19 (pm_d rk_X11_same 138 rfl) (by decide) ?_
        refine hq_drop [0] rfl ?_
        exact ih  _ h
      refine hq_if_ne 101 (pm_d rk_X11_same 49 rfl) (by decide) (fun hc => ?_) (fun hc => ?_)
      · rw [if_neg hc] at h
        refine hq_aload_n (pm_d rk_X11_same 56 rfl) rfl 2 rfl ?_
        show hp_go _ _ _ _ _ 102 _ _ _
        refine hq_getR (h := 24) 34 (pm_d rk_X11_same 57 rfl) fl_X11_84 rfl rfl ?_
        refine hq_iload (pm_d rk_X11_same 58 rfl) 0 rfl ?_
        obtain ⟨hg, h⟩ := pm_gd_i h
        refine hq_iaload (pm_d rk_X11_same 59 rfl) rfl hg ?_
        refine hq_if_ne 122 (pm_d rk_X11_same 60 rfl) (by decide) (fun hc => ?_) (fun hc => ?_)
        · rw [if_neg hc] at h
          refine hq_aload_n (pm_d rk_X11_same 67 rfl) rfl 2 rfl ?_
          refine hq_getR (h := 24) 34 (pm_d rk_X11_same 68 rfl) fl_X11_84 rfl rfl ?_
          show hp_go _ _ _ _ _ 126 _ _ _
          refine hq_iload_n (pm_d rk_X11_same 69 rfl) rfl 1 rfl ?_
          obtain ⟨hg, h⟩ := pm_gd_i h
          refine hq_iaload (pm_d rk_X11_same 70 rfl) rfl hg ?_
          refine hq_aload_n (pm_d rk_X11_same 71 rfl) rfl 2 rfl ?_
          refine hq_getR (h := 24) 34 (pm_d rk_X11_same 72 rfl) fl_X11_84 rfl rfl ?_
          refine hq_iload (pm_d rk_X11_same 73 rfl) 0 rfl ?_
          obtain ⟨hg, h⟩ := pm_gd_i h
          refine hq_iaload (pm_d rk_X11_same 74 rfl) rfl hg ?_
          show hp_go _ _ _ _ _ 135 _ _ _
          refine hq_icmp_eq 146 (pm_d rk_X11_same 75 rfl) (by decide) (fun hc => ?_) (fun hc => ?_)
          · rw [if_pos hc] at h
            refine hq_aload_n (pm_d rk_X11_same 80 rfl) rfl 2 rfl ?_
            refine hq_getR (h := 23) 33 (pm_d rk_X11_same 81 rfl) fl_X11_81 rfl rfl ?_
            refine hq_iload_n (pm_d rk_X11_same 82 rfl) rfl 1 rfl ?_
            refine hq_iload (pm_d rk_X11_same 83 rfl) 0 rfl ?_
            obtain ⟨hg, h⟩ := pm_gd_i h
            refine hq_iastore (pm_d rk_X11_same 84 rfl) rfl hg ?_
            refine pm_nm (G := fun t9 => hp_go sh_M me_X11_same (d + 1) none s1 154 [(4, .int x8), (3, .int x6), (0, .ref 0)] [] t9) h (fun t9 h => ?_)
            show hp_go _ _ _ _ _ 154 _ _ _
            refine hq_aload_n (pm_d rk_X11_same 85 rfl) rfl 2 rfl ?_
            refine hq_getR (h := 24) 34 (pm_d rk_X11_same 86 rfl) fl_X11_84 rfl rfl ?_
            refine hq_iload_n (pm_d rk_X11_same 87 rfl) rfl 1 rfl ?_
            obtain ⟨hg, h⟩ := pm_gd_i h
            refine hq_iaload (pm_d rk_X11_same 88 rfl) rfl hg ?_
            refine hq_iconst (v := (3 : Int32)) (pm_d rk_X11_same 89 rfl) (by decide) ?_
            refine hq_icmp_ge 167 (pm_d rk_X11_same 90 rfl) (by decide) (fun hc => ?_) (fun hc => ?_)
            · rw [if_pos hc] at h
              show hp_go _ _ _ _ _ 167 _ _ _
              refine hq_aload_n (pm_d rk_X11_same 92 rfl) rfl 2 rfl ?_
              refine hq_getR (h := 27) 38 (pm_d rk_X11_same 93 rfl) fl_X11_93 rfl rfl ?_
              refine hq_aload_n (pm_d rk_X11_same 94 rfl) rfl 2 rfl ?_
              refine hq_getI 40 (pm_d rk_X11_same 95 rfl) fl_X11_268 rfl rfl ?_
              refine hq_aload_n (pm_d rk_X11_same 96 rfl) rfl 2 rfl ?_
              refine hq_getR (h := 25) 35 (pm_d rk_X11_same 97 rfl) fl_X11_87 rfl rfl ?_
              show hp_go _ _ _ _ _ 179 _ _ _
              refine hq_iload_n (pm_d rk_X11_same 98 rfl) rfl 1 rfl ?_
              obtain ⟨hg, h⟩ := pm_gd_i h
              refine hq_iaload (pm_d rk_X11_same 99 rfl) rfl hg ?_
              obtain ⟨hg, h⟩ := pm_gd_i h
              refine hq_iastore (pm_d rk_X11_same 100 rfl) rfl hg ?_
              refine pm_nm (G := fun t10 => hp_go sh_M me_X11_same (d + 1) none s1 182 [(4, .int x8), (3, .int x6), (0, .ref 0)] [] t10) h (fun t10 h => ?_)
              refine hq_aload_n (pm_d rk_X11_same 101 rfl) rfl 2 rfl ?_
              refine hq_getR (h := 28) 39 (pm_d rk_X11_same 102 rfl) fl_X11_96 rfl rfl ?_
              refine hq_aload_n (pm_d rk_X11_same 103 rfl) rfl 2 rfl ?_
              show hp_go _ _ _ _ _ 187 _ _ _
              refine hq_getI 40 (pm_d rk_X11_same 104 rfl) fl_X11_268 rfl rfl ?_
              refine hq_aload_n (pm_d rk_X11_same 105 rfl) rfl 2 rfl ?_
              refine hq_getR (h := 25) 35 (pm_d rk_X11_same 106 rfl) fl_X11_87 rfl rfl ?_
              refine hq_iload (pm_d rk_X11_same 107 rfl) 0 rfl ?_
              obtain ⟨hg, h⟩ := pm_gd_i h
              refine hq_iaload (pm_d rk_X11_same 108 rfl) rfl hg ?_
              obtain ⟨hg, h⟩ := pm_gd_i h
              refine hq_iastore (pm_d rk_X11_same 109 rfl) rfl hg ?_
              refine pm_nm (G := fun t11 => hp_go sh_M me_X11_same (d + 1) none s1 198 [(4, .int x8), (3, .int x6), (0, .ref 0)] [] t11) h (fun t11 h => ?_)
              show hp_go _ _ _ _ _ 198 _ _ _
              refine hq_aload_n (pm_d rk_X11_same 110 rfl) rfl 2 rfl ?_
              refine hq_getR (h := 27) 38 (pm_d rk_X11_same 111 rfl) fl_X11_93 rfl rfl ?_
              refine hq_aload_n (pm_d rk_X11_same 112 rfl) rfl 2 rfl ?_
              refine hq_getI 40 (pm_d rk_X11_same 113 rfl) fl_X11_268 rfl rfl ?_
              refine hq_iconst (v := (1 : Int32)) (pm_d rk_X11_same 114 rfl) (by decide) ?_
              refine hq_iadd (pm_d rk_X11_same 115 rfl) ?_
              show hp_go _ _ _ _ _ 208 _ _ _
              refine hq_aload_n (pm_d rk_X11_same 116 rfl) rfl 2 rfl ?_
              refine hq_getR (h := 26) 36 (pm_d rk_X11_same 117 rfl) fl_X11_90 rfl rfl ?_
              refine hq_iload_n (pm_d rk_X11_same 118 rfl) rfl 1 rfl ?_
              obtain ⟨hg, h⟩ := pm_gd_i h
              refine hq_iaload (pm_d rk_X11_same 119 rfl) rfl hg ?_
              obtain ⟨hg, h⟩ := pm_gd_i h
              refine hq_iastore (pm_d rk_X11_same 120 rfl) rfl hg ?_
              refine pm_nm (G := fun t12 => hp_go sh_M me_X11_same (d + 1) none s1 215 [(4, .int x8), (3, .int x6), (0, .ref 0)] [] t12) h (fun t12 h => ?_)
              refine hq_aload_n (pm_d rk_X11_same 121 rfl) rfl 2 rfl ?_
              show hp_go _ _ _ _ _ 216 _ _ _
              refine hq_getR (h := 28) 39 (pm_d rk_X11_same 122 rfl) fl_X11_96 rfl rfl ?_
              refine hq_aload_n (pm_d rk_X11_same 123 rfl) rfl 2 rfl ?_
              refine hq_getI 40 (pm_d rk_X11_same 124 rfl) fl_X11_268 rfl rfl ?_
              refine hq_iconst (v := (1 : Int32)) (pm_d rk_X11_same 125 rfl) (by decide) ?_
              refine hq_iadd (pm_d rk_X11_same 126 rfl) ?_
              refine hq_aload_n (pm_d rk_X11_same 127 rfl) rfl 2 rfl ?_
              show hp_go _ _ _ _ _ 226 _ _ _
              refine hq_getR (h := 26) 36 (pm_d rk_X11_same 128 rfl) fl_X11_90 rfl rfl ?_
              refine hq_iload (pm_d rk_X11_same 129 rfl) 0 rfl ?_
              obtain ⟨hg, h⟩ := pm_gd_i h
              refine hq_iaload (pm_d rk_X11_same 130 rfl) rfl hg ?_
              obtain ⟨hg, h⟩ := pm_gd_i h
              refine hq_iastore (pm_d rk_X11_same 131 rfl) rfl hg ?_
              refine pm_nm (G := fun t13 => hp_go sh_M me_X11_same (d + 1) none s1 233 [(4, .int x8), (3, .int x6), (0, .ref 0)] [] t13) h (fun t13 h => ?_)
              refine hq_aload_n (pm_d rk_X11_same 132 rfl) rfl 2 rfl ?_
              refine hq_dup (pm_d rk_X11_same 133 rfl) rfl ?_
              show hp_go _ _ _ _ _ 235 _ _ _
              refine hq_getI 40 (pm_d rk_X11_same 134 rfl) fl_X11_268 rfl rfl ?_
              refine hq_iconst (v := (2 : Int32)) (pm_d rk_X11_same 135 rfl) (by decide) ?_
              refine hq_iadd (pm_d rk_X11_same 136 rfl) ?_
              refine hq_putI 40 (pm_d rk_X11_same 137 rfl) fl_X11_268 rfl rfl ?_
              refine pm_nm (G := fun t14 => hp_go sh_M me_X11_same (d + 1) none s1 243 [(4, .int x8), (3, .int x6), (0, .ref 0)] [] t14) h (fun t14 h => ?_)
              refine hq_drop [2] rfl ?_
              exact hj243  _ h
            rw [if_neg hc] at h
            refine hq_goto 19 (pm_d rk_X11_same 91 rfl) (by decide) ?_
            refine hq_drop [2] rfl ?_
            exact ih  _ h
          rw [if_neg hc] at h
          refine hq_aload_n (pm_d rk_X11_same 76 rfl) rfl 2 rfl ?_
          show hp_go _ _ _ _ _ 139 _ _ _
          refine hq_iconst (v := (1 : Int32)) (pm_d rk_X11_same 77 rfl) (by decide) ?_
          refine hq_putZ 41 (pm_d rk_X11_same 78 rfl) fl_X11_271 rfl rfl rfl rfl ?_
          refine pm_nm (G := fun t15 => hp_go sh_M me_X11_same (d + 1) none s1 143 [(4, .int x8), (3, .int x6), (0, .ref 0)] [] t15) h (fun t15 h => ?_)
          refine hq_goto 243 (pm_d rk_X11_same 79 rfl) (by decide) ?_
          refine hq_drop [2] rfl ?_
          exact hj243  _ h
        rw [if_pos hc] at h
        refine hq_aload_n (pm_d rk_X11_same 61 rfl) rfl 2 rfl ?_
        refine hq_getR (h := 23) 33 (pm_d rk_X11_same 62 rfl) fl_X11_81 rfl rfl ?_
        refine hq_iload (pm_d rk_X11_same 63 rfl) 0 rfl ?_
        show hp_go _ _ _ _ _ 117 _ _ _
        refine hq_iload_n (pm_d rk_X11_same 64 rfl) rfl 1 rfl ?_
        obtain ⟨hg, h⟩ := pm_gd_i h
        refine hq_iastore (pm_d rk_X11_same 65 rfl) rfl hg ?_
        refine pm_nm (G := fun t16 => hp_go sh_M me_X11_same (d + 1) none s1 119 [(4, .int x8), (3, .int x6), (0, .ref 0)] [] t16) h (fun t16 h => ?_)
        refine hq_goto 243 (pm_d rk_X11_same 66 rfl) (by decide) ?_
        refine hq_drop [2] rfl ?_
        exact hj243  _ h
      rw [if_pos hc] at h
      refine hq_aload_n (pm_d rk_X11_same 50 rfl) rfl 2 rfl ?_
      refine hq_getR (h := 23) 33 (pm_d rk_X11_same 51 rfl) fl_X11_81 rfl rfl ?_
      refine hq_iload_n (pm_d rk_X11_same 52 rfl) rfl 1 rfl ?_
      show hp_go _ _ _ _ _ 95 _ _ _
      refine hq_iload (pm_d rk_X11_same 53 rfl) 0 rfl ?_
      obtain ⟨hg, h⟩ := pm_gd_i h
      refine hq_iastore (pm_d rk_X11_same 54 rfl) rfl hg ?_
      refine pm_nm (G := fun t17 => hp_go sh_M me_X11_same (d + 1) none s1 98 [(4, .int x8), (3, .int x6), (0, .ref 0)] [] t17) h (fun t17 h => ?_)
      refine hq_goto 243 (pm_d rk_X11_same 55 rfl) (by decide) ?_
      refine hq_drop [2] rfl ?_
      exact hj243  _ h
    rw [if_pos hc] at h
    refine hq_goto 19 (pm_d rk_X11_same 44 rfl) (by decide) ?_
    refine hq_drop [2] rfl ?_
    exact ih  _ h
def f_M_X11_same_0 (n : Nat) (a1 : Int32) (a2 : Int32) (s : hp_S) : Option hp_S :=
  pm_gd1 (pm_ib (0 : Int32) 20000) (
  pm_let (hs_pA s 27 (0 : Int32).toNatClampNeg a1) (fun t1 =>
  pm_gd1 (pm_ib (0 : Int32) 20000) (
  pm_let (hs_pA t1 28 (0 : Int32).toNatClampNeg a2) (fun t2 =>
  pm_let (hs_pI t2 0 40 (1 : Int32)) (fun t3 =>
  l_M_X11_same_0_19 n  t3)))))
set_option maxRecDepth 100000 in
set_option maxHeartbeats 400000 in
theorem w_M_X11_same_0 (d : Nat) (n : Nat) (a1 : Int32) (a2 : Int32) (s s1 : hp_S) (h : f_M_X11_same_0 n a1 a2 s = some s1) : hp_is sh_M me_X11_same (d + 1) [.ref 0, .int a1, .int a2] s none s1 := by
  refine hp_ofF [(0, .ref 0), (1, .int a1), (2, .int a2)] (by decide +kernel) (Nat.le_of_ble_eq_true rfl) rfl ?_
  unfold f_M_X11_same_0 at h
  refine hq_aload_n (pm_d rk_X11_same 0 rfl) rfl 0 rfl ?_
  refine hq_getR (h := 27) 38 (pm_d rk_X11_same 1 rfl) fl_X11_93 rfl rfl ?_
  refine hq_iconst (v := (0 : Int32)) (pm_d rk_X11_same 2 rfl) (by decide) ?_
  refine hq_iload_n (pm_d rk_X11_same 3 rfl) rfl 1 rfl ?_
  obtain ⟨hg, h⟩ := pm_gd_i h
  refine hq_iastore (pm_d rk_X11_same 4 rfl) rfl hg ?_
  refine pm_nm (G := fun t1 => hp_go sh_M me_X11_same (d + 1) none s1 7 [(0, .ref 0), (1, .int a1), (2, .int a2)] [] t1) h (fun t1 h => ?_)
  show hp_go _ _ _ _ _ 7 _ _ _
  refine hq_aload_n (pm_d rk_X11_same 5 rfl) rfl 0 rfl ?_
  refine hq_getR (h := 28) 39 (pm_d rk_X11_same 6 rfl) fl_X11_96 rfl rfl ?_
  refine hq_iconst (v := (0 : Int32)) (pm_d rk_X11_same 7 rfl) (by decide) ?_
  refine hq_iload_n (pm_d rk_X11_same 8 rfl) rfl 2 rfl ?_
  obtain ⟨hg, h⟩ := pm_gd_i h
  refine hq_iastore (pm_d rk_X11_same 9 rfl) rfl hg ?_
  refine pm_nm (G := fun t2 => hp_go sh_M me_X11_same (d + 1) none s1 14 [(0, .ref 0), (1, .int a1), (2, .int a2)] [] t2) h (fun t2 h => ?_)
  refine hq_aload_n (pm_d rk_X11_same 10 rfl) rfl 0 rfl ?_
  show hp_go _ _ _ _ _ 15 _ _ _
  refine hq_iconst (v := (1 : Int32)) (pm_d rk_X11_same 11 rfl) (by decide) ?_
  refine hq_putI 40 (pm_d rk_X11_same 12 rfl) fl_X11_268 rfl rfl ?_
  refine pm_nm (G := fun t3 => hp_go sh_M me_X11_same (d + 1) none s1 19 [(0, .ref 0), (1, .int a1), (2, .int a2)] [] t3) h (fun t3 h => ?_)
  refine hq_drop [0] rfl ?_
  exact wl_M_X11_same_0_19 d _   _  _ h
def f_M_X11_nameOf_0 (n : Nat) (a1 : Int32) (a2 : Int32) (s : hp_S) : Option (Int32 × hp_S) :=
  pm_gd1 (pm_ib a1 2001) (
  pm_bd (f_M_X11_high_0 n a1 s) (fun x2 t1 =>
  pm_bd (f_M_X11_low_0 n a1 t1) (fun x4 t3 =>
  pm_gd1 (pm_ib a2 101) (
  pm_gd1 (pm_ib (hs_A t3 16 a2.toNatClampNeg) 102) (
  pm_bd (f_M_X11_low_0 n a1 t3) (fun x6 t5 =>
  pm_gd1 (pm_ib x6 102) (
  some ((((((hs_A s 22 a1.toNatClampNeg) + x2) - x4) + (hs_A t3 18 (hs_A t3 16 a2.toNatClampNeg).toNatClampNeg)) - (hs_A t5 18 x6.toNatClampNeg)), t5))))))))
set_option maxRecDepth 100000 in
set_option maxHeartbeats 400000 in
theorem w_M_X11_nameOf_0 (d : Nat) (n : Nat) (a1 : Int32) (a2 : Int32) (s s1 : hp_S) (x0 : Int32) (h : f_M_X11_nameOf_0 n a1 a2 s = some (x0, s1)) : hp_is sh_M me_X11_nameOf (d + 2) [.ref 0, .int a1, .int a2] s (some (.int x0)) s1 := by
  refine hp_ofF [(0, .ref 0), (1, .int a1), (2, .int a2)] (by decide +kernel) (Nat.le_of_ble_eq_true rfl) rfl ?_
  unfold f_M_X11_nameOf_0 at h
  refine hq_aload_n (pm_d rk_X11_nameOf 0 rfl) rfl 0 rfl ?_
  refine hq_getR (h := 22) 31 (pm_d rk_X11_nameOf 1 rfl) fl_X11_78 rfl rfl ?_
  refine hq_iload_n (pm_d rk_X11_nameOf 2 rfl) rfl 1 rfl ?_
  obtain ⟨hg, h⟩ := pm_gd_i h
  refine hq_iaload (pm_d rk_X11_nameOf 3 rfl) rfl hg ?_
  refine hq_aload_n (pm_d rk_X11_nameOf 4 rfl) rfl 0 rfl ?_
  show hp_go _ _ _ _ _ 7 _ _ _
  refine hq_iload_n (pm_d rk_X11_nameOf 5 rfl) rfl 1 rfl ?_
  obtain ⟨x2, t1, hq, h⟩ := pm_bd_i h
  have hM := w_M_X11_high_0 (d := d + 0) (h := hq)
  refine hq_callVi (a := 0) (ci := 11) [.int a1] [.int (hs_A s 22 a1.toNatClampNeg)] (pm_d rk_X11_nameOf 6 rfl) ml_X11_250 iv_X11_high rfl rfl rfl rfl rfl (Nat.le_of_ble_eq_true rfl) hM ?_
  refine hq_iadd (pm_d rk_X11_nameOf 7 rfl) ?_
  refine hq_aload_n (pm_d rk_X11_nameOf 8 rfl) rfl 0 rfl ?_
  refine hq_iload_n (pm_d rk_X11_nameOf 9 rfl) rfl 1 rfl ?_
  obtain ⟨x4, t3, hq, h⟩ := pm_bd_i h
  have hM := w_M_X11_low_0 (d := d + 0) (h := hq)
  refine hq_callVi (a := 0) (ci := 11) [.int a1] [.int ((hs_A s 22 a1.toNatClampNeg) + x2)] (pm_d rk_X11_nameOf 10 rfl) ml_X11_247 iv_X11_low rfl rfl rfl rfl rfl (Nat.le_of_ble_eq_true rfl) hM ?_
  show hp_go _ _ _ _ _ 17 _ _ _
  refine hq_isub (pm_d rk_X11_nameOf 11 rfl) ?_
  refine hq_aload_n (pm_d rk_X11_nameOf 12 rfl) rfl 0 rfl ?_
  refine hq_getR (h := 18) 26 (pm_d rk_X11_nameOf 13 rfl) fl_X11_66 rfl rfl ?_
  refine hq_aload_n (pm_d rk_X11_nameOf 14 rfl) rfl 0 rfl ?_
  refine hq_getR (h := 16) 24 (pm_d rk_X11_nameOf 15 rfl) fl_X11_60 rfl rfl ?_
  refine hq_iload_n (pm_d rk_X11_nameOf 16 rfl) rfl 2 rfl ?_
  show hp_go _ _ _ _ _ 27 _ _ _
  obtain ⟨hg, h⟩ := pm_gd_i h
  refine hq_iaload (pm_d rk_X11_nameOf 17 rfl) rfl hg ?_
  obtain ⟨hg, h⟩ := pm_gd_i h
  refine hq_iaload (pm_d rk_X11_nameOf 18 rfl) rfl hg ?_
  refine hq_iadd (pm_d rk_X11_nameOf 19 rfl) ?_
  refine hq_aload_n (pm_d rk_X11_nameOf 20 rfl) rfl 0 rfl ?_
  refine hq_getR (h := 18) 26 (pm_d rk_X11_nameOf 21 rfl) fl_X11_66 rfl rfl ?_
  refine hq_aload_n (pm_d rk_X11_nameOf 22 rfl) rfl 0 rfl ?_
  show hp_go _ _ _ _ _ 35 _ _ _
  refine hq_iload_n (pm_d rk_X11_nameOf 23 rfl) rfl 1 rfl ?_
  obtain ⟨x6, t5, hq, h⟩ := pm_bd_i h
  have hM := w_M_X11_low_0 (d := d + 0) (h := hq)
  refine hq_callVi (a := 0) (ci := 11) [.int a1] [.ref 18, .int ((((hs_A s 22 a1.toNatClampNeg) + x2) - x4) + (hs_A t3 18 (hs_A t3 16 a2.toNatClampNeg).toNatClampNeg))] (pm_d rk_X11_nameOf 24 rfl) ml_X11_247 iv_X11_low rfl rfl rfl rfl rfl (Nat.le_of_ble_eq_true rfl) hM ?_
  obtain ⟨hg, h⟩ := pm_gd_i h
  refine hq_iaload (pm_d rk_X11_nameOf 25 rfl) rfl hg ?_
  refine hq_isub (pm_d rk_X11_nameOf 26 rfl) ?_
  exact hq_iret (pm_d rk_X11_nameOf 27 rfl) rfl h
def f_M_X11_ask_0 (n : Nat) (a1 : Int32) (a2 : Int32) (a3 : Int32) (s : hp_S) : Option hp_S :=
  pm_bd (f_M_X11_typeOf_0 n a1 a2 s) (fun x2 t1 =>
  pm_gd1 (pm_ib a2 101) (
  pm_let (hs_A t1 6 a2.toNatClampNeg) (fun x3 =>
  if x3 = (2 : Int32) then
    pm_b1 (f_M_X11_same_0 n x2 (hs_I t1 0 57) t1) (fun t4 =>
    some t4)
  else
  if x3 = (3 : Int32) then
    pm_bd (f_M_X11_nameOf_0 n a1 a2 t1) (fun x6 t5 =>
    pm_gd1 (pm_ib a2 101) (
    pm_bd (f_M_X11_typeOf_0 n a1 (hs_A t5 7 a2.toNatClampNeg) t5) (fun x8 t7 =>
    pm_bd (f_M_X11_fresh_0 (3 : Int32) x6 x8 t7) (fun x10 t9 =>
    pm_b1 (f_M_X11_same_0 n x2 x10 t9) (fun t11 =>
    some t11)))))
  else
  if x3 = (4 : Int32) then
    pm_gd1 (pm_ib a2 101) (
    pm_bd (f_M_X11_typeOf_0 n a1 (hs_A t1 8 a2.toNatClampNeg) t1) (fun x13 t12 =>
    pm_b1 (f_M_X11_same_0 n x2 x13 t12) (fun t14 =>
    some t14)))
  else
  if x3 = (5 : Int32) then
    pm_gd1 (pm_ib a2 101) (
    pm_bd (f_M_X11_typeOf_0 n a1 (hs_A t1 7 a2.toNatClampNeg) t1) (fun x16 t15 =>
    pm_gd1 (pm_ib a2 101) (
    pm_bd (f_M_X11_typeOf_0 n a1 (hs_A t15 8 a2.toNatClampNeg) t15) (fun x18 t17 =>
    pm_bd (f_M_X11_fresh_0 (4 : Int32) x16 x18 t17) (fun x20 t19 =>
    pm_b1 (f_M_X11_same_0 n x2 x20 t19) (fun t21 =>
    some t21))))))
  else
  if x3 = (6 : Int32) then
    pm_gd1 (pm_ib a2 101) (
    pm_bd (f_M_X11_typeOf_0 n a1 (hs_A t1 7 a2.toNatClampNeg) t1) (fun x23 t22 =>
    pm_b1 (f_M_X11_same_0 n x23 (hs_I t22 0 58) t22) (fun t24 =>
    pm_gd1 (pm_ib a2 101) (
    pm_bd (f_M_X11_typeOf_0 n a1 (hs_A t24 8 a2.toNatClampNeg) t24) (fun x26 t25 =>
    pm_b1 (f_M_X11_same_0 n x2 x26 t25) (fun t27 =>
    pm_gd1 (pm_ib a2 101) (
    pm_bd (f_M_X11_typeOf_0 n a1 (hs_A t27 9 a2.toNatClampNeg) t27) (fun x29 t28 =>
    pm_b1 (f_M_X11_same_0 n x2 x29 t28) (fun t30 =>
    some t30)))))))))
  else
  if x3 = (7 : Int32) then
    pm_gd1 (pm_ib a2 101) (
    pm_bd (f_M_X11_typeOf_0 n a1 (hs_A t1 7 a2.toNatClampNeg) t1) (fun x32 t31 =>
    pm_gd1 (pm_ib a2 101) (
    pm_bd (f_M_X11_typeOf_0 n a1 (hs_A t31 8 a2.toNatClampNeg) t31) (fun x34 t33 =>
    pm_bd (f_M_X11_fresh_0 (4 : Int32) x32 x34 t33) (fun x36 t35 =>
    pm_b1 (f_M_X11_same_0 n x2 x36 t35) (fun t37 =>
    some t37))))))
  else
  if x3 = (8 : Int32) then
    pm_gd1 (pm_ib a2 101) (
    pm_bd (f_M_X11_typeOf_0 n a1 (hs_A t1 7 a2.toNatClampNeg) t1) (fun x39 t38 =>
    pm_gd1 (pm_ib a2 101) (
    pm_bd (f_M_X11_typeOf_0 n a1 (hs_A t38 8 a2.toNatClampNeg) t38) (fun x41 t40 =>
    pm_bd (f_M_X11_fresh_0 (4 : Int32) x39 x41 t40) (fun x43 t42 =>
    pm_b1 (f_M_X11_same_0 n x2 x43 t42) (fun t44 =>
    some t44))))))
  else
  if x3 = (9 : Int32) then
    pm_b1 (f_M_X11_same_0 n x2 (hs_I t1 0 58) t1) (fun t45 =>
    some t45)
  else
  if x3 = (10 : Int32) then
    pm_b1 (f_M_X11_same_0 n x2 (hs_I t1 0 58) t1) (fun t46 =>
    some t46)
  else
  if x3 = (11 : Int32) then
    pm_bd (f_M_X11_fresh_0 (3 : Int32) (hs_I t1 0 58) (hs_I t1 0 58) t1) (fun x48 t47 =>
    pm_b1 (f_M_X11_same_0 n x2 x48 t47) (fun t49 =>
    some t49))
  else
  if x3 = (12 : Int32) then
    pm_bd (f_M_X11_fresh_0 (0 : Int32) (0 : Int32) (0 : Int32) t1) (fun x51 t50 =>
    pm_bd (f_M_X11_fresh_0 (0 : Int32) (0 : Int32) (0 : Int32) t50) (fun x53 t52 =>
    pm_bd (f_M_X11_fresh_0 (4 : Int32) x51 x53 t52) (fun x55 t54 =>
    pm_gd1 (pm_ib a2 101) (
    pm_let (fun (z254_S0 : Int32) (z254_S1 : Int32) (z254_S2 : Int32) (z254_S4 : Int32) (s : hp_S) =>
      pm_bd (f_M_X11_fresh_0 z254_S2 z254_S1 z254_S0 s) (fun x57 t56 =>
      pm_b1 (f_M_X11_same_0 n z254_S4 x57 t56) (fun t58 =>
      some t58))) (fun j254 =>
    if (hs_A t54 6 a2.toNatClampNeg) = (12 : Int32) then
      j254 x51 x55 (3 : Int32) x2 t54
    else
      j254 x53 x55 (3 : Int32) x2 t54)))))
  else
  if x3 = (13 : Int32) then
    pm_bd (f_M_X11_fresh_0 (0 : Int32) (0 : Int32) (0 : Int32) t1) (fun x60 t59 =>
    pm_bd (f_M_X11_fresh_0 (0 : Int32) (0 : Int32) (0 : Int32) t59) (fun x62 t61 =>
    pm_bd (f_M_X11_fresh_0 (4 : Int32) x60 x62 t61) (fun x64 t63 =>
    pm_gd1 (pm_ib a2 101) (
    pm_let (fun (z254_S0 : Int32) (z254_S1 : Int32) (z254_S2 : Int32) (z254_S4 : Int32) (s : hp_S) =>
      pm_bd (f_M_X11_fresh_0 z254_S2 z254_S1 z254_S0 s) (fun x66 t65 =>
      pm_b1 (f_M_X11_same_0 n z254_S4 x66 t65) (fun t67 =>
      some t67))) (fun j254 =>
    if (hs_A t63 6 a2.toNatClampNeg) = (12 : Int32) then
      j254 x60 x64 (3 : Int32) x2 t63
    else
      j254 x62 x64 (3 : Int32) x2 t63)))))
  else
  if x3 = (14 : Int32) then
    pm_gd1 (pm_ib a2 101) (
    pm_bd (f_M_X11_typeOf_0 n a1 (hs_A t1 7 a2.toNatClampNeg) t1) (fun x69 t68 =>
    pm_gd1 (pm_ib a2 101) (
    pm_bd (f_M_X11_typeOf_0 n a1 (hs_A t68 8 a2.toNatClampNeg) t68) (fun x71 t70 =>
    pm_bd (f_M_X11_fresh_0 (4 : Int32) x69 x71 t70) (fun x73 t72 =>
    pm_b1 (f_M_X11_same_0 n x2 x73 t72) (fun t74 =>
    some t74))))))
  else
  if x3 = (15 : Int32) then
    pm_gd1 (pm_ib a2 101) (
    pm_bd (f_M_X11_typeOf_0 n a1 (hs_A t1 7 a2.toNatClampNeg) t1) (fun x76 t75 =>
    pm_gd1 (pm_ib a2 101) (
    pm_bd (f_M_X11_typeOf_0 n a1 (hs_A t75 8 a2.toNatClampNeg) t75) (fun x78 t77 =>
    pm_bd (f_M_X11_fresh_0 (4 : Int32) x76 x78 t77) (fun x80 t79 =>
    pm_b1 (f_M_X11_same_0 n x2 x80 t79) (fun t81 =>
    some t81))))))
  else
  if x3 = (16 : Int32) then
    pm_gd1 (pm_ib a2 101) (
    pm_bd (f_M_X11_typeOf_0 n a1 (hs_A t1 7 a2.toNatClampNeg) t1) (fun x83 t82 =>
    pm_gd1 (pm_ib a2 101) (
    pm_bd (f_M_X11_typeOf_0 n a1 (hs_A t82 8 a2.toNatClampNeg) t82) (fun x85 t84 =>
    pm_bd (f_M_X11_fresh_0 (4 : Int32) x83 x85 t84) (fun x87 t86 =>
    pm_b1 (f_M_X11_same_0 n x2 x87 t86) (fun t88 =>
    some t88))))))
  else
  if x3 = (17 : Int32) then
    pm_gd1 (pm_ib a2 101) (
    pm_bd (f_M_X11_typeOf_0 n a1 (hs_A t1 7 a2.toNatClampNeg) t1) (fun x90 t89 =>
    pm_gd1 (pm_ib a2 101) (
    pm_bd (f_M_X11_typeOf_0 n a1 (hs_A t89 8 a2.toNatClampNeg) t89) (fun x92 t91 =>
    pm_bd (f_M_X11_fresh_0 (4 : Int32) x90 x92 t91) (fun x94 t93 =>
    pm_b1 (f_M_X11_same_0 n x2 x94 t93) (fun t95 =>
    some t95))))))
  else
  if x3 = (18 : Int32) then
    pm_gd1 (pm_ib a2 101) (
    pm_bd (f_M_X11_typeOf_0 n a1 (hs_A t1 7 a2.toNatClampNeg) t1) (fun x97 t96 =>
    pm_gd1 (pm_ib a2 101) (
    pm_bd (f_M_X11_typeOf_0 n a1 (hs_A t96 8 a2.toNatClampNeg) t96) (fun x99 t98 =>
    pm_bd (f_M_X11_fresh_0 (4 : Int32) x97 x99 t98) (fun x101 t100 =>
    pm_b1 (f_M_X11_same_0 n x2 x101 t100) (fun t102 =>
    some t102))))))
  else
  if x3 = (19 : Int32) then
    pm_gd1 (pm_ib a2 101) (
    pm_bd (f_M_X11_typeOf_0 n a1 (hs_A t1 7 a2.toNatClampNeg) t1) (fun x104 t103 =>
    pm_b1 (f_M_X11_same_0 n x104 (hs_I t103 0 57) t103) (fun t105 =>
    pm_gd1 (pm_ib a2 101) (
    pm_bd (f_M_X11_typeOf_0 n a1 (hs_A t105 8 a2.toNatClampNeg) t105) (fun x107 t106 =>
    pm_b1 (f_M_X11_same_0 n x107 (hs_I t106 0 57) t106) (fun t108 =>
    pm_gd1 (pm_ib a2 101) (
    pm_let (fun (z488_S0 : Int32) (z488_S1 : Int32) (s : hp_S) =>
      pm_b1 (f_M_X11_same_0 n z488_S1 z488_S0 s) (fun t109 =>
      some t109)) (fun j488 =>
    if (hs_A t108 6 a2.toNatClampNeg) = (20 : Int32) then
      j488 (hs_I t108 0 58) x2 t108
    else
      j488 (hs_I t108 0 57) x2 t108))))))))
  else
  if x3 = (20 : Int32) then
    pm_gd1 (pm_ib a2 101) (
    pm_bd (f_M_X11_typeOf_0 n a1 (hs_A t1 7 a2.toNatClampNeg) t1) (fun x111 t110 =>
    pm_b1 (f_M_X11_same_0 n x111 (hs_I t110 0 57) t110) (fun t112 =>
    pm_gd1 (pm_ib a2 101) (
    pm_bd (f_M_X11_typeOf_0 n a1 (hs_A t112 8 a2.toNatClampNeg) t112) (fun x114 t113 =>
    pm_b1 (f_M_X11_same_0 n x114 (hs_I t113 0 57) t113) (fun t115 =>
    pm_gd1 (pm_ib a2 101) (
    pm_let (fun (z488_S0 : Int32) (z488_S1 : Int32) (s : hp_S) =>
      pm_b1 (f_M_X11_same_0 n z488_S1 z488_S0 s) (fun t116 =>
      some t116)) (fun j488 =>
    if (hs_A t115 6 a2.toNatClampNeg) = (20 : Int32) then
      j488 (hs_I t115 0 58) x2 t115
    else
      j488 (hs_I t115 0 57) x2 t115))))))))
  else
  if x3 = (21 : Int32) then
    pm_gd1 (pm_ib a2 101) (
    pm_bd (f_M_X11_typeOf_0 n a1 (hs_A t1 7 a2.toNatClampNeg) t1) (fun x118 t117 =>
    pm_gd1 (pm_ib a2 101) (
    pm_bd (f_M_X11_typeOf_0 n a1 (hs_A t117 8 a2.toNatClampNeg) t117) (fun x120 t119 =>
    pm_bd (f_M_X11_fresh_0 (4 : Int32) x118 x120 t119) (fun x122 t121 =>
    pm_b1 (f_M_X11_same_0 n x2 x122 t121) (fun t123 =>
    some t123))))))
  else
  if x3 = (22 : Int32) then
    pm_gd1 (pm_ib a2 101) (
    pm_bd (f_M_X11_typeOf_0 n a1 (hs_A t1 7 a2.toNatClampNeg) t1) (fun x125 t124 =>
    pm_gd1 (pm_ib a2 101) (
    pm_bd (f_M_X11_typeOf_0 n a1 (hs_A t124 8 a2.toNatClampNeg) t124) (fun x127 t126 =>
    pm_bd (f_M_X11_fresh_0 (4 : Int32) x125 x127 t126) (fun x129 t128 =>
    pm_b1 (f_M_X11_same_0 n x2 x129 t128) (fun t130 =>
    some t130))))))
  else
  if x3 = (23 : Int32) then
    pm_gd1 (pm_ib a2 101) (
    pm_bd (f_M_X11_typeOf_0 n a1 (hs_A t1 7 a2.toNatClampNeg) t1) (fun x132 t131 =>
    pm_gd1 (pm_ib a2 101) (
    pm_bd (f_M_X11_typeOf_0 n a1 (hs_A t131 8 a2.toNatClampNeg) t131) (fun x134 t133 =>
    pm_bd (f_M_X11_fresh_0 (4 : Int32) x132 x134 t133) (fun x136 t135 =>
    pm_b1 (f_M_X11_same_0 n x2 x136 t135) (fun t137 =>
    some t137))))))
  else
  if x3 = (24 : Int32) then
    pm_gd1 (pm_ib a2 101) (
    pm_bd (f_M_X11_typeOf_0 n a1 (hs_A t1 7 a2.toNatClampNeg) t1) (fun x139 t138 =>
    pm_gd1 (pm_ib a2 101) (
    pm_bd (f_M_X11_typeOf_0 n a1 (hs_A t138 8 a2.toNatClampNeg) t138) (fun x141 t140 =>
    pm_bd (f_M_X11_fresh_0 (4 : Int32) x139 x141 t140) (fun x143 t142 =>
    pm_b1 (f_M_X11_same_0 n x2 x143 t142) (fun t144 =>
    some t144))))))
  else
  if x3 = (25 : Int32) then
    pm_gd1 (pm_ib a2 101) (
    pm_bd (f_M_X11_typeOf_0 n a1 (hs_A t1 7 a2.toNatClampNeg) t1) (fun x146 t145 =>
    pm_gd1 (pm_ib a2 101) (
    pm_bd (f_M_X11_typeOf_0 n a1 (hs_A t145 8 a2.toNatClampNeg) t145) (fun x148 t147 =>
    pm_bd (f_M_X11_fresh_0 (4 : Int32) x146 x148 t147) (fun x150 t149 =>
    pm_b1 (f_M_X11_same_0 n x2 x150 t149) (fun t151 =>
    some t151))))))
  else
  if x3 = (26 : Int32) then
    pm_gd1 (pm_ib a2 101) (
    pm_bd (f_M_X11_typeOf_0 n a1 (hs_A t1 7 a2.toNatClampNeg) t1) (fun x153 t152 =>
    pm_gd1 (pm_ib a2 101) (
    pm_bd (f_M_X11_typeOf_0 n a1 (hs_A t152 8 a2.toNatClampNeg) t152) (fun x155 t154 =>
    pm_bd (f_M_X11_fresh_0 (4 : Int32) x153 x155 t154) (fun x157 t156 =>
    pm_b1 (f_M_X11_same_0 n x2 x157 t156) (fun t158 =>
    some t158))))))
  else
  if x3 = (27 : Int32) then
    pm_gd1 (pm_ib a2 101) (
    pm_bd (f_M_X11_typeOf_0 n a1 (hs_A t1 7 a2.toNatClampNeg) t1) (fun x160 t159 =>
    pm_gd1 (pm_ib a2 101) (
    pm_bd (f_M_X11_typeOf_0 n a1 (hs_A t159 8 a2.toNatClampNeg) t159) (fun x162 t161 =>
    pm_bd (f_M_X11_fresh_0 (4 : Int32) x160 x162 t161) (fun x164 t163 =>
    pm_b1 (f_M_X11_same_0 n x2 x164 t163) (fun t165 =>
    some t165))))))
  else
  if x3 = (28 : Int32) then
    pm_gd1 (pm_ib a2 101) (
    pm_bd (f_M_X11_typeOf_0 n a1 (hs_A t1 7 a2.toNatClampNeg) t1) (fun x167 t166 =>
    pm_gd1 (pm_ib a2 101) (
    pm_bd (f_M_X11_typeOf_0 n a1 (hs_A t166 8 a2.toNatClampNeg) t166) (fun x169 t168 =>
    pm_bd (f_M_X11_fresh_0 (4 : Int32) x167 x169 t168) (fun x171 t170 =>
    pm_b1 (f_M_X11_same_0 n x2 x171 t170) (fun t172 =>
    some t172))))))
  else
  if x3 = (29 : Int32) then
    pm_gd1 (pm_ib a2 101) (
    pm_bd (f_M_X11_typeOf_0 n a1 (hs_A t1 7 a2.toNatClampNeg) t1) (fun x174 t173 =>
    pm_gd1 (pm_ib a2 101) (
    pm_bd (f_M_X11_typeOf_0 n a1 (hs_A t173 8 a2.toNatClampNeg) t173) (fun x176 t175 =>
    pm_bd (f_M_X11_fresh_0 (4 : Int32) x174 x176 t175) (fun x178 t177 =>
    pm_b1 (f_M_X11_same_0 n x2 x178 t177) (fun t179 =>
    some t179))))))
  else
  if x3 = (30 : Int32) then
    pm_gd1 (pm_ib a2 101) (
    pm_bd (f_M_X11_typeOf_0 n a1 (hs_A t1 7 a2.toNatClampNeg) t1) (fun x181 t180 =>
    pm_gd1 (pm_ib a2 101) (
    pm_bd (f_M_X11_typeOf_0 n a1 (hs_A t180 8 a2.toNatClampNeg) t180) (fun x183 t182 =>
    pm_bd (f_M_X11_fresh_0 (3 : Int32) x183 x2 t182) (fun x185 t184 =>
    pm_b1 (f_M_X11_same_0 n x181 x185 t184) (fun t186 =>
    some t186))))))
  else
  if x3 = (31 : Int32) then
    pm_gd1 (pm_ib a2 101) (
    pm_bd (f_M_X11_typeOf_0 n a1 (hs_A t1 7 a2.toNatClampNeg) t1) (fun x188 t187 =>
    pm_gd1 (pm_ib a2 101) (
    pm_bd (f_M_X11_typeOf_0 n a1 (hs_A t187 8 a2.toNatClampNeg) t187) (fun x190 t189 =>
    pm_bd (f_M_X11_fresh_0 (4 : Int32) x188 x190 t189) (fun x192 t191 =>
    pm_b1 (f_M_X11_same_0 n x2 x192 t191) (fun t193 =>
    some t193))))))
  else
  if x3 = (32 : Int32) then
    pm_gd1 (pm_ib a2 101) (
    pm_bd (f_M_X11_copyWith_0 n a1 (hs_A t1 19 a2.toNatClampNeg) t1) (fun x195 t194 =>
    pm_gd1 (pm_ib a2 101) (
    pm_bd (f_M_X11_nameOf_0 n x195 (hs_A t194 19 a2.toNatClampNeg) t194) (fun x197 t196 =>
    pm_b1 (f_M_X11_same_0 n x2 x197 t196) (fun t198 =>
    some t198)))))
  else
  if x3 = (33 : Int32) then
    pm_gd1 (pm_ib a2 101) (
    pm_gd1 (pm_ib (hs_A t1 19 a2.toNatClampNeg) 101) (
    pm_bd (f_M_X11_typeOf_0 n a3 (hs_A t1 7 (hs_A t1 19 a2.toNatClampNeg).toNatClampNeg) t1) (fun x200 t199 =>
    pm_b1 (f_M_X11_same_0 n x2 x200 t199) (fun t201 =>
    some t201))))
  else
    pm_gd1 (pm_ib a2 101) (
    pm_bd (f_M_X11_typeOf_0 n a1 (hs_A t1 7 a2.toNatClampNeg) t1) (fun x203 t202 =>
    pm_gd1 (pm_ib a2 101) (
    pm_bd (f_M_X11_typeOf_0 n a1 (hs_A t202 8 a2.toNatClampNeg) t202) (fun x205 t204 =>
    pm_bd (f_M_X11_fresh_0 (4 : Int32) x203 x205 t204) (fun x207 t206 =>
    pm_b1 (f_M_X11_same_0 n x2 x207 t206) (fun t208 =>
    some t208)))))))))
set_option maxRecDepth 100000 in
set_option maxHeartbeats 400000 in
theorem w_M_X11_ask_0 (d : Nat) (n : Nat) (a1 : Int32) (a2 : Int32) (a3 : Int32) (s s1 : hp_S) (h : f_M_X11_ask_0 n a1 a2 a3 s = some s1) : hp_is sh_M me_X11_ask (d + 3) [.ref 0, .int a1, .int a2, .int a3] s none s1 := by
  refine hp_ofF [(0, .ref 0), (1, .int a1), (2, .int a2), (3, .int a3)] (by decide +kernel) (Nat.le_of_ble_eq_true rfl) rfl ?_
  unfold f_M_X11_ask_0 at h
  refine hq_aload_n (pm_d rk_X11_ask 0 rfl) rfl 0 rfl ?_
  refine hq_iload_n (pm_d rk_X11_ask 1 rfl) rfl 1 rfl ?_
  refine hq_iload_n (pm_d rk_X11_ask 2 rfl) rfl 2 rfl ?_
  obtain ⟨x2, t1, hq, h⟩ := pm_bd_i h
  have hM := w_M_X11_typeOf_0 (d := d + 0) (h := hq)
  refine hq_callVi (a := 0) (ci := 11) [.int a1, .int a2] [] (pm_d rk_X11_ask 3 rfl) ml_X11_277 iv_X11_typeOf rfl rfl rfl rfl rfl (Nat.le_of_ble_eq_true rfl) hM ?_
  refine hq_istore (L1 := [(4, .int x2), (0, .ref 0), (1, .int a1), (2, .int a2), (3, .int a3)]) (pm_d rk_X11_ask 4 rfl) (by decide) rfl ?_
  show hp_go _ _ _ _ _ 8 _ _ _
  refine hq_aload_n (pm_d rk_X11_ask 5 rfl) rfl 1 rfl ?_
  refine hq_getR (h := 6) 13 (pm_d rk_X11_ask 6 rfl) fl_X11_30 rfl rfl ?_
  refine hq_iload_n (pm_d rk_X11_ask 7 rfl) rfl 3 rfl ?_
  obtain ⟨hg, h⟩ := pm_gd_i h
  refine hq_iaload (pm_d rk_X11_ask 8 rfl) rfl hg ?_
  refine pm_nm (G := fun x3 => hp_go sh_M me_X11_ask (d + 3) none s1 14 [(4, .int x2), (0, .ref 0), (1, .int a1), (2, .int a2), (3, .int a3)] [.int x3] t1) h (fun x3 h => ?_)
  by_cases hc0 : x3 = (2 : Int32)
  · rw [if_pos hc0] at h
    refine hq_tableIn 156 (pm_d rk_X11_ask 9 rfl) (by rw [hc0]; decide) (by rw [hc0]; decide) (by rw [hc0] <;> rfl) (by decide) ?_
    refine hq_aload_n (pm_d rk_X11_ask 10 rfl) rfl 1 rfl ?_
    show hp_go _ _ _ _ _ 157 _ _ _
    refine hq_iload (pm_d rk_X11_ask 11 rfl) 0 rfl ?_
    refine hq_aload_n (pm_d rk_X11_ask 12 rfl) rfl 1 rfl ?_
    refine hq_getI 57 (pm_d rk_X11_ask 13 rfl) fl_X11_280 rfl rfl ?_
    obtain ⟨t4, hq, h⟩ := pm_b1_i h
    have hM := w_M_X11_same_0 (d := d + 1) (h := hq)
    refine hq_callVv (a := 0) (ci := 11) [.int x2, .int (hs_I t1 0 57)] [] (pm_d rk_X11_ask 14 rfl) ml_X11_283 iv_X11_same rfl rfl rfl rfl rfl (Nat.le_of_ble_eq_true rfl) hM ?_
    refine hq_goto 563 (pm_d rk_X11_ask 15 rfl) (by decide) ?_
    exact hq_vret (pm_d rk_X11_ask 236 rfl) rfl h
  rw [if_neg hc0] at h
  by_cases hc1 : x3 = (3 : Int32)
  · rw [if_pos hc1] at h
    refine hq_tableIn 318 (pm_d rk_X11_ask 9 rfl) (by rw [hc1]; decide) (by rw [hc1]; decide) (by rw [hc1] <;> rfl) (by decide) ?_
    show hp_go _ _ _ _ _ 318 _ _ _
    refine hq_aload_n (pm_d rk_X11_ask 97 rfl) rfl 1 rfl ?_
    refine hq_iload (pm_d rk_X11_ask 98 rfl) 0 rfl ?_
    refine hq_aload_n (pm_d rk_X11_ask 99 rfl) rfl 1 rfl ?_
    refine hq_iconst (v := (3 : Int32)) (pm_d rk_X11_ask 100 rfl) (by decide) ?_
    refine hq_aload_n (pm_d rk_X11_ask 101 rfl) rfl 1 rfl ?_
    refine hq_iload_n (pm_d rk_X11_ask 102 rfl) rfl 2 rfl ?_
    show hp_go _ _ _ _ _ 325 _ _ _
    refine hq_iload_n (pm_d rk_X11_ask 103 rfl) rfl 3 rfl ?_
    obtain ⟨x6, t5, hq, h⟩ := pm_bd_i h
    have hM := w_M_X11_nameOf_0 (d := d + 0) (h := hq)
    refine hq_callVi (a := 0) (ci := 11) [.int a1, .int a2] [.int (3 : Int32), .ref 0, .int x2, .ref 0] (pm_d rk_X11_ask 104 rfl) ml_X11_293 iv_X11_nameOf rfl rfl rfl rfl rfl (Nat.le_of_ble_eq_true rfl) hM ?_
    refine hq_aload_n (pm_d rk_X11_ask 105 rfl) rfl 1 rfl ?_
    refine hq_iload_n (pm_d rk_X11_ask 106 rfl) rfl 2 rfl ?_
    refine hq_aload_n (pm_d rk_X11_ask 107 rfl) rfl 1 rfl ?_
    refine hq_getR (h := 7) 14 (pm_d rk_X11_ask 108 rfl) fl_X11_33 rfl rfl ?_
    show hp_go _ _ _ _ _ 335 _ _ _
    refine hq_iload_n (pm_d rk_X11_ask 109 rfl) rfl 3 rfl ?_
    obtain ⟨hg, h⟩ := pm_gd_i h
    refine hq_iaload (pm_d rk_X11_ask 110 rfl) rfl hg ?_
    obtain ⟨x8, t7, hq, h⟩ := pm_bd_i h
    have hM := w_M_X11_typeOf_0 (d := d + 0) (h := hq)
    refine hq_callVi (a := 0) (ci := 11) [.int a1, .int (hs_A t5 7 a2.toNatClampNeg)] [.int x6, .int (3 : Int32), .ref 0, .int x2, .ref 0] (pm_d rk_X11_ask 111 rfl) ml_X11_277 iv_X11_typeOf rfl rfl rfl rfl rfl (Nat.le_of_ble_eq_true rfl) hM ?_
    obtain ⟨x10, t9, hq, h⟩ := pm_bd_i h
    have hM := w_M_X11_fresh_0 (d := d + 2) (h := hq)
    refine hq_callVi (a := 0) (ci := 11) [.int (3 : Int32), .int x6, .int x8] [.int x2, .ref 0] (pm_d rk_X11_ask 112 rfl) ml_X11_289 iv_X11_fresh rfl rfl rfl rfl rfl (Nat.le_of_ble_eq_true rfl) hM ?_
    obtain ⟨t11, hq, h⟩ := pm_b1_i h
    have hM := w_M_X11_same_0 (d := d + 1) (h := hq)
    refine hq_callVv (a := 0) (ci := 11) [.int x2, .int x10] [] (pm_d rk_X11_ask 113 rfl) ml_X11_283 iv_X11_same rfl rfl rfl rfl rfl (Nat.le_of_ble_eq_true rfl) hM ?_
    refine hq_goto 563 (pm_d rk_X11_ask 114 rfl) (by decide) ?_
    show hp_go _ _ _ _ _ 563 _ _ _
    exact hq_vret (pm_d rk_X11_ask 236 rfl) rfl h
  rw [if_neg hc1] at h
  by_cases hc2 : x3 = (4 : Int32)
  · rw [if_pos hc2] at h
    refine hq_tableIn 405 (pm_d rk_X11_ask 9 rfl) (by rw [hc2]; decide) (by rw [hc2]; decide) (by rw [hc2] <;> rfl) (by decide) ?_
    refine hq_aload_n (pm_d rk_X11_ask 147 rfl) rfl 1 rfl ?_
    refine hq_iload (pm_d rk_X11_ask 148 rfl) 0 rfl ?_
    refine hq_aload_n (pm_d rk_X11_ask 149 rfl) rfl 1 rfl ?_
    refine hq_iload_n (pm_d rk_X11_ask 150 rfl) rfl 2 rfl ?_
    refine hq_aload_n (pm_d rk_X11_ask 151 rfl) rfl 1 rfl ?_
    show hp_go _ _ _ _ _ 411 _ _ _
    refine hq_getR (h := 8) 15 (pm_d rk_X11_ask 152 rfl) fl_X11_36 rfl rfl ?_
    refine hq_iload_n (pm_d rk_X11_ask 153 rfl) rfl 3 rfl ?_
    obtain ⟨hg, h⟩ := pm_gd_i h
    refine hq_iaload (pm_d rk_X11_ask 154 rfl) rfl hg ?_
    obtain ⟨x13, t12, hq, h⟩ := pm_bd_i h
    have hM := w_M_X11_typeOf_0 (d := d + 0) (h := hq)
    refine hq_callVi (a := 0) (ci := 11) [.int a1, .int (hs_A t1 8 a2.toNatClampNeg)] [.int x2, .ref 0] (pm_d rk_X11_ask 155 rfl) ml_X11_277 iv_X11_typeOf rfl rfl rfl rfl rfl (Nat.le_of_ble_eq_true rfl) hM ?_
    obtain ⟨t14, hq, h⟩ := pm_b1_i h
    have hM := w_M_X11_same_0 (d := d + 1) (h := hq)
    refine hq_callVv (a := 0) (ci := 11) [.int x2, .int x13] [] (pm_d rk_X11_ask 156 rfl) ml_X11_283 iv_X11_same rfl rfl rfl rfl rfl (Nat.le_of_ble_eq_true rfl) hM ?_
    refine hq_goto 563 (pm_d rk_X11_ask 157 rfl) (by decide) ?_
    show hp_go _ _ _ _ _ 563 _ _ _
    exact hq_vret (pm_d rk_X11_ask 236 rfl) rfl h
  rw [if_neg hc2] at h
  by_cases hc3 : x3 = (5 : Int32)
  · rw [if_pos hc3] at h
    refine hq_tableIn 530 (pm_d rk_X11_ask 9 rfl) (by rw [hc3]; decide) (by rw [hc3]; decide) (by rw [hc3] <;> rfl) (by decide) ?_
    refine hq_aload_n (pm_d rk_X11_ask 216 rfl) rfl 1 rfl ?_
    refine hq_iload (pm_d rk_X11_ask 217 rfl) 0 rfl ?_
    refine hq_aload_n (pm_d rk_X11_ask 218 rfl) rfl 1 rfl ?_
    refine hq_iconst (v := (4 : Int32)) (pm_d rk_X11_ask 219 rfl) (by decide) ?_
    refine hq_aload_n (pm_d rk_X11_ask 220 rfl) rfl 1 rfl ?_
    show hp_go _ _ _ _ _ 536 _ _ _
    refine hq_iload_n (pm_d rk_X11_ask 221 rfl) rfl 2 rfl ?_
    refine hq_aload_n (pm_d rk_X11_ask 222 rfl) rfl 1 rfl ?_
    refine hq_getR (h := 7) 14 (pm_d rk_X11_ask 223 rfl) fl_X11_33 rfl rfl ?_
    refine hq_iload_n (pm_d rk_X11_ask 224 rfl) rfl 3 rfl ?_
    obtain ⟨hg, h⟩ := pm_gd_i h
    refine hq_iaload (pm_d rk_X11_ask 225 rfl) rfl hg ?_
    obtain ⟨x16, t15, hq, h⟩ := pm_bd_i h
    have hM := w_M_X11_typeOf_0 (d := d + 0) (h := hq)
    refine hq_callVi (a := 0) (ci := 11) [.int a1, .int (hs_A t1 7 a2.toNatClampNeg)] [.int (4 : Int32), .ref 0, .int x2, .ref 0] (pm_d rk_X11_ask 226 rfl) ml_X11_277 iv_X11_typeOf rfl rfl rfl rfl rfl (Nat.le_of_ble_eq_true rfl) hM ?_
    show hp_go _ _ _ _ _ 546 _ _ _
    refine hq_aload_n (pm_d rk_X11_ask 227 rfl) rfl 1 rfl ?_
    refine hq_iload_n (pm_d rk_X11_ask 228 rfl) rfl 2 rfl ?_
    refine hq_aload_n (pm_d rk_X11_ask 229 rfl) rfl 1 rfl ?_
    refine hq_getR (h := 8) 15 (pm_d rk_X11_ask 230 rfl) fl_X11_36 rfl rfl ?_
    refine hq_iload_n (pm_d rk_X11_ask 231 rfl) rfl 3 rfl ?_
    obtain ⟨hg, h⟩ := pm_gd_i h
    refine hq_iaload (pm_d rk_X11_ask 232 rfl) rfl hg ?_
    show hp_go _ _ _ _ _ 554 _ _ _
    obtain ⟨x18, t17, hq, h⟩ := pm_bd_i h
    have hM := w_M_X11_typeOf_0 (d := d + 0) (h := hq)
    refine hq_callVi (a := 0) (ci := 11) [.int a1, .int (hs_A t15 8 a2.toNatClampNeg)] [.int x16, .int (4 : Int32), .ref 0, .int x2, .ref 0] (pm_d rk_X11_ask 233 rfl) ml_X11_277 iv_X11_typeOf rfl rfl rfl rfl rfl (Nat.le_of_ble_eq_true rfl) hM ?_
    obtain ⟨x20, t19, hq, h⟩ := pm_bd_i h
    have hM := w_M_X11_fresh_0 (d := d + 2) (h := hq)
    refine hq_callVi (a := 0) (ci := 11) [.int (4 : Int32), .int x16, .int x18] [.int x2, .ref 0] (pm_d rk_X11_ask 234 rfl) ml_X11_289 iv_X11_fresh rfl rfl rfl rfl rfl (Nat.le_of_ble_eq_true rfl) hM ?_
    obtain ⟨t21, hq, h⟩ := pm_b1_i h
    have hM := w_M_X11_same_0 (d := d + 1) (h := hq)
    refine hq_callVv (a := 0) (ci := 11) [.int x2, .int x20] [] (pm_d rk_X11_ask 235 rfl) ml_X11_283 iv_X11_same rfl rfl rfl rfl rfl (Nat.le_of_ble_eq_true rfl) hM ?_
    exact hq_vret (pm_d rk_X11_ask 236 rfl) rfl h
  rw [if_neg hc3] at h
  by_cases hc4 : x3 = (6 : Int32)
  · rw [if_pos hc4] at h
    refine hq_tableIn 349 (pm_d rk_X11_ask 9 rfl) (by rw [hc4]; decide) (by rw [hc4]; decide) (by rw [hc4] <;> rfl) (by decide) ?_
    refine hq_aload_n (pm_d rk_X11_ask 115 rfl) rfl 1 rfl ?_
    refine hq_aload_n (pm_d rk_X11_ask 116 rfl) rfl 1 rfl ?_
    show hp_go _ _ _ _ _ 351 _ _ _
    refine hq_iload_n (pm_d rk_X11_ask 117 rfl) rfl 2 rfl ?_
    refine hq_aload_n (pm_d rk_X11_ask 118 rfl) rfl 1 rfl ?_
    refine hq_getR (h := 7) 14 (pm_d rk_X11_ask 119 rfl) fl_X11_33 rfl rfl ?_
    refine hq_iload_n (pm_d rk_X11_ask 120 rfl) rfl 3 rfl ?_
    obtain ⟨hg, h⟩ := pm_gd_i h
    refine hq_iaload (pm_d rk_X11_ask 121 rfl) rfl hg ?_
    obtain ⟨x23, t22, hq, h⟩ := pm_bd_i h
    have hM := w_M_X11_typeOf_0 (d := d + 0) (h := hq)
    refine hq_callVi (a := 0) (ci := 11) [.int a1, .int (hs_A t1 7 a2.toNatClampNeg)] [.ref 0] (pm_d rk_X11_ask 122 rfl) ml_X11_277 iv_X11_typeOf rfl rfl rfl rfl rfl (Nat.le_of_ble_eq_true rfl) hM ?_
    show hp_go _ _ _ _ _ 361 _ _ _
    refine hq_aload_n (pm_d rk_X11_ask 123 rfl) rfl 1 rfl ?_
    refine hq_getI 58 (pm_d rk_X11_ask 124 rfl) fl_X11_286 rfl rfl ?_
    obtain ⟨t24, hq, h⟩ := pm_b1_i h
    have hM := w_M_X11_same_0 (d := d + 1) (h := hq)
    refine hq_callVv (a := 0) (ci := 11) [.int x23, .int (hs_I t22 0 58)] [] (pm_d rk_X11_ask 125 rfl) ml_X11_283 iv_X11_same rfl rfl rfl rfl rfl (Nat.le_of_ble_eq_true rfl) hM ?_
    refine hq_aload_n (pm_d rk_X11_ask 126 rfl) rfl 1 rfl ?_
    refine hq_iload (pm_d rk_X11_ask 127 rfl) 0 rfl ?_
    refine hq_aload_n (pm_d rk_X11_ask 128 rfl) rfl 1 rfl ?_
    show hp_go _ _ _ _ _ 372 _ _ _
    refine hq_iload_n (pm_d rk_X11_ask 129 rfl) rfl 2 rfl ?_
    refine hq_aload_n (pm_d rk_X11_ask 130 rfl) rfl 1 rfl ?_
    refine hq_getR (h := 8) 15 (pm_d rk_X11_ask 131 rfl) fl_X11_36 rfl rfl ?_
    refine hq_iload_n (pm_d rk_X11_ask 132 rfl) rfl 3 rfl ?_
    obtain ⟨hg, h⟩ := pm_gd_i h
    refine hq_iaload (pm_d rk_X11_ask 133 rfl) rfl hg ?_
    obtain ⟨x26, t25, hq, h⟩ := pm_bd_i h
    have hM := w_M_X11_typeOf_0 (d := d + 0) (h := hq)
    refine hq_callVi (a := 0) (ci := 11) [.int a1, .int (hs_A t24 8 a2.toNatClampNeg)] [.int x2, .ref 0] (pm_d rk_X11_ask 134 rfl) ml_X11_277 iv_X11_typeOf rfl rfl rfl rfl rfl (Nat.le_of_ble_eq_true rfl) hM ?_
    show hp_go _ _ _ _ _ 382 _ _ _
    obtain ⟨t27, hq, h⟩ := pm_b1_i h
    have hM := w_M_X11_same_0 (d := d + 1) (h := hq)
    refine hq_callVv (a := 0) (ci := 11) [.int x2, .int x26] [] (pm_d rk_X11_ask 135 rfl) ml_X11_283 iv_X11_same rfl rfl rfl rfl rfl (Nat.le_of_ble_eq_true rfl) hM ?_
    refine hq_aload_n (pm_d rk_X11_ask 136 rfl) rfl 1 rfl ?_
    refine hq_iload (pm_d rk_X11_ask 137 rfl) 0 rfl ?_
    refine hq_aload_n (pm_d rk_X11_ask 138 rfl) rfl 1 rfl ?_
    refine hq_iload_n (pm_d rk_X11_ask 139 rfl) rfl 2 rfl ?_
    refine hq_aload_n (pm_d rk_X11_ask 140 rfl) rfl 1 rfl ?_
    show hp_go _ _ _ _ _ 391 _ _ _
    refine hq_getR (h := 9) 16 (pm_d rk_X11_ask 141 rfl) fl_X11_39 rfl rfl ?_
    refine hq_iload_n (pm_d rk_X11_ask 142 rfl) rfl 3 rfl ?_
    obtain ⟨hg, h⟩ := pm_gd_i h
    refine hq_iaload (pm_d rk_X11_ask 143 rfl) rfl hg ?_
    obtain ⟨x29, t28, hq, h⟩ := pm_bd_i h
    have hM := w_M_X11_typeOf_0 (d := d + 0) (h := hq)
    refine hq_callVi (a := 0) (ci := 11) [.int a1, .int (hs_A t27 9 a2.toNatClampNeg)] [.int x2, .ref 0] (pm_d rk_X11_ask 144 rfl) ml_X11_277 iv_X11_typeOf rfl rfl rfl rfl rfl (Nat.le_of_ble_eq_true rfl) hM ?_
    obtain ⟨t30, hq, h⟩ := pm_b1_i h
    have hM := w_M_X11_same_0 (d := d + 1) (h := hq)
    refine hq_callVv (a := 0) (ci := 11) [.int x2, .int x29] [] (pm_d rk_X11_ask 145 rfl) ml_X11_283 iv_X11_same rfl rfl rfl rfl rfl (Nat.le_of_ble_eq_true rfl) hM ?_
    refine hq_goto 563 (pm_d rk_X11_ask 146 rfl) (by decide) ?_
    show hp_go _ _ _ _ _ 563 _ _ _
    exact hq_vret (pm_d rk_X11_ask 236 rfl) rfl h
  rw [if_neg hc4] at h
  by_cases hc5 : x3 = (7 : Int32)
  · rw [if_pos hc5] at h
    refine hq_tableIn 530 (pm_d rk_X11_ask 9 rfl) (by rw [hc5]; decide) (by rw [hc5]; decide) (by rw [hc5] <;> rfl) (by decide) ?_
    refine hq_aload_n (pm_d rk_X11_ask 216 rfl) rfl 1 rfl ?_
    refine hq_iload (pm_d rk_X11_ask 217 rfl) 0 rfl ?_
    refine hq_aload_n (pm_d rk_X11_ask 218 rfl) rfl 1 rfl ?_
    refine hq_iconst (v := (4 : Int32)) (pm_d rk_X11_ask 219 rfl) (by decide) ?_
    refine hq_aload_n (pm_d rk_X11_ask 220 rfl) rfl 1 rfl ?_
    show hp_go _ _ _ _ _ 536 _ _ _
    refine hq_iload_n (pm_d rk_X11_ask 221 rfl) rfl 2 rfl ?_
    refine hq_aload_n (pm_d rk_X11_ask 222 rfl) rfl 1 rfl ?_
    refine hq_getR (h := 7) 14 (pm_d rk_X11_ask 223 rfl) fl_X11_33 rfl rfl ?_
    refine hq_iload_n (pm_d rk_X11_ask 224 rfl) rfl 3 rfl ?_
    obtain ⟨hg, h⟩ := pm_gd_i h
    refine hq_iaload (pm_d rk_X11_ask 225 rfl) rfl hg ?_
    obtain ⟨x32, t31, hq, h⟩ := pm_bd_i h
    have hM := w_M_X11_typeOf_0 (d := d + 0) (h := hq)
    refine hq_callVi (a := 0) (ci := 11) [.int a1, .int (hs_A t1 7 a2.toNatClampNeg)] [.int (4 : Int32), .ref 0, .int x2, .ref 0] (pm_d rk_X11_ask 226 rfl) ml_X11_277 iv_X11_typeOf rfl rfl rfl rfl rfl (Nat.le_of_ble_eq_true rfl) hM ?_
    show hp_go _ _ _ _ _ 546 _ _ _
    refine hq_aload_n (pm_d rk_X11_ask 227 rfl) rfl 1 rfl ?_
    refine hq_iload_n (pm_d rk_X11_ask 228 rfl) rfl 2 rfl ?_
    refine hq_aload_n (pm_d rk_X11_ask 229 rfl) rfl 1 rfl ?_
    refine hq_getR (h := 8) 15 (pm_d rk_X11_ask 230 rfl) fl_X11_36 rfl rfl ?_
    refine hq_iload_n (pm_d rk_X11_ask 231 rfl) rfl 3 rfl ?_
    obtain ⟨hg, h⟩ := pm_gd_i h
    refine hq_iaload (pm_d rk_X11_ask 232 rfl) rfl hg ?_
    show hp_go _ _ _ _ _ 554 _ _ _
    obtain ⟨x34, t33, hq, h⟩ := pm_bd_i h
    have hM := w_M_X11_typeOf_0 (d := d + 0) (h := hq)
    refine hq_callVi (a := 0) (ci := 11) [.int a1, .int (hs_A t31 8 a2.toNatClampNeg)] [.int x32, .int (4 : Int32), .ref 0, .int x2, .ref 0] (pm_d rk_X11_ask 233 rfl) ml_X11_277 iv_X11_typeOf rfl rfl rfl rfl rfl (Nat.le_of_ble_eq_true rfl) hM ?_
    obtain ⟨x36, t35, hq, h⟩ := pm_bd_i h
    have hM := w_M_X11_fresh_0 (d := d + 2) (h := hq)
    refine hq_callVi (a := 0) (ci := 11) [.int (4 : Int32), .int x32, .int x34] [.int x2, .ref 0] (pm_d rk_X11_ask 234 rfl) ml_X11_289 iv_X11_fresh rfl rfl rfl rfl rfl (Nat.le_of_ble_eq_true rfl) hM ?_
    obtain ⟨t37, hq, h⟩ := pm_b1_i h
    have hM := w_M_X11_same_0 (d := d + 1) (h := hq)
    refine hq_callVv (a := 0) (ci := 11) [.int x2, .int x36] [] (pm_d rk_X11_ask 235 rfl) ml_X11_283 iv_X11_same rfl rfl rfl rfl rfl (Nat.le_of_ble_eq_true rfl) hM ?_
    exact hq_vret (pm_d rk_X11_ask 236 rfl) rfl h
  rw [if_neg hc5] at h
  by_cases hc6 : x3 = (8 : Int32)
  · rw [if_pos hc6] at h
    refine hq_tableIn 530 (pm_d rk_X11_ask 9 rfl) (by rw [hc6]; decide) (by rw [hc6]; decide) (by rw [hc6] <;> rfl) (by decide) ?_
    refine hq_aload_n (pm_d rk_X11_ask 216 rfl) rfl 1 rfl ?_
    refine hq_iload (pm_d rk_X11_ask 217 rfl) 0 rfl ?_
    show hp_go _ _ _ _ _ 533 _ _ _
    refine hq_aload_n (pm_d rk_X11_ask 218 rfl) rfl 1 rfl ?_
    refine hq_iconst (v := (4 : Int32)) (pm_d rk_X11_ask 219 rfl) (by decide) ?_
    refine hq_aload_n (pm_d rk_X11_ask 220 rfl) rfl 1 rfl ?_
    refine hq_iload_n (pm_d rk_X11_ask 221 rfl) rfl 2 rfl ?_
    refine hq_aload_n (pm_d rk_X11_ask 222 rfl) rfl 1 rfl ?_
    refine hq_getR (h := 7) 14 (pm_d rk_X11_ask 223 rfl) fl_X11_33 rfl rfl ?_
    show hp_go _ _ _ _ _ 541 _ _ _
    refine hq_iload_n (pm_d rk_X11_ask 224 rfl) rfl 3 rfl ?_
    obtain ⟨hg, h⟩ := pm_gd_i h
    refine hq_iaload (pm_d rk_X11_ask 225 rfl) rfl hg ?_
    obtain ⟨x39, t38, hq, h⟩ := pm_bd_i h
    have hM := w_M_X11_typeOf_0 (d := d + 0) (h := hq)
    refine hq_callVi (a := 0) (ci := 11) [.int a1, .int (hs_A t1 7 a2.toNatClampNeg)] [.int (4 : Int32), .ref 0, .int x2, .ref 0] (pm_d rk_X11_ask 226 rfl) ml_X11_277 iv_X11_typeOf rfl rfl rfl rfl rfl (Nat.le_of_ble_eq_true rfl) hM ?_
    refine hq_aload_n (pm_d rk_X11_ask 227 rfl) rfl 1 rfl ?_
    refine hq_iload_n (pm_d rk_X11_ask 228 rfl) rfl 2 rfl ?_
    refine hq_aload_n (pm_d rk_X11_ask 229 rfl) rfl 1 rfl ?_
    show hp_go _ _ _ _ _ 549 _ _ _
    refine hq_getR (h := 8) 15 (pm_d rk_X11_ask 230 rfl) fl_X11_36 rfl rfl ?_
    refine hq_iload_n (pm_d rk_X11_ask 231 rfl) rfl 3 rfl ?_
    obtain ⟨hg, h⟩ := pm_gd_i h
    refine hq_iaload (pm_d rk_X11_ask 232 rfl) rfl hg ?_
    obtain ⟨x41, t40, hq, h⟩ := pm_bd_i h
    have hM := w_M_X11_typeOf_0 (d := d + 0) (h := hq)
    refine hq_callVi (a := 0) (ci := 11) [.int a1, .int (hs_A t38 8 a2.toNatClampNeg)] [.int x39, .int (4 : Int32), .ref 0, .int x2, .ref 0] (pm_d rk_X11_ask 233 rfl) ml_X11_277 iv_X11_typeOf rfl rfl rfl rfl rfl (Nat.le_of_ble_eq_true rfl) hM ?_
    obtain ⟨x43, t42, hq, h⟩ := pm_bd_i h
    have hM := w_M_X11_fresh_0 (d := d + 2) (h := hq)
    refine hq_callVi (a := 0) (ci := 11) [.int (4 : Int32), .int x39, .int x41] [.int x2, .ref 0] (pm_d rk_X11_ask 234 rfl) ml_X11_289 iv_X11_fresh rfl rfl rfl rfl rfl (Nat.le_of_ble_eq_true rfl) hM ?_
    obtain ⟨t44, hq, h⟩ := pm_b1_i h
    have hM := w_M_X11_same_0 (d := d + 1) (h := hq)
    refine hq_callVv (a := 0) (ci := 11) [.int x2, .int x43] [] (pm_d rk_X11_ask 235 rfl) ml_X11_283 iv_X11_same rfl rfl rfl rfl rfl (Nat.le_of_ble_eq_true rfl) hM ?_
    show hp_go _ _ _ _ _ 563 _ _ _
    exact hq_vret (pm_d rk_X11_ask 236 rfl) rfl h
  rw [if_neg hc6] at h
  by_cases hc7 : x3 = (9 : Int32)
  · rw [if_pos hc7] at h
    refine hq_tableIn 169 (pm_d rk_X11_ask 9 rfl) (by rw [hc7]; decide) (by rw [hc7]; decide) (by rw [hc7] <;> rfl) (by decide) ?_
    refine hq_aload_n (pm_d rk_X11_ask 16 rfl) rfl 1 rfl ?_
    refine hq_iload (pm_d rk_X11_ask 17 rfl) 0 rfl ?_
    refine hq_aload_n (pm_d rk_X11_ask 18 rfl) rfl 1 rfl ?_
    refine hq_getI 58 (pm_d rk_X11_ask 19 rfl) fl_X11_286 rfl rfl ?_
    obtain ⟨t45, hq, h⟩ := pm_b1_i h
    have hM := w_M_X11_same_0 (d := d + 1) (h := hq)
    refine hq_callVv (a := 0) (ci := 11) [.int x2, .int (hs_I t1 0 58)] [] (pm_d rk_X11_ask 20 rfl) ml_X11_283 iv_X11_same rfl rfl rfl rfl rfl (Nat.le_of_ble_eq_true rfl) hM ?_
    show hp_go _ _ _ _ _ 179 _ _ _
    refine hq_goto 563 (pm_d rk_X11_ask 21 rfl) (by decide) ?_
    exact hq_vret (pm_d rk_X11_ask 236 rfl) rfl h
  rw [if_neg hc7] at h
  by_cases hc8 : x3 = (10 : Int32)
  · rw [if_pos hc8] at h
    refine hq_tableIn 169 (pm_d rk_X11_ask 9 rfl) (by rw [hc8]; decide) (by rw [hc8]; decide) (by rw [hc8] <;> rfl) (by decide) ?_
    refine hq_aload_n (pm_d rk_X11_ask 16 rfl) rfl 1 rfl ?_
    refine hq_iload (pm_d rk_X11_ask 17 rfl) 0 rfl ?_
    refine hq_aload_n (pm_d rk_X11_ask 18 rfl) rfl 1 rfl ?_
    refine hq_getI 58 (pm_d rk_X11_ask 19 rfl) fl_X11_286 rfl rfl ?_
    show hp_go _ _ _ _ _ 176 _ _ _
    obtain ⟨t46, hq, h⟩ := pm_b1_i h
    have hM := w_M_X11_same_0 (d := d + 1) (h := hq)
    refine hq_callVv (a := 0) (ci := 11) [.int x2, .int (hs_I t1 0 58)] [] (pm_d rk_X11_ask 20 rfl) ml_X11_283 iv_X11_same rfl rfl rfl rfl rfl (Nat.le_of_ble_eq_true rfl) hM ?_
    refine hq_goto 563 (pm_d rk_X11_ask 21 rfl) (by decide) ?_
    exact hq_vret (pm_d rk_X11_ask 236 rfl) rfl h
  rw [if_neg hc8] at h
  by_cases hc9 : x3 = (11 : Int32)
  · rw [if_pos hc9] at h
    refine hq_tableIn 182 (pm_d rk_X11_ask 9 rfl) (by rw [hc9]; decide) (by rw [hc9]; decide) (by rw [hc9] <;> rfl) (by decide) ?_
    refine hq_aload_n (pm_d rk_X11_ask 22 rfl) rfl 1 rfl ?_
    refine hq_iload (pm_d rk_X11_ask 23 rfl) 0 rfl ?_
    refine hq_aload_n (pm_d rk_X11_ask 24 rfl) rfl 1 rfl ?_
    show hp_go _ _ _ _ _ 186 _ _ _
    refine hq_iconst (v := (3 : Int32)) (pm_d rk_X11_ask 25 rfl) (by decide) ?_
    refine hq_aload_n (pm_d rk_X11_ask 26 rfl) rfl 1 rfl ?_
    refine hq_getI 58 (pm_d rk_X11_ask 27 rfl) fl_X11_286 rfl rfl ?_
    refine hq_aload_n (pm_d rk_X11_ask 28 rfl) rfl 1 rfl ?_
    refine hq_getI 58 (pm_d rk_X11_ask 29 rfl) fl_X11_286 rfl rfl ?_
    obtain ⟨x48, t47, hq, h⟩ := pm_bd_i h
    have hM := w_M_X11_fresh_0 (d := d + 2) (h := hq)
    refine hq_callVi (a := 0) (ci := 11) [.int (3 : Int32), .int (hs_I t1 0 58), .int (hs_I t1 0 58)] [.int x2, .ref 0] (pm_d rk_X11_ask 30 rfl) ml_X11_289 iv_X11_fresh rfl rfl rfl rfl rfl (Nat.le_of_ble_eq_true rfl) hM ?_
    show hp_go _ _ _ _ _ 198 _ _ _
    obtain ⟨t49, hq, h⟩ := pm_b1_i h
    have hM := w_M_X11_same_0 (d := d + 1) (h := hq)
    refine hq_callVv (a := 0) (ci := 11) [.int x2, .int x48] [] (pm_d rk_X11_ask 31 rfl) ml_X11_283 iv_X11_same rfl rfl rfl rfl rfl (Nat.le_of_ble_eq_true rfl) hM ?_
    refine hq_goto 563 (pm_d rk_X11_ask 32 rfl) (by decide) ?_
    exact hq_vret (pm_d rk_X11_ask 236 rfl) rfl h
  rw [if_neg hc9] at h
  by_cases hc10 : x3 = (12 : Int32)
  · rw [if_pos hc10] at h
    refine hq_tableIn 204 (pm_d rk_X11_ask 9 rfl) (by rw [hc10]; decide) (by rw [hc10]; decide) (by rw [hc10] <;> rfl) (by decide) ?_
    refine hq_aload_n (pm_d rk_X11_ask 33 rfl) rfl 1 rfl ?_
    refine hq_iconst (v := (0 : Int32)) (pm_d rk_X11_ask 34 rfl) (by decide) ?_
    refine hq_iconst (v := (0 : Int32)) (pm_d rk_X11_ask 35 rfl) (by decide) ?_
    show hp_go _ _ _ _ _ 207 _ _ _
    refine hq_iconst (v := (0 : Int32)) (pm_d rk_X11_ask 36 rfl) (by decide) ?_
    obtain ⟨x51, t50, hq, h⟩ := pm_bd_i h
    have hM := w_M_X11_fresh_0 (d := d + 2) (h := hq)
    refine hq_callVi (a := 0) (ci := 11) [.int (0 : Int32), .int (0 : Int32), .int (0 : Int32)] [] (pm_d rk_X11_ask 37 rfl) ml_X11_289 iv_X11_fresh rfl rfl rfl rfl rfl (Nat.le_of_ble_eq_true rfl) hM ?_
    refine hq_istore (L1 := [(5, .int x51), (4, .int x2), (0, .ref 0), (1, .int a1), (2, .int a2), (3, .int a3)]) (pm_d rk_X11_ask 38 rfl) (by decide) rfl ?_
    refine hq_aload_n (pm_d rk_X11_ask 39 rfl) rfl 2 rfl ?_
    refine hq_iconst (v := (0 : Int32)) (pm_d rk_X11_ask 40 rfl) (by decide) ?_
    refine hq_iconst (v := (0 : Int32)) (pm_d rk_X11_ask 41 rfl) (by decide) ?_
    show hp_go _ _ _ _ _ 216 _ _ _
    refine hq_iconst (v := (0 : Int32)) (pm_d rk_X11_ask 42 rfl) (by decide) ?_
    obtain ⟨x53, t52, hq, h⟩ := pm_bd_i h
    have hM := w_M_X11_fresh_0 (d := d + 2) (h := hq)
    refine hq_callVi (a := 0) (ci := 11) [.int (0 : Int32), .int (0 : Int32), .int (0 : Int32)] [] (pm_d rk_X11_ask 43 rfl) ml_X11_289 iv_X11_fresh rfl rfl rfl rfl rfl (Nat.le_of_ble_eq_true rfl) hM ?_
    refine hq_istore (L1 := [(6, .int x53), (5, .int x51), (4, .int x2), (0, .ref 0), (1, .int a1), (2, .int a2), (3, .int a3)]) (pm_d rk_X11_ask 44 rfl) (by decide) rfl ?_
    refine hq_aload_n (pm_d rk_X11_ask 45 rfl) rfl 3 rfl ?_
    refine hq_iload (pm_d rk_X11_ask 46 rfl) 2 rfl ?_
    refine hq_aload_n (pm_d rk_X11_ask 47 rfl) rfl 3 rfl ?_
    show hp_go _ _ _ _ _ 226 _ _ _
    refine hq_iconst (v := (3 : Int32)) (pm_d rk_X11_ask 48 rfl) (by decide) ?_
    refine hq_aload_n (pm_d rk_X11_ask 49 rfl) rfl 3 rfl ?_
    refine hq_iconst (v := (4 : Int32)) (pm_d rk_X11_ask 50 rfl) (by decide) ?_
    refine hq_iload (pm_d rk_X11_ask 51 rfl) 1 rfl ?_
    refine hq_iload (pm_d rk_X11_ask 52 rfl) 0 rfl ?_
    obtain ⟨x55, t54, hq, h⟩ := pm_bd_i h
    have hM := w_M_X11_fresh_0 (d := d + 2) (h := hq)
    refine hq_callVi (a := 0) (ci := 11) [.int (4 : Int32), .int x51, .int x53] [.int (3 : Int32), .ref 0, .int x2, .ref 0] (pm_d rk_X11_ask 53 rfl) ml_X11_289 iv_X11_fresh rfl rfl rfl rfl rfl (Nat.le_of_ble_eq_true rfl) hM ?_
    show hp_go _ _ _ _ _ 236 _ _ _
    refine hq_aload_n (pm_d rk_X11_ask 54 rfl) rfl 3 rfl ?_
    refine hq_getR (h := 6) 13 (pm_d rk_X11_ask 55 rfl) fl_X11_30 rfl rfl ?_
    refine hq_iload_n (pm_d rk_X11_ask 56 rfl) rfl 5 rfl ?_
    obtain ⟨hg, h⟩ := pm_gd_i h
    refine hq_iaload (pm_d rk_X11_ask 57 rfl) rfl hg ?_
    refine hq_bipush (v := (12 : Int32)) (pm_d rk_X11_ask 58 rfl) (by decide) ?_
    refine pm_jn (P := fun j254 => ∀ (z254_S0 : Int32) (z254_S1 : Int32) (z254_S2 : Int32) (z254_S4 : Int32) (s : hp_S), j254 z254_S0 z254_S1 z254_S2 z254_S4 s = some s1 → hp_go sh_M me_X11_ask (d + 3) none s1 254 [] [.int z254_S0, .int z254_S1, .int z254_S2, .ref 0, .int z254_S4, .ref 0] s) h ?_ (fun j254 hj254 h => ?_)
    · intro z254_S0 z254_S1 z254_S2 z254_S4 s h
      dsimp only at h
      obtain ⟨x57, t56, hq, h⟩ := pm_bd_i h
      have hM := w_M_X11_fresh_0 (d := d + 2) (h := hq)
      refine hq_callVi (a := 0) (ci := 11) [.int z254_S2, .int z254_S1, .int z254_S0] [.int z254_S4, .ref 0] (pm_d rk_X11_ask 63 rfl) ml_X11_289 iv_X11_fresh rfl rfl rfl rfl rfl (Nat.le_of_ble_eq_true rfl) hM ?_
      show hp_go _ _ _ _ _ 257 _ _ _
      obtain ⟨t58, hq, h⟩ := pm_b1_i h
      have hM := w_M_X11_same_0 (d := d + 1) (h := hq)
      refine hq_callVv (a := 0) (ci := 11) [.int z254_S4, .int x57] [] (pm_d rk_X11_ask 64 rfl) ml_X11_283 iv_X11_same rfl rfl rfl rfl rfl (Nat.le_of_ble_eq_true rfl) hM ?_
      refine hq_goto 563 (pm_d rk_X11_ask 65 rfl) (by decide) ?_
      exact hq_vret (pm_d rk_X11_ask 236 rfl) rfl h
    refine hq_icmp_ne 252 (pm_d rk_X11_ask 59 rfl) (by decide) (fun hc => ?_) (fun hc => ?_)
    · rw [if_neg hc] at h
      refine hq_iload (pm_d rk_X11_ask 62 rfl) 0 rfl ?_
      refine hq_drop [] rfl ?_
      exact hj254 _ _ _ _ _ h
    rw [if_pos hc] at h
    refine hq_iload (pm_d rk_X11_ask 60 rfl) 1 rfl ?_
    show hp_go _ _ _ _ _ 249 _ _ _
    refine hq_goto 254 (pm_d rk_X11_ask 61 rfl) (by decide) ?_
    refine hq_drop [] rfl ?_
    exact hj254 _ _ _ _ _ h
  rw [if_neg hc10] at h
  by_cases hc11 : x3 = (13 : Int32)
  · rw [if_pos hc11] at h
    refine hq_tableIn 204 (pm_d rk_X11_ask 9 rfl) (by rw [hc11]; decide) (by rw [hc11]; decide) (by rw [hc11] <;> rfl) (by decide) ?_
    refine hq_aload_n (pm_d rk_X11_ask 33 rfl) rfl 1 rfl ?_
    refine hq_iconst (v := (0 : Int32)) (pm_d rk_X11_ask 34 rfl) (by decide) ?_
    refine hq_iconst (v := (0 : Int32)) (pm_d rk_X11_ask 35 rfl) (by decide) ?_
    refine hq_iconst (v := (0 : Int32)) (pm_d rk_X11_ask 36 rfl) (by decide) ?_
    obtain ⟨x60, t59, hq, h⟩ := pm_bd_i h
    have hM := w_M_X11_fresh_0 (d := d + 2) (h := hq)
    refine hq_callVi (a := 0) (ci := 11) [.int (0 : Int32), .int (0 : Int32), .int (0 : Int32)] [] (pm_d rk_X11_ask 37 rfl) ml_X11_289 iv_X11_fresh rfl rfl rfl rfl rfl (Nat.le_of_ble_eq_true rfl) hM ?_
    show hp_go _ _ _ _ _ 211 _ _ _
    refine hq_istore (L1 := [(5, .int x60), (4, .int x2), (0, .ref 0), (1, .int a1), (2, .int a2), (3, .int a3)]) (pm_d rk_X11_ask 38 rfl) (by decide) rfl ?_
    refine hq_aload_n (pm_d rk_X11_ask 39 rfl) rfl 2 rfl ?_
    refine hq_iconst (v := (0 : Int32)) (pm_d rk_X11_ask 40 rfl) (by decide) ?_
    refine hq_iconst (v := (0 : Int32)) (pm_d rk_X11_ask 41 rfl) (by decide) ?_
    refine hq_iconst (v := (0 : Int32)) (pm_d rk_X11_ask 42 rfl) (by decide) ?_
    obtain ⟨x62, t61, hq, h⟩ := pm_bd_i h
    have hM := w_M_X11_fresh_0 (d := d + 2) (h := hq)
    refine hq_callVi (a := 0) (ci := 11) [.int (0 : Int32), .int (0 : Int32), .int (0 : Int32)] [] (pm_d rk_X11_ask 43 rfl) ml_X11_289 iv_X11_fresh rfl rfl rfl rfl rfl (Nat.le_of_ble_eq_true rfl) hM ?_
    show hp_go _ _ _ _ _ 220 _ _ _
    refine hq_istore (L1 := [(6, .int x62), (5, .int x60), (4, .int x2), (0, .ref 0), (1, .int a1), (2, .int a2), (3, .int a3)]) (pm_d rk_X11_ask 44 rfl) (by decide) rfl ?_
    refine hq_aload_n (pm_d rk_X11_ask 45 rfl) rfl 3 rfl ?_
    refine hq_iload (pm_d rk_X11_ask 46 rfl) 2 rfl ?_
    refine hq_aload_n (pm_d rk_X11_ask 47 rfl) rfl 3 rfl ?_
    refine hq_iconst (v := (3 : Int32)) (pm_d rk_X11_ask 48 rfl) (by decide) ?_
    refine hq_aload_n (pm_d rk_X11_ask 49 rfl) rfl 3 rfl ?_
    show hp_go _ _ _ _ _ 228 _ _ _
    refine hq_iconst (v := (4 : Int32)) (pm_d rk_X11_ask 50 rfl) (by decide) ?_
    refine hq_iload (pm_d rk_X11_ask 51 rfl) 1 rfl ?_
    refine hq_iload (pm_d rk_X11_ask 52 rfl) 0 rfl ?_
    obtain ⟨x64, t63, hq, h⟩ := pm_bd_i h
    have hM := w_M_X11_fresh_0 (d := d + 2) (h := hq)
    refine hq_callVi (a := 0) (ci := 11) [.int (4 : Int32), .int x60, .int x62] [.int (3 : Int32), .ref 0, .int x2, .ref 0] (pm_d rk_X11_ask 53 rfl) ml_X11_289 iv_X11_fresh rfl rfl rfl rfl rfl (Nat.le_of_ble_eq_true rfl) hM ?_
    refine hq_aload_n (pm_d rk_X11_ask 54 rfl) rfl 3 rfl ?_
    refine hq_getR (h := 6) 13 (pm_d rk_X11_ask 55 rfl) fl_X11_30 rfl rfl ?_
    show hp_go _ _ _ _ _ 240 _ _ _
    refine hq_iload_n (pm_d rk_X11_ask 56 rfl) rfl 5 rfl ?_
    obtain ⟨hg, h⟩ := pm_gd_i h
    refine hq_iaload (pm_d rk_X11_ask 57 rfl) rfl hg ?_
    refine hq_bipush (v := (12 : Int32)) (pm_d rk_X11_ask 58 rfl) (by decide) ?_
    refine pm_jn (P := fun j254 => ∀ (z254_S0 : Int32) (z254_S1 : Int32) (z254_S2 : Int32) (z254_S4 : Int32) (s : hp_S), j254 z254_S0 z254_S1 z254_S2 z254_S4 s = some s1 → hp_go sh_M me_X11_ask (d + 3) none s1 254 [] [.int z254_S0, .int z254_S1, .int z254_S2, .ref 0, .int z254_S4, .ref 0] s) h ?_ (fun j254 hj254 h => ?_)
    · intro z254_S0 z254_S1 z254_S2 z254_S4 s h
      dsimp only at h
      obtain ⟨x66, t65, hq, h⟩ := pm_bd_i h
      have hM := w_M_X11_fresh_0 (d := d + 2) (h := hq)
      refine hq_callVi (a := 0) (ci := 11) [.int z254_S2, .int z254_S1, .int z254_S0] [.int z254_S4, .ref 0] (pm_d rk_X11_ask 63 rfl) ml_X11_289 iv_X11_fresh rfl rfl rfl rfl rfl (Nat.le_of_ble_eq_true rfl) hM ?_
      obtain ⟨t67, hq, h⟩ := pm_b1_i h
      have hM := w_M_X11_same_0 (d := d + 1) (h := hq)
      refine hq_callVv (a := 0) (ci := 11) [.int z254_S4, .int x66] [] (pm_d rk_X11_ask 64 rfl) ml_X11_283 iv_X11_same rfl rfl rfl rfl rfl (Nat.le_of_ble_eq_true rfl) hM ?_
      refine hq_goto 563 (pm_d rk_X11_ask 65 rfl) (by decide) ?_
      show hp_go _ _ _ _ _ 563 _ _ _
      exact hq_vret (pm_d rk_X11_ask 236 rfl) rfl h
    refine hq_icmp_ne 252 (pm_d rk_X11_ask 59 rfl) (by decide) (fun hc => ?_) (fun hc => ?_)
    · rw [if_neg hc] at h
      refine hq_iload (pm_d rk_X11_ask 62 rfl) 0 rfl ?_
      refine hq_drop [] rfl ?_
      exact hj254 _ _ _ _ _ h
    rw [if_pos hc] at h
    refine hq_iload (pm_d rk_X11_ask 60 rfl) 1 rfl ?_
    refine hq_goto 254 (pm_d rk_X11_ask 61 rfl) (by decide) ?_
    refine hq_drop [] rfl ?_
    exact hj254 _ _ _ _ _ h
  rw [if_neg hc11] at h
  by_cases hc12 : x3 = (14 : Int32)
  · rw [if_pos hc12] at h
    refine hq_tableIn 530 (pm_d rk_X11_ask 9 rfl) (by rw [hc12]; decide) (by rw [hc12]; decide) (by rw [hc12] <;> rfl) (by decide) ?_
    refine hq_aload_n (pm_d rk_X11_ask 216 rfl) rfl 1 rfl ?_
    show hp_go _ _ _ _ _ 531 _ _ _
    refine hq_iload (pm_d rk_X11_ask 217 rfl) 0 rfl ?_
    refine hq_aload_n (pm_d rk_X11_ask 218 rfl) rfl 1 rfl ?_
    refine hq_iconst (v := (4 : Int32)) (pm_d rk_X11_ask 219 rfl) (by decide) ?_
    refine hq_aload_n (pm_d rk_X11_ask 220 rfl) rfl 1 rfl ?_
    refine hq_iload_n (pm_d rk_X11_ask 221 rfl) rfl 2 rfl ?_
    refine hq_aload_n (pm_d rk_X11_ask 222 rfl) rfl 1 rfl ?_
    show hp_go _ _ _ _ _ 538 _ _ _
    refine hq_getR (h := 7) 14 (pm_d rk_X11_ask 223 rfl) fl_X11_33 rfl rfl ?_
    refine hq_iload_n (pm_d rk_X11_ask 224 rfl) rfl 3 rfl ?_
    obtain ⟨hg, h⟩ := pm_gd_i h
    refine hq_iaload (pm_d rk_X11_ask 225 rfl) rfl hg ?_
    obtain ⟨x69, t68, hq, h⟩ := pm_bd_i h
    have hM := w_M_X11_typeOf_0 (d := d + 0) (h := hq)
    refine hq_callVi (a := 0) (ci := 11) [.int a1, .int (hs_A t1 7 a2.toNatClampNeg)] [.int (4 : Int32), .ref 0, .int x2, .ref 0] (pm_d rk_X11_ask 226 rfl) ml_X11_277 iv_X11_typeOf rfl rfl rfl rfl rfl (Nat.le_of_ble_eq_true rfl) hM ?_
    refine hq_aload_n (pm_d rk_X11_ask 227 rfl) rfl 1 rfl ?_
    refine hq_iload_n (pm_d rk_X11_ask 228 rfl) rfl 2 rfl ?_
    show hp_go _ _ _ _ _ 548 _ _ _
    refine hq_aload_n (pm_d rk_X11_ask 229 rfl) rfl 1 rfl ?_
    refine hq_getR (h := 8) 15 (pm_d rk_X11_ask 230 rfl) fl_X11_36 rfl rfl ?_
    refine hq_iload_n (pm_d rk_X11_ask 231 rfl) rfl 3 rfl ?_
    obtain ⟨hg, h⟩ := pm_gd_i h
    refine hq_iaload (pm_d rk_X11_ask 232 rfl) rfl hg ?_
    obtain ⟨x71, t70, hq, h⟩ := pm_bd_i h
    have hM := w_M_X11_typeOf_0 (d := d + 0) (h := hq)
    refine hq_callVi (a := 0) (ci := 11) [.int a1, .int (hs_A t68 8 a2.toNatClampNeg)] [.int x69, .int (4 : Int32), .ref 0, .int x2, .ref 0] (pm_d rk_X11_ask 233 rfl) ml_X11_277 iv_X11_typeOf rfl rfl rfl rfl rfl (Nat.le_of_ble_eq_true rfl) hM ?_
    obtain ⟨x73, t72, hq, h⟩ := pm_bd_i h
    have hM := w_M_X11_fresh_0 (d := d + 2) (h := hq)
    refine hq_callVi (a := 0) (ci := 11) [.int (4 : Int32), .int x69, .int x71] [.int x2, .ref 0] (pm_d rk_X11_ask 234 rfl) ml_X11_289 iv_X11_fresh rfl rfl rfl rfl rfl (Nat.le_of_ble_eq_true rfl) hM ?_
    show hp_go _ _ _ _ _ 560 _ _ _
    obtain ⟨t74, hq, h⟩ := pm_b1_i h
    have hM := w_M_X11_same_0 (d := d + 1) (h := hq)
    refine hq_callVv (a := 0) (ci := 11) [.int x2, .int x73] [] (pm_d rk_X11_ask 235 rfl) ml_X11_283 iv_X11_same rfl rfl rfl rfl rfl (Nat.le_of_ble_eq_true rfl) hM ?_
    exact hq_vret (pm_d rk_X11_ask 236 rfl) rfl h
  rw [if_neg hc12] at h
  by_cases hc13 : x3 = (15 : Int32)
  · rw [if_pos hc13] at h
    refine hq_tableIn 530 (pm_d rk_X11_ask 9 rfl) (by rw [hc13]; decide) (by rw [hc13]; decide) (by rw [hc13] <;> rfl) (by decide) ?_
    refine hq_aload_n (pm_d rk_X11_ask 216 rfl) rfl 1 rfl ?_
    refine hq_iload (pm_d rk_X11_ask 217 rfl) 0 rfl ?_
    refine hq_aload_n (pm_d rk_X11_ask 218 rfl) rfl 1 rfl ?_
    refine hq_iconst (v := (4 : Int32)) (pm_d rk_X11_ask 219 rfl) (by decide) ?_
    show hp_go _ _ _ _ _ 535 _ _ _
    refine hq_aload_n (pm_d rk_X11_ask 220 rfl) rfl 1 rfl ?_
    refine hq_iload_n (pm_d rk_X11_ask 221 rfl) rfl 2 rfl ?_
    refine hq_aload_n (pm_d rk_X11_ask 222 rfl) rfl 1 rfl ?_
    refine hq_getR (h := 7) 14 (pm_d rk_X11_ask 223 rfl) fl_X11_33 rfl rfl ?_
    refine hq_iload_n (pm_d rk_X11_ask 224 rfl) rfl 3 rfl ?_
    obtain ⟨hg, h⟩ := pm_gd_i h
    refine hq_iaload (pm_d rk_X11_ask 225 rfl) rfl hg ?_
    show hp_go _ _ _ _ _ 543 _ _ _
    obtain ⟨x76, t75, hq, h⟩ := pm_bd_i h
    have hM := w_M_X11_typeOf_0 (d := d + 0) (h := hq)
    refine hq_callVi (a := 0) (ci := 11) [.int a1, .int (hs_A t1 7 a2.toNatClampNeg)] [.int (4 : Int32), .ref 0, .int x2, .ref 0] (pm_d rk_X11_ask 226 rfl) ml_X11_277 iv_X11_typeOf rfl rfl rfl rfl rfl (Nat.le_of_ble_eq_true rfl) hM ?_
    refine hq_aload_n (pm_d rk_X11_ask 227 rfl) rfl 1 rfl ?_
    refine hq_iload_n (pm_d rk_X11_ask 228 rfl) rfl 2 rfl ?_
    refine hq_aload_n (pm_d rk_X11_ask 229 rfl) rfl 1 rfl ?_
    refine hq_getR (h := 8) 15 (pm_d rk_X11_ask 230 rfl) fl_X11_36 rfl rfl ?_
    refine hq_iload_n (pm_d rk_X11_ask 231 rfl) rfl 3 rfl ?_
    show hp_go _ _ _ _ _ 553 _ _ _
    obtain ⟨hg, h⟩ := pm_gd_i h
    refine hq_iaload (pm_d rk_X11_ask 232 rfl) rfl hg ?_
    obtain ⟨x78, t77, hq, h⟩ := pm_bd_i h
    have hM := w_M_X11_typeOf_0 (d := d + 0) (h := hq)
    refine hq_callVi (a := 0) (ci := 11) [.int a1, .int (hs_A t75 8 a2.toNatClampNeg)] [.int x76, .int (4 : Int32), .ref 0, .int x2, .ref 0] (pm_d rk_X11_ask 233 rfl) ml_X11_277 iv_X11_typeOf rfl rfl rfl rfl rfl (Nat.le_of_ble_eq_true rfl) hM ?_
    obtain ⟨x80, t79, hq, h⟩ := pm_bd_i h
    have hM := w_M_X11_fresh_0 (d := d + 2) (h := hq)
    refine hq_callVi (a := 0) (ci := 11) [.int (4 : Int32), .int x76, .int x78] [.int x2, .ref 0] (pm_d rk_X11_ask 234 rfl) ml_X11_289 iv_X11_fresh rfl rfl rfl rfl rfl (Nat.le_of_ble_eq_true rfl) hM ?_
    obtain ⟨t81, hq, h⟩ := pm_b1_i h
    have hM := w_M_X11_same_0 (d := d + 1) (h := hq)
    refine hq_callVv (a := 0) (ci := 11) [.int x2, .int x80] [] (pm_d rk_X11_ask 235 rfl) ml_X11_283 iv_X11_same rfl rfl rfl rfl rfl (Nat.le_of_ble_eq_true rfl) hM ?_
    exact hq_vret (pm_d rk_X11_ask 236 rfl) rfl h
  rw [if_neg hc13] at h
  by_cases hc14 : x3 = (16 : Int32)
  · rw [if_pos hc14] at h
    refine hq_tableIn 530 (pm_d rk_X11_ask 9 rfl) (by rw [hc14]; decide) (by rw [hc14]; decide) (by rw [hc14] <;> rfl) (by decide) ?_
    refine hq_aload_n (pm_d rk_X11_ask 216 rfl) rfl 1 rfl ?_
    show hp_go _ _ _ _ _ 531 _ _ _
    refine hq_iload (pm_d rk_X11_ask 217 rfl) 0 rfl ?_
    refine hq_aload_n (pm_d rk_X11_ask 218 rfl) rfl 1 rfl ?_
    refine hq_iconst (v := (4 : Int32)) (pm_d rk_X11_ask 219 rfl) (by decide) ?_
    refine hq_aload_n (pm_d rk_X11_ask 220 rfl) rfl 1 rfl ?_
    refine hq_iload_n (pm_d rk_X11_ask 221 rfl) rfl 2 rfl ?_
    refine hq_aload_n (pm_d rk_X11_ask 222 rfl) rfl 1 rfl ?_
    show hp_go _ _ _ _ _ 538 _ _ _
    refine hq_getR (h := 7) 14 (pm_d rk_X11_ask 223 rfl) fl_X11_33 rfl rfl ?_
    refine hq_iload_n (pm_d rk_X11_ask 224 rfl) rfl 3 rfl ?_
    obtain ⟨hg, h⟩ := pm_gd_i h
    refine hq_iaload (pm_d rk_X11_ask 225 rfl) rfl hg ?_
    obtain ⟨x83, t82, hq, h⟩ := pm_bd_i h
    have hM := w_M_X11_typeOf_0 (d := d + 0) (h := hq)
    refine hq_callVi (a := 0) (ci := 11) [.int a1, .int (hs_A t1 7 a2.toNatClampNeg)] [.int (4 : Int32), .ref 0, .int x2, .ref 0] (pm_d rk_X11_ask 226 rfl) ml_X11_277 iv_X11_typeOf rfl rfl rfl rfl rfl (Nat.le_of_ble_eq_true rfl) hM ?_
    refine hq_aload_n (pm_d rk_X11_ask 227 rfl) rfl 1 rfl ?_
    refine hq_iload_n (pm_d rk_X11_ask 228 rfl) rfl 2 rfl ?_
    show hp_go _ _ _ _ _ 548 _ _ _
    refine hq_aload_n (pm_d rk_X11_ask 229 rfl) rfl 1 rfl ?_
    refine hq_getR (h := 8) 15 (pm_d rk_X11_ask 230 rfl) fl_X11_36 rfl rfl ?_
    refine hq_iload_n (pm_d rk_X11_ask 231 rfl) rfl 3 rfl ?_
    obtain ⟨hg, h⟩ := pm_gd_i h
    refine hq_iaload (pm_d rk_X11_ask 232 rfl) rfl hg ?_
    obtain ⟨x85, t84, hq, h⟩ := pm_bd_i h
    have hM := w_M_X11_typeOf_0 (d := d + 0) (h := hq)
    refine hq_callVi (a := 0) (ci := 11) [.int a1, .int (hs_A t82 8 a2.toNatClampNeg)] [.int x83, .int (4 : Int32), .ref 0, .int x2, .ref 0] (pm_d rk_X11_ask 233 rfl) ml_X11_277 iv_X11_typeOf rfl rfl rfl rfl rfl (Nat.le_of_ble_eq_true rfl) hM ?_
    obtain ⟨x87, t86, hq, h⟩ := pm_bd_i h
    have hM := w_M_X11_fresh_0 (d := d + 2) (h := hq)
    refine hq_callVi (a := 0) (ci := 11) [.int (4 : Int32), .int x83, .int x85] [.int x2, .ref 0] (pm_d rk_X11_ask 234 rfl) ml_X11_289 iv_X11_fresh rfl rfl rfl rfl rfl (Nat.le_of_ble_eq_true rfl) hM ?_
    show hp_go _ _ _ _ _ 560 _ _ _
    obtain ⟨t88, hq, h⟩ := pm_b1_i h
    have hM := w_M_X11_same_0 (d := d + 1) (h := hq)
    refine hq_callVv (a := 0) (ci := 11) [.int x2, .int x87] [] (pm_d rk_X11_ask 235 rfl) ml_X11_283 iv_X11_same rfl rfl rfl rfl rfl (Nat.le_of_ble_eq_true rfl) hM ?_
    exact hq_vret (pm_d rk_X11_ask 236 rfl) rfl h
  rw [if_neg hc14] at h
  by_cases hc15 : x3 = (17 : Int32)
  · rw [if_pos hc15] at h
    refine hq_tableIn 530 (pm_d rk_X11_ask 9 rfl) (by rw [hc15]; decide) (by rw [hc15]; decide) (by rw [hc15] <;> rfl) (by decide) ?_
    refine hq_aload_n (pm_d rk_X11_ask 216 rfl) rfl 1 rfl ?_
    refine hq_iload (pm_d rk_X11_ask 217 rfl) 0 rfl ?_
    refine hq_aload_n (pm_d rk_X11_ask 218 rfl) rfl 1 rfl ?_
    refine hq_iconst (v := (4 : Int32)) (pm_d rk_X11_ask 219 rfl) (by decide) ?_
    show hp_go _ _ _ _ _ 535 _ _ _
    refine hq_aload_n (pm_d rk_X11_ask 220 rfl) rfl 1 rfl ?_
    refine hq_iload_n (pm_d rk_X11_ask 221 rfl) rfl 2 rfl ?_
    refine hq_aload_n (pm_d rk_X11_ask 222 rfl) rfl 1 rfl ?_
    refine hq_getR (h := 7) 14 (pm_d rk_X11_ask 223 rfl) fl_X11_33 rfl rfl ?_
    refine hq_iload_n (pm_d rk_X11_ask 224 rfl) rfl 3 rfl ?_
    obtain ⟨hg, h⟩ := pm_gd_i h
    refine hq_iaload (pm_d rk_X11_ask 225 rfl) rfl hg ?_
    show hp_go _ _ _ _ _ 543 _ _ _
    obtain ⟨x90, t89, hq, h⟩ := pm_bd_i h
    have hM := w_M_X11_typeOf_0 (d := d + 0) (h := hq)
    refine hq_callVi (a := 0) (ci := 11) [.int a1, .int (hs_A t1 7 a2.toNatClampNeg)] [.int (4 : Int32), .ref 0, .int x2, .ref 0] (pm_d rk_X11_ask 226 rfl) ml_X11_277 iv_X11_typeOf rfl rfl rfl rfl rfl (Nat.le_of_ble_eq_true rfl) hM ?_
    refine hq_aload_n (pm_d rk_X11_ask 227 rfl) rfl 1 rfl ?_
    refine hq_iload_n (pm_d rk_X11_ask 228 rfl) rfl 2 rfl ?_
    refine hq_aload_n (pm_d rk_X11_ask 229 rfl) rfl 1 rfl ?_
    refine hq_getR (h := 8) 15 (pm_d rk_X11_ask 230 rfl) fl_X11_36 rfl rfl ?_
    refine hq_iload_n (pm_d rk_X11_ask 231 rfl) rfl 3 rfl ?_
    show hp_go _ _ _ _ _ 553 _ _ _
    obtain ⟨hg, h⟩ := pm_gd_i h
    refine hq_iaload (pm_d rk_X11_ask 232 rfl) rfl hg ?_
    obtain ⟨x92, t91, hq, h⟩ := pm_bd_i h
    have hM := w_M_X11_typeOf_0 (d := d + 0) (h := hq)
    refine hq_callVi (a := 0) (ci := 11) [.int a1, .int (hs_A t89 8 a2.toNatClampNeg)] [.int x90, .int (4 : Int32), .ref 0, .int x2, .ref 0] (pm_d rk_X11_ask 233 rfl) ml_X11_277 iv_X11_typeOf rfl rfl rfl rfl rfl (Nat.le_of_ble_eq_true rfl) hM ?_
    obtain ⟨x94, t93, hq, h⟩ := pm_bd_i h
    have hM := w_M_X11_fresh_0 (d := d + 2) (h := hq)
    refine hq_callVi (a := 0) (ci := 11) [.int (4 : Int32), .int x90, .int x92] [.int x2, .ref 0] (pm_d rk_X11_ask 234 rfl) ml_X11_289 iv_X11_fresh rfl rfl rfl rfl rfl (Nat.le_of_ble_eq_true rfl) hM ?_
    obtain ⟨t95, hq, h⟩ := pm_b1_i h
    have hM := w_M_X11_same_0 (d := d + 1) (h := hq)
    refine hq_callVv (a := 0) (ci := 11) [.int x2, .int x94] [] (pm_d rk_X11_ask 235 rfl) ml_X11_283 iv_X11_same rfl rfl rfl rfl rfl (Nat.le_of_ble_eq_true rfl) hM ?_
    exact hq_vret (pm_d rk_X11_ask 236 rfl) rfl h
  rw [if_neg hc15] at h
  by_cases hc16 : x3 = (18 : Int32)
  · rw [if_pos hc16] at h
    refine hq_tableIn 530 (pm_d rk_X11_ask 9 rfl) (by rw [hc16]; decide) (by rw [hc16]; decide) (by rw [hc16] <;> rfl) (by decide) ?_
    refine hq_aload_n (pm_d rk_X11_ask 216 rfl) rfl 1 rfl ?_
    show hp_go _ _ _ _ _ 531 _ _ _
    refine hq_iload (pm_d rk_X11_ask 217 rfl) 0 rfl ?_
    refine hq_aload_n (pm_d rk_X11_ask 218 rfl) rfl 1 rfl ?_
    refine hq_iconst (v := (4 : Int32)) (pm_d rk_X11_ask 219 rfl) (by decide) ?_
    refine hq_aload_n (pm_d rk_X11_ask 220 rfl) rfl 1 rfl ?_
    refine hq_iload_n (pm_d rk_X11_ask 221 rfl) rfl 2 rfl ?_
    refine hq_aload_n (pm_d rk_X11_ask 222 rfl) rfl 1 rfl ?_
    show hp_go _ _ _ _ _ 538 _ _ _
    refine hq_getR (h := 7) 14 (pm_d rk_X11_ask 223 rfl) fl_X11_33 rfl rfl ?_
    refine hq_iload_n (pm_d rk_X11_ask 224 rfl) rfl 3 rfl ?_
    obtain ⟨hg, h⟩ := pm_gd_i h
    refine hq_iaload (pm_d rk_X11_ask 225 rfl) rfl hg ?_
    obtain ⟨x97, t96, hq, h⟩ := pm_bd_i h
    have hM := w_M_X11_typeOf_0 (d := d + 0) (h := hq)
    refine hq_callVi (a := 0) (ci := 11) [.int a1, .int (hs_A t1 7 a2.toNatClampNeg)] [.int (4 : Int32), .ref 0, .int x2, .ref 0] (pm_d rk_X11_ask 226 rfl) ml_X11_277 iv_X11_typeOf rfl rfl rfl rfl rfl (Nat.le_of_ble_eq_true rfl) hM ?_
    refine hq_aload_n (pm_d rk_X11_ask 227 rfl) rfl 1 rfl ?_
    refine hq_iload_n (pm_d rk_X11_ask 228 rfl) rfl 2 rfl ?_
    show hp_go _ _ _ _ _ 548 _ _ _
    refine hq_aload_n (pm_d rk_X11_ask 229 rfl) rfl 1 rfl ?_
    refine hq_getR (h := 8) 15 (pm_d rk_X11_ask 230 rfl) fl_X11_36 rfl rfl ?_
    refine hq_iload_n (pm_d rk_X11_ask 231 rfl) rfl 3 rfl ?_
    obtain ⟨hg, h⟩ := pm_gd_i h
    refine hq_iaload (pm_d rk_X11_ask 232 rfl) rfl hg ?_
    obtain ⟨x99, t98, hq, h⟩ := pm_bd_i h
    have hM := w_M_X11_typeOf_0 (d := d + 0) (h := hq)
    refine hq_callVi (a := 0) (ci := 11) [.int a1, .int (hs_A t96 8 a2.toNatClampNeg)] [.int x97, .int (4 : Int32), .ref 0, .int x2, .ref 0] (pm_d rk_X11_ask 233 rfl) ml_X11_277 iv_X11_typeOf rfl rfl rfl rfl rfl (Nat.le_of_ble_eq_true rfl) hM ?_
    obtain ⟨x101, t100, hq, h⟩ := pm_bd_i h
    have hM := w_M_X11_fresh_0 (d := d + 2) (h := hq)
    refine hq_callVi (a := 0) (ci := 11) [.int (4 : Int32), .int x97, .int x99] [.int x2, .ref 0] (pm_d rk_X11_ask 234 rfl) ml_X11_289 iv_X11_fresh rfl rfl rfl rfl rfl (Nat.le_of_ble_eq_true rfl) hM ?_
    show hp_go _ _ _ _ _ 560 _ _ _
    obtain ⟨t102, hq, h⟩ := pm_b1_i h
    have hM := w_M_X11_same_0 (d := d + 1) (h := hq)
    refine hq_callVv (a := 0) (ci := 11) [.int x2, .int x101] [] (pm_d rk_X11_ask 235 rfl) ml_X11_283 iv_X11_same rfl rfl rfl rfl rfl (Nat.le_of_ble_eq_true rfl) hM ?_
    exact hq_vret (pm_d rk_X11_ask 236 rfl) rfl h
  rw [if_neg hc16] at h
  by_cases hc17 : x3 = (19 : Int32)
  · rw [if_pos hc17] at h
    refine hq_tableIn 425 (pm_d rk_X11_ask 9 rfl) (by rw [hc17]; decide) (by rw [hc17]; decide) (by rw [hc17] <;> rfl) (by decide) ?_
    refine hq_aload_n (pm_d rk_X11_ask 158 rfl) rfl 1 rfl ?_
    refine hq_aload_n (pm_d rk_X11_ask 159 rfl) rfl 1 rfl ?_
    refine hq_iload_n (pm_d rk_X11_ask 160 rfl) rfl 2 rfl ?_
    refine hq_aload_n (pm_d rk_X11_ask 161 rfl) rfl 1 rfl ?_
    show hp_go _ _ _ _ _ 429 _ _ _
    refine hq_getR (h := 7) 14 (pm_d rk_X11_ask 162 rfl) fl_X11_33 rfl rfl ?_
    refine hq_iload_n (pm_d rk_X11_ask 163 rfl) rfl 3 rfl ?_
    obtain ⟨hg, h⟩ := pm_gd_i h
    refine hq_iaload (pm_d rk_X11_ask 164 rfl) rfl hg ?_
    obtain ⟨x104, t103, hq, h⟩ := pm_bd_i h
    have hM := w_M_X11_typeOf_0 (d := d + 0) (h := hq)
    refine hq_callVi (a := 0) (ci := 11) [.int a1, .int (hs_A t1 7 a2.toNatClampNeg)] [.ref 0] (pm_d rk_X11_ask 165 rfl) ml_X11_277 iv_X11_typeOf rfl rfl rfl rfl rfl (Nat.le_of_ble_eq_true rfl) hM ?_
    refine hq_aload_n (pm_d rk_X11_ask 166 rfl) rfl 1 rfl ?_
    refine hq_getI 57 (pm_d rk_X11_ask 167 rfl) fl_X11_280 rfl rfl ?_
    show hp_go _ _ _ _ _ 441 _ _ _
    obtain ⟨t105, hq, h⟩ := pm_b1_i h
    have hM := w_M_X11_same_0 (d := d + 1) (h := hq)
    refine hq_callVv (a := 0) (ci := 11) [.int x104, .int (hs_I t103 0 57)] [] (pm_d rk_X11_ask 168 rfl) ml_X11_283 iv_X11_same rfl rfl rfl rfl rfl (Nat.le_of_ble_eq_true rfl) hM ?_
    refine hq_aload_n (pm_d rk_X11_ask 169 rfl) rfl 1 rfl ?_
    refine hq_aload_n (pm_d rk_X11_ask 170 rfl) rfl 1 rfl ?_
    refine hq_iload_n (pm_d rk_X11_ask 171 rfl) rfl 2 rfl ?_
    refine hq_aload_n (pm_d rk_X11_ask 172 rfl) rfl 1 rfl ?_
    refine hq_getR (h := 8) 15 (pm_d rk_X11_ask 173 rfl) fl_X11_36 rfl rfl ?_
    show hp_go _ _ _ _ _ 451 _ _ _
    refine hq_iload_n (pm_d rk_X11_ask 174 rfl) rfl 3 rfl ?_
    obtain ⟨hg, h⟩ := pm_gd_i h
    refine hq_iaload (pm_d rk_X11_ask 175 rfl) rfl hg ?_
    obtain ⟨x107, t106, hq, h⟩ := pm_bd_i h
    have hM := w_M_X11_typeOf_0 (d := d + 0) (h := hq)
    refine hq_callVi (a := 0) (ci := 11) [.int a1, .int (hs_A t105 8 a2.toNatClampNeg)] [.ref 0] (pm_d rk_X11_ask 176 rfl) ml_X11_277 iv_X11_typeOf rfl rfl rfl rfl rfl (Nat.le_of_ble_eq_true rfl) hM ?_
    refine hq_aload_n (pm_d rk_X11_ask 177 rfl) rfl 1 rfl ?_
    refine hq_getI 57 (pm_d rk_X11_ask 178 rfl) fl_X11_280 rfl rfl ?_
    obtain ⟨t108, hq, h⟩ := pm_b1_i h
    have hM := w_M_X11_same_0 (d := d + 1) (h := hq)
    refine hq_callVv (a := 0) (ci := 11) [.int x107, .int (hs_I t106 0 57)] [] (pm_d rk_X11_ask 179 rfl) ml_X11_283 iv_X11_same rfl rfl rfl rfl rfl (Nat.le_of_ble_eq_true rfl) hM ?_
    show hp_go _ _ _ _ _ 463 _ _ _
    refine hq_aload_n (pm_d rk_X11_ask 180 rfl) rfl 1 rfl ?_
    refine hq_iload (pm_d rk_X11_ask 181 rfl) 0 rfl ?_
    refine hq_aload_n (pm_d rk_X11_ask 182 rfl) rfl 1 rfl ?_
    refine hq_getR (h := 6) 13 (pm_d rk_X11_ask 183 rfl) fl_X11_30 rfl rfl ?_
    refine hq_iload_n (pm_d rk_X11_ask 184 rfl) rfl 3 rfl ?_
    obtain ⟨hg, h⟩ := pm_gd_i h
    refine hq_iaload (pm_d rk_X11_ask 185 rfl) rfl hg ?_
    show hp_go _ _ _ _ _ 472 _ _ _
    refine hq_bipush (v := (20 : Int32)) (pm_d rk_X11_ask 186 rfl) (by decide) ?_
    refine pm_jn (P := fun j488 => ∀ (z488_S0 : Int32) (z488_S1 : Int32) (s : hp_S), j488 z488_S0 z488_S1 s = some s1 → hp_go sh_M me_X11_ask (d + 3) none s1 488 [] [.int z488_S0, .int z488_S1, .ref 0] s) h ?_ (fun j488 hj488 h => ?_)
    · intro z488_S0 z488_S1 s h
      dsimp only at h
      obtain ⟨t109, hq, h⟩ := pm_b1_i h
      have hM := w_M_X11_same_0 (d := d + 1) (h := hq)
      refine hq_callVv (a := 0) (ci := 11) [.int z488_S1, .int z488_S0] [] (pm_d rk_X11_ask 193 rfl) ml_X11_283 iv_X11_same rfl rfl rfl rfl rfl (Nat.le_of_ble_eq_true rfl) hM ?_
      refine hq_goto 563 (pm_d rk_X11_ask 194 rfl) (by decide) ?_
      exact hq_vret (pm_d rk_X11_ask 236 rfl) rfl h
    refine hq_icmp_ne 484 (pm_d rk_X11_ask 187 rfl) (by decide) (fun hc => ?_) (fun hc => ?_)
    · rw [if_neg hc] at h
      refine hq_aload_n (pm_d rk_X11_ask 191 rfl) rfl 1 rfl ?_
      show hp_go _ _ _ _ _ 485 _ _ _
      refine hq_getI 57 (pm_d rk_X11_ask 192 rfl) fl_X11_280 rfl rfl ?_
      refine hq_drop [] rfl ?_
      exact hj488 _ _ _ h
    rw [if_pos hc] at h
    refine hq_aload_n (pm_d rk_X11_ask 188 rfl) rfl 1 rfl ?_
    refine hq_getI 58 (pm_d rk_X11_ask 189 rfl) fl_X11_286 rfl rfl ?_
    refine hq_goto 488 (pm_d rk_X11_ask 190 rfl) (by decide) ?_
    refine hq_drop [] rfl ?_
    exact hj488 _ _ _ h
  rw [if_neg hc17] at h
  by_cases hc18 : x3 = (20 : Int32)
  · rw [if_pos hc18] at h
    refine hq_tableIn 425 (pm_d rk_X11_ask 9 rfl) (by rw [hc18]; decide) (by rw [hc18]; decide) (by rw [hc18] <;> rfl) (by decide) ?_
    refine hq_aload_n (pm_d rk_X11_ask 158 rfl) rfl 1 rfl ?_
    refine hq_aload_n (pm_d rk_X11_ask 159 rfl) rfl 1 rfl ?_
    show hp_go _ _ _ _ _ 427 _ _ _
    refine hq_iload_n (pm_d rk_X11_ask 160 rfl) rfl 2 rfl ?_
    refine hq_aload_n (pm_d rk_X11_ask 161 rfl) rfl 1 rfl ?_
    refine hq_getR (h := 7) 14 (pm_d rk_X11_ask 162 rfl) fl_X11_33 rfl rfl ?_
    refine hq_iload_n (pm_d rk_X11_ask 163 rfl) rfl 3 rfl ?_
    obtain ⟨hg, h⟩ := pm_gd_i h
    refine hq_iaload (pm_d rk_X11_ask 164 rfl) rfl hg ?_
    obtain ⟨x111, t110, hq, h⟩ := pm_bd_i h
    have hM := w_M_X11_typeOf_0 (d := d + 0) (h := hq)
    refine hq_callVi (a := 0) (ci := 11) [.int a1, .int (hs_A t1 7 a2.toNatClampNeg)] [.ref 0] (pm_d rk_X11_ask 165 rfl) ml_X11_277 iv_X11_typeOf rfl rfl rfl rfl rfl (Nat.le_of_ble_eq_true rfl) hM ?_
    show hp_go _ _ _ _ _ 437 _ _ _
    refine hq_aload_n (pm_d rk_X11_ask 166 rfl) rfl 1 rfl ?_
    refine hq_getI 57 (pm_d rk_X11_ask 167 rfl) fl_X11_280 rfl rfl ?_
    obtain ⟨t112, hq, h⟩ := pm_b1_i h
    have hM := w_M_X11_same_0 (d := d + 1) (h := hq)
    refine hq_callVv (a := 0) (ci := 11) [.int x111, .int (hs_I t110 0 57)] [] (pm_d rk_X11_ask 168 rfl) ml_X11_283 iv_X11_same rfl rfl rfl rfl rfl (Nat.le_of_ble_eq_true rfl) hM ?_
    refine hq_aload_n (pm_d rk_X11_ask 169 rfl) rfl 1 rfl ?_
    refine hq_aload_n (pm_d rk_X11_ask 170 rfl) rfl 1 rfl ?_
    refine hq_iload_n (pm_d rk_X11_ask 171 rfl) rfl 2 rfl ?_
    show hp_go _ _ _ _ _ 447 _ _ _
    refine hq_aload_n (pm_d rk_X11_ask 172 rfl) rfl 1 rfl ?_
    refine hq_getR (h := 8) 15 (pm_d rk_X11_ask 173 rfl) fl_X11_36 rfl rfl ?_
    refine hq_iload_n (pm_d rk_X11_ask 174 rfl) rfl 3 rfl ?_
    obtain ⟨hg, h⟩ := pm_gd_i h
    refine hq_iaload (pm_d rk_X11_ask 175 rfl) rfl hg ?_
    obtain ⟨x114, t113, hq, h⟩ := pm_bd_i h
    have hM := w_M_X11_typeOf_0 (d := d + 0) (h := hq)
    refine hq_callVi (a := 0) (ci := 11) [.int a1, .int (hs_A t112 8 a2.toNatClampNeg)] [.ref 0] (pm_d rk_X11_ask 176 rfl) ml_X11_277 iv_X11_typeOf rfl rfl rfl rfl rfl (Nat.le_of_ble_eq_true rfl) hM ?_
    refine hq_aload_n (pm_d rk_X11_ask 177 rfl) rfl 1 rfl ?_
    show hp_go _ _ _ _ _ 457 _ _ _
    refine hq_getI 57 (pm_d rk_X11_ask 178 rfl) fl_X11_280 rfl rfl ?_
    obtain ⟨t115, hq, h⟩ := pm_b1_i h
    have hM := w_M_X11_same_0 (d := d + 1) (h := hq)
    refine hq_callVv (a := 0) (ci := 11) [.int x114, .int (hs_I t113 0 57)] [] (pm_d rk_X11_ask 179 rfl) ml_X11_283 iv_X11_same rfl rfl rfl rfl rfl (Nat.le_of_ble_eq_true rfl) hM ?_
    refine hq_aload_n (pm_d rk_X11_ask 180 rfl) rfl 1 rfl ?_
    refine hq_iload (pm_d rk_X11_ask 181 rfl) 0 rfl ?_
    refine hq_aload_n (pm_d rk_X11_ask 182 rfl) rfl 1 rfl ?_
    refine hq_getR (h := 6) 13 (pm_d rk_X11_ask 183 rfl) fl_X11_30 rfl rfl ?_
    show hp_go _ _ _ _ _ 470 _ _ _
    refine hq_iload_n (pm_d rk_X11_ask 184 rfl) rfl 3 rfl ?_
    obtain ⟨hg, h⟩ := pm_gd_i h
    refine hq_iaload (pm_d rk_X11_ask 185 rfl) rfl hg ?_
    refine hq_bipush (v := (20 : Int32)) (pm_d rk_X11_ask 186 rfl) (by decide) ?_
    refine pm_jn (P := fun j488 => ∀ (z488_S0 : Int32) (z488_S1 : Int32) (s : hp_S), j488 z488_S0 z488_S1 s = some s1 → hp_go sh_M me_X11_ask (d + 3) none s1 488 [] [.int z488_S0, .int z488_S1, .ref 0] s) h ?_ (fun j488 hj488 h => ?_)
    · intro z488_S0 z488_S1 s h
      dsimp only at h
      obtain ⟨t116, hq, h⟩ := pm_b1_i h
      have hM := w_M_X11_same_0 (d := d + 1) (h := hq)
      refine hq_callVv (a := 0) (ci := 11) [.int z488_S1, .int z488_S0] [] (pm_d rk_X11_ask 193 rfl) ml_X11_283 iv_X11_same rfl rfl rfl rfl rfl (Nat.le_of_ble_eq_true rfl) hM ?_
      refine hq_goto 563 (pm_d rk_X11_ask 194 rfl) (by decide) ?_
      exact hq_vret (pm_d rk_X11_ask 236 rfl) rfl h
    show hp_go _ _ _ _ _ 474 _ _ _
    refine hq_icmp_ne 484 (pm_d rk_X11_ask 187 rfl) (by decide) (fun hc => ?_) (fun hc => ?_)
    · rw [if_neg hc] at h
      refine hq_aload_n (pm_d rk_X11_ask 191 rfl) rfl 1 rfl ?_
      refine hq_getI 57 (pm_d rk_X11_ask 192 rfl) fl_X11_280 rfl rfl ?_
      refine hq_drop [] rfl ?_
      exact hj488 _ _ _ h
    rw [if_pos hc] at h
    refine hq_aload_n (pm_d rk_X11_ask 188 rfl) rfl 1 rfl ?_
    refine hq_getI 58 (pm_d rk_X11_ask 189 rfl) fl_X11_286 rfl rfl ?_
    refine hq_goto 488 (pm_d rk_X11_ask 190 rfl) (by decide) ?_
    refine hq_drop [] rfl ?_
    exact hj488 _ _ _ h
  rw [if_neg hc18] at h
  by_cases hc19 : x3 = (21 : Int32)
  · rw [if_pos hc19] at h
    refine hq_tableIn 530 (pm_d rk_X11_ask 9 rfl) (by rw [hc19]; decide) (by rw [hc19]; decide) (by rw [hc19] <;> rfl) (by decide) ?_
    show hp_go _ _ _ _ _ 530 _ _ _
    refine hq_aload_n (pm_d rk_X11_ask 216 rfl) rfl 1 rfl ?_
    refine hq_iload (pm_d rk_X11_ask 217 rfl) 0 rfl ?_
    refine hq_aload_n (pm_d rk_X11_ask 218 rfl) rfl 1 rfl ?_
    refine hq_iconst (v := (4 : Int32)) (pm_d rk_X11_ask 219 rfl) (by decide) ?_
    refine hq_aload_n (pm_d rk_X11_ask 220 rfl) rfl 1 rfl ?_
    refine hq_iload_n (pm_d rk_X11_ask 221 rfl) rfl 2 rfl ?_
    show hp_go _ _ _ _ _ 537 _ _ _
    refine hq_aload_n (pm_d rk_X11_ask 222 rfl) rfl 1 rfl ?_
    refine hq_getR (h := 7) 14 (pm_d rk_X11_ask 223 rfl) fl_X11_33 rfl rfl ?_
    refine hq_iload_n (pm_d rk_X11_ask 224 rfl) rfl 3 rfl ?_
    obtain ⟨hg, h⟩ := pm_gd_i h
    refine hq_iaload (pm_d rk_X11_ask 225 rfl) rfl hg ?_
    obtain ⟨x118, t117, hq, h⟩ := pm_bd_i h
    have hM := w_M_X11_typeOf_0 (d := d + 0) (h := hq)
    refine hq_callVi (a := 0) (ci := 11) [.int a1, .int (hs_A t1 7 a2.toNatClampNeg)] [.int (4 : Int32), .ref 0, .int x2, .ref 0] (pm_d rk_X11_ask 226 rfl) ml_X11_277 iv_X11_typeOf rfl rfl rfl rfl rfl (Nat.le_of_ble_eq_true rfl) hM ?_
    refine hq_aload_n (pm_d rk_X11_ask 227 rfl) rfl 1 rfl ?_
    show hp_go _ _ _ _ _ 547 _ _ _
    refine hq_iload_n (pm_d rk_X11_ask 228 rfl) rfl 2 rfl ?_
    refine hq_aload_n (pm_d rk_X11_ask 229 rfl) rfl 1 rfl ?_
    refine hq_getR (h := 8) 15 (pm_d rk_X11_ask 230 rfl) fl_X11_36 rfl rfl ?_
    refine hq_iload_n (pm_d rk_X11_ask 231 rfl) rfl 3 rfl ?_
    obtain ⟨hg, h⟩ := pm_gd_i h
    refine hq_iaload (pm_d rk_X11_ask 232 rfl) rfl hg ?_
    obtain ⟨x120, t119, hq, h⟩ := pm_bd_i h
    have hM := w_M_X11_typeOf_0 (d := d + 0) (h := hq)
    refine hq_callVi (a := 0) (ci := 11) [.int a1, .int (hs_A t117 8 a2.toNatClampNeg)] [.int x118, .int (4 : Int32), .ref 0, .int x2, .ref 0] (pm_d rk_X11_ask 233 rfl) ml_X11_277 iv_X11_typeOf rfl rfl rfl rfl rfl (Nat.le_of_ble_eq_true rfl) hM ?_
    show hp_go _ _ _ _ _ 557 _ _ _
    obtain ⟨x122, t121, hq, h⟩ := pm_bd_i h
    have hM := w_M_X11_fresh_0 (d := d + 2) (h := hq)
    refine hq_callVi (a := 0) (ci := 11) [.int (4 : Int32), .int x118, .int x120] [.int x2, .ref 0] (pm_d rk_X11_ask 234 rfl) ml_X11_289 iv_X11_fresh rfl rfl rfl rfl rfl (Nat.le_of_ble_eq_true rfl) hM ?_
    obtain ⟨t123, hq, h⟩ := pm_b1_i h
    have hM := w_M_X11_same_0 (d := d + 1) (h := hq)
    refine hq_callVv (a := 0) (ci := 11) [.int x2, .int x122] [] (pm_d rk_X11_ask 235 rfl) ml_X11_283 iv_X11_same rfl rfl rfl rfl rfl (Nat.le_of_ble_eq_true rfl) hM ?_
    exact hq_vret (pm_d rk_X11_ask 236 rfl) rfl h
  rw [if_neg hc19] at h
  by_cases hc20 : x3 = (22 : Int32)
  · rw [if_pos hc20] at h
    refine hq_tableIn 530 (pm_d rk_X11_ask 9 rfl) (by rw [hc20]; decide) (by rw [hc20]; decide) (by rw [hc20] <;> rfl) (by decide) ?_
    refine hq_aload_n (pm_d rk_X11_ask 216 rfl) rfl 1 rfl ?_
    refine hq_iload (pm_d rk_X11_ask 217 rfl) 0 rfl ?_
    refine hq_aload_n (pm_d rk_X11_ask 218 rfl) rfl 1 rfl ?_
    show hp_go _ _ _ _ _ 534 _ _ _
    refine hq_iconst (v := (4 : Int32)) (pm_d rk_X11_ask 219 rfl) (by decide) ?_
    refine hq_aload_n (pm_d rk_X11_ask 220 rfl) rfl 1 rfl ?_
    refine hq_iload_n (pm_d rk_X11_ask 221 rfl) rfl 2 rfl ?_
    refine hq_aload_n (pm_d rk_X11_ask 222 rfl) rfl 1 rfl ?_
    refine hq_getR (h := 7) 14 (pm_d rk_X11_ask 223 rfl) fl_X11_33 rfl rfl ?_
    refine hq_iload_n (pm_d rk_X11_ask 224 rfl) rfl 3 rfl ?_
    show hp_go _ _ _ _ _ 542 _ _ _
    obtain ⟨hg, h⟩ := pm_gd_i h
    refine hq_iaload (pm_d rk_X11_ask 225 rfl) rfl hg ?_
    obtain ⟨x125, t124, hq, h⟩ := pm_bd_i h
    have hM := w_M_X11_typeOf_0 (d := d + 0) (h := hq)
    refine hq_callVi (a := 0) (ci := 11) [.int a1, .int (hs_A t1 7 a2.toNatClampNeg)] [.int (4 : Int32), .ref 0, .int x2, .ref 0] (pm_d rk_X11_ask 226 rfl) ml_X11_277 iv_X11_typeOf rfl rfl rfl rfl rfl (Nat.le_of_ble_eq_true rfl) hM ?_
    refine hq_aload_n (pm_d rk_X11_ask 227 rfl) rfl 1 rfl ?_
    refine hq_iload_n (pm_d rk_X11_ask 228 rfl) rfl 2 rfl ?_
    refine hq_aload_n (pm_d rk_X11_ask 229 rfl) rfl 1 rfl ?_
    refine hq_getR (h := 8) 15 (pm_d rk_X11_ask 230 rfl) fl_X11_36 rfl rfl ?_
    show hp_go _ _ _ _ _ 552 _ _ _
    refine hq_iload_n (pm_d rk_X11_ask 231 rfl) rfl 3 rfl ?_
    obtain ⟨hg, h⟩ := pm_gd_i h
    refine hq_iaload (pm_d rk_X11_ask 232 rfl) rfl hg ?_
    obtain ⟨x127, t126, hq, h⟩ := pm_bd_i h
    have hM := w_M_X11_typeOf_0 (d := d + 0) (h := hq)
    refine hq_callVi (a := 0) (ci := 11) [.int a1, .int (hs_A t124 8 a2.toNatClampNeg)] [.int x125, .int (4 : Int32), .ref 0, .int x2, .ref 0] (pm_d rk_X11_ask 233 rfl) ml_X11_277 iv_X11_typeOf rfl rfl rfl rfl rfl (Nat.le_of_ble_eq_true rfl) hM ?_
    obtain ⟨x129, t128, hq, h⟩ := pm_bd_i h
    have hM := w_M_X11_fresh_0 (d := d + 2) (h := hq)
    refine hq_callVi (a := 0) (ci := 11) [.int (4 : Int32), .int x125, .int x127] [.int x2, .ref 0] (pm_d rk_X11_ask 234 rfl) ml_X11_289 iv_X11_fresh rfl rfl rfl rfl rfl (Nat.le_of_ble_eq_true rfl) hM ?_
    obtain ⟨t130, hq, h⟩ := pm_b1_i h
    have hM := w_M_X11_same_0 (d := d + 1) (h := hq)
    refine hq_callVv (a := 0) (ci := 11) [.int x2, .int x129] [] (pm_d rk_X11_ask 235 rfl) ml_X11_283 iv_X11_same rfl rfl rfl rfl rfl (Nat.le_of_ble_eq_true rfl) hM ?_
    exact hq_vret (pm_d rk_X11_ask 236 rfl) rfl h
  rw [if_neg hc20] at h
  by_cases hc21 : x3 = (23 : Int32)
  · rw [if_pos hc21] at h
    refine hq_tableIn 530 (pm_d rk_X11_ask 9 rfl) (by rw [hc21]; decide) (by rw [hc21]; decide) (by rw [hc21] <;> rfl) (by decide) ?_
    show hp_go _ _ _ _ _ 530 _ _ _
    refine hq_aload_n (pm_d rk_X11_ask 216 rfl) rfl 1 rfl ?_
    refine hq_iload (pm_d rk_X11_ask 217 rfl) 0 rfl ?_
    refine hq_aload_n (pm_d rk_X11_ask 218 rfl) rfl 1 rfl ?_
    refine hq_iconst (v := (4 : Int32)) (pm_d rk_X11_ask 219 rfl) (by decide) ?_
    refine hq_aload_n (pm_d rk_X11_ask 220 rfl) rfl 1 rfl ?_
    refine hq_iload_n (pm_d rk_X11_ask 221 rfl) rfl 2 rfl ?_
    show hp_go _ _ _ _ _ 537 _ _ _
    refine hq_aload_n (pm_d rk_X11_ask 222 rfl) rfl 1 rfl ?_
    refine hq_getR (h := 7) 14 (pm_d rk_X11_ask 223 rfl) fl_X11_33 rfl rfl ?_
    refine hq_iload_n (pm_d rk_X11_ask 224 rfl) rfl 3 rfl ?_
    obtain ⟨hg, h⟩ := pm_gd_i h
    refine hq_iaload (pm_d rk_X11_ask 225 rfl) rfl hg ?_
    obtain ⟨x132, t131, hq, h⟩ := pm_bd_i h
    have hM := w_M_X11_typeOf_0 (d := d + 0) (h := hq)
    refine hq_callVi (a := 0) (ci := 11) [.int a1, .int (hs_A t1 7 a2.toNatClampNeg)] [.int (4 : Int32), .ref 0, .int x2, .ref 0] (pm_d rk_X11_ask 226 rfl) ml_X11_277 iv_X11_typeOf rfl rfl rfl rfl rfl (Nat.le_of_ble_eq_true rfl) hM ?_
    refine hq_aload_n (pm_d rk_X11_ask 227 rfl) rfl 1 rfl ?_
    show hp_go _ _ _ _ _ 547 _ _ _
    refine hq_iload_n (pm_d rk_X11_ask 228 rfl) rfl 2 rfl ?_
    refine hq_aload_n (pm_d rk_X11_ask 229 rfl) rfl 1 rfl ?_
    refine hq_getR (h := 8) 15 (pm_d rk_X11_ask 230 rfl) fl_X11_36 rfl rfl ?_
    refine hq_iload_n (pm_d rk_X11_ask 231 rfl) rfl 3 rfl ?_
    obtain ⟨hg, h⟩ := pm_gd_i h
    refine hq_iaload (pm_d rk_X11_ask 232 rfl) rfl hg ?_
    obtain ⟨x134, t133, hq, h⟩ := pm_bd_i h
    have hM := w_M_X11_typeOf_0 (d := d + 0) (h := hq)
    refine hq_callVi (a := 0) (ci := 11) [.int a1, .int (hs_A t131 8 a2.toNatClampNeg)] [.int x132, .int (4 : Int32), .ref 0, .int x2, .ref 0] (pm_d rk_X11_ask 233 rfl) ml_X11_277 iv_X11_typeOf rfl rfl rfl rfl rfl (Nat.le_of_ble_eq_true rfl) hM ?_
    show hp_go _ _ _ _ _ 557 _ _ _
    obtain ⟨x136, t135, hq, h⟩ := pm_bd_i h
    have hM := w_M_X11_fresh_0 (d := d + 2) (h := hq)
    refine hq_callVi (a := 0) (ci := 11) [.int (4 : Int32), .int x132, .int x134] [.int x2, .ref 0] (pm_d rk_X11_ask 234 rfl) ml_X11_289 iv_X11_fresh rfl rfl rfl rfl rfl (Nat.le_of_ble_eq_true rfl) hM ?_
    obtain ⟨t137, hq, h⟩ := pm_b1_i h
    have hM := w_M_X11_same_0 (d := d + 1) (h := hq)
    refine hq_callVv (a := 0) (ci := 11) [.int x2, .int x136] [] (pm_d rk_X11_ask 235 rfl) ml_X11_283 iv_X11_same rfl rfl rfl rfl rfl (Nat.le_of_ble_eq_true rfl) hM ?_
    exact hq_vret (pm_d rk_X11_ask 236 rfl) rfl h
  rw [if_neg hc21] at h
  by_cases hc22 : x3 = (24 : Int32)
  · rw [if_pos hc22] at h
    refine hq_tableIn 530 (pm_d rk_X11_ask 9 rfl) (by rw [hc22]; decide) (by rw [hc22]; decide) (by rw [hc22] <;> rfl) (by decide) ?_
    refine hq_aload_n (pm_d rk_X11_ask 216 rfl) rfl 1 rfl ?_
    refine hq_iload (pm_d rk_X11_ask 217 rfl) 0 rfl ?_
    refine hq_aload_n (pm_d rk_X11_ask 218 rfl) rfl 1 rfl ?_
    show hp_go _ _ _ _ _ 534 _ _ _
    refine hq_iconst (v := (4 : Int32)) (pm_d rk_X11_ask 219 rfl) (by decide) ?_
    refine hq_aload_n (pm_d rk_X11_ask 220 rfl) rfl 1 rfl ?_
    refine hq_iload_n (pm_d rk_X11_ask 221 rfl) rfl 2 rfl ?_
    refine hq_aload_n (pm_d rk_X11_ask 222 rfl) rfl 1 rfl ?_
    refine hq_getR (h := 7) 14 (pm_d rk_X11_ask 223 rfl) fl_X11_33 rfl rfl ?_
    refine hq_iload_n (pm_d rk_X11_ask 224 rfl) rfl 3 rfl ?_
    show hp_go _ _ _ _ _ 542 _ _ _
    obtain ⟨hg, h⟩ := pm_gd_i h
    refine hq_iaload (pm_d rk_X11_ask 225 rfl) rfl hg ?_
    obtain ⟨x139, t138, hq, h⟩ := pm_bd_i h
    have hM := w_M_X11_typeOf_0 (d := d + 0) (h := hq)
    refine hq_callVi (a := 0) (ci := 11) [.int a1, .int (hs_A t1 7 a2.toNatClampNeg)] [.int (4 : Int32), .ref 0, .int x2, .ref 0] (pm_d rk_X11_ask 226 rfl) ml_X11_277 iv_X11_typeOf rfl rfl rfl rfl rfl (Nat.le_of_ble_eq_true rfl) hM ?_
    refine hq_aload_n (pm_d rk_X11_ask 227 rfl) rfl 1 rfl ?_
    refine hq_iload_n (pm_d rk_X11_ask 228 rfl) rfl 2 rfl ?_
    refine hq_aload_n (pm_d rk_X11_ask 229 rfl) rfl 1 rfl ?_
    refine hq_getR (h := 8) 15 (pm_d rk_X11_ask 230 rfl) fl_X11_36 rfl rfl ?_
    show hp_go _ _ _ _ _ 552 _ _ _
    refine hq_iload_n (pm_d rk_X11_ask 231 rfl) rfl 3 rfl ?_
    obtain ⟨hg, h⟩ := pm_gd_i h
    refine hq_iaload (pm_d rk_X11_ask 232 rfl) rfl hg ?_
    obtain ⟨x141, t140, hq, h⟩ := pm_bd_i h
    have hM := w_M_X11_typeOf_0 (d := d + 0) (h := hq)
    refine hq_callVi (a := 0) (ci := 11) [.int a1, .int (hs_A t138 8 a2.toNatClampNeg)] [.int x139, .int (4 : Int32), .ref 0, .int x2, .ref 0] (pm_d rk_X11_ask 233 rfl) ml_X11_277 iv_X11_typeOf rfl rfl rfl rfl rfl (Nat.le_of_ble_eq_true rfl) hM ?_
    obtain ⟨x143, t142, hq, h⟩ := pm_bd_i h
    have hM := w_M_X11_fresh_0 (d := d + 2) (h := hq)
    refine hq_callVi (a := 0) (ci := 11) [.int (4 : Int32), .int x139, .int x141] [.int x2, .ref 0] (pm_d rk_X11_ask 234 rfl) ml_X11_289 iv_X11_fresh rfl rfl rfl rfl rfl (Nat.le_of_ble_eq_true rfl) hM ?_
    obtain ⟨t144, hq, h⟩ := pm_b1_i h
    have hM := w_M_X11_same_0 (d := d + 1) (h := hq)
    refine hq_callVv (a := 0) (ci := 11) [.int x2, .int x143] [] (pm_d rk_X11_ask 235 rfl) ml_X11_283 iv_X11_same rfl rfl rfl rfl rfl (Nat.le_of_ble_eq_true rfl) hM ?_
    exact hq_vret (pm_d rk_X11_ask 236 rfl) rfl h
  rw [if_neg hc22] at h
  by_cases hc23 : x3 = (25 : Int32)
  · rw [if_pos hc23] at h
    refine hq_tableIn 530 (pm_d rk_X11_ask 9 rfl) (by rw [hc23]; decide) (by rw [hc23]; decide) (by rw [hc23] <;> rfl) (by decide) ?_
    show hp_go _ _ _ _ _ 530 _ _ _
    refine hq_aload_n (pm_d rk_X11_ask 216 rfl) rfl 1 rfl ?_
    refine hq_iload (pm_d rk_X11_ask 217 rfl) 0 rfl ?_
    refine hq_aload_n (pm_d rk_X11_ask 218 rfl) rfl 1 rfl ?_
    refine hq_iconst (v := (4 : Int32)) (pm_d rk_X11_ask 219 rfl) (by decide) ?_
    refine hq_aload_n (pm_d rk_X11_ask 220 rfl) rfl 1 rfl ?_
    refine hq_iload_n (pm_d rk_X11_ask 221 rfl) rfl 2 rfl ?_
    show hp_go _ _ _ _ _ 537 _ _ _
    refine hq_aload_n (pm_d rk_X11_ask 222 rfl) rfl 1 rfl ?_
    refine hq_getR (h := 7) 14 (pm_d rk_X11_ask 223 rfl) fl_X11_33 rfl rfl ?_
    refine hq_iload_n (pm_d rk_X11_ask 224 rfl) rfl 3 rfl ?_
    obtain ⟨hg, h⟩ := pm_gd_i h
    refine hq_iaload (pm_d rk_X11_ask 225 rfl) rfl hg ?_
    obtain ⟨x146, t145, hq, h⟩ := pm_bd_i h
    have hM := w_M_X11_typeOf_0 (d := d + 0) (h := hq)
    refine hq_callVi (a := 0) (ci := 11) [.int a1, .int (hs_A t1 7 a2.toNatClampNeg)] [.int (4 : Int32), .ref 0, .int x2, .ref 0] (pm_d rk_X11_ask 226 rfl) ml_X11_277 iv_X11_typeOf rfl rfl rfl rfl rfl (Nat.le_of_ble_eq_true rfl) hM ?_
    refine hq_aload_n (pm_d rk_X11_ask 227 rfl) rfl 1 rfl ?_
    show hp_go _ _ _ _ _ 547 _ _ _
    refine hq_iload_n (pm_d rk_X11_ask 228 rfl) rfl 2 rfl ?_
    refine hq_aload_n (pm_d rk_X11_ask 229 rfl) rfl 1 rfl ?_
    refine hq_getR (h := 8) 15 (pm_d rk_X11_ask 230 rfl) fl_X11_36 rfl rfl ?_
    refine hq_iload_n (pm_d rk_X11_ask 231 rfl) rfl 3 rfl ?_
    obtain ⟨hg, h⟩ := pm_gd_i h
    refine hq_iaload (pm_d rk_X11_ask 232 rfl) rfl hg ?_
    obtain ⟨x148, t147, hq, h⟩ := pm_bd_i h
    have hM := w_M_X11_typeOf_0 (d := d + 0) (h := hq)
    refine hq_callVi (a := 0) (ci := 11) [.int a1, .int (hs_A t145 8 a2.toNatClampNeg)] [.int x146, .int (4 : Int32), .ref 0, .int x2, .ref 0] (pm_d rk_X11_ask 233 rfl) ml_X11_277 iv_X11_typeOf rfl rfl rfl rfl rfl (Nat.le_of_ble_eq_true rfl) hM ?_
    show hp_go _ _ _ _ _ 557 _ _ _
    obtain ⟨x150, t149, hq, h⟩ := pm_bd_i h
    have hM := w_M_X11_fresh_0 (d := d + 2) (h := hq)
    refine hq_callVi (a := 0) (ci := 11) [.int (4 : Int32), .int x146, .int x148] [.int x2, .ref 0] (pm_d rk_X11_ask 234 rfl) ml_X11_289 iv_X11_fresh rfl rfl rfl rfl rfl (Nat.le_of_ble_eq_true rfl) hM ?_
    obtain ⟨t151, hq, h⟩ := pm_b1_i h
    have hM := w_M_X11_same_0 (d := d + 1) (h := hq)
    refine hq_callVv (a := 0) (ci := 11) [.int x2, .int x150] [] (pm_d rk_X11_ask 235 rfl) ml_X11_283 iv_X11_same rfl rfl rfl rfl rfl (Nat.le_of_ble_eq_true rfl) hM ?_
    exact hq_vret (pm_d rk_X11_ask 236 rfl) rfl h
  rw [if_neg hc23] at h
  by_cases hc24 : x3 = (26 : Int32)
  · rw [if_pos hc24] at h
    refine hq_tableIn 530 (pm_d rk_X11_ask 9 rfl) (by rw [hc24]; decide) (by rw [hc24]; decide) (by rw [hc24] <;> rfl) (by decide) ?_
    refine hq_aload_n (pm_d rk_X11_ask 216 rfl) rfl 1 rfl ?_
    refine hq_iload (pm_d rk_X11_ask 217 rfl) 0 rfl ?_
    refine hq_aload_n (pm_d rk_X11_ask 218 rfl) rfl 1 rfl ?_
    show hp_go _ _ _ _ _ 534 _ _ _
    refine hq_iconst (v := (4 : Int32)) (pm_d rk_X11_ask 219 rfl) (by decide) ?_
    refine hq_aload_n (pm_d rk_X11_ask 220 rfl) rfl 1 rfl ?_
    refine hq_iload_n (pm_d rk_X11_ask 221 rfl) rfl 2 rfl ?_
    refine hq_aload_n (pm_d rk_X11_ask 222 rfl) rfl 1 rfl ?_
    refine hq_getR (h := 7) 14 (pm_d rk_X11_ask 223 rfl) fl_X11_33 rfl rfl ?_
    refine hq_iload_n (pm_d rk_X11_ask 224 rfl) rfl 3 rfl ?_
    show hp_go _ _ _ _ _ 542 _ _ _
    obtain ⟨hg, h⟩ := pm_gd_i h
    refine hq_iaload (pm_d rk_X11_ask 225 rfl) rfl hg ?_
    obtain ⟨x153, t152, hq, h⟩ := pm_bd_i h
    have hM := w_M_X11_typeOf_0 (d := d + 0) (h := hq)
    refine hq_callVi (a := 0) (ci := 11) [.int a1, .int (hs_A t1 7 a2.toNatClampNeg)] [.int (4 : Int32), .ref 0, .int x2, .ref 0] (pm_d rk_X11_ask 226 rfl) ml_X11_277 iv_X11_typeOf rfl rfl rfl rfl rfl (Nat.le_of_ble_eq_true rfl) hM ?_
    refine hq_aload_n (pm_d rk_X11_ask 227 rfl) rfl 1 rfl ?_
    refine hq_iload_n (pm_d rk_X11_ask 228 rfl) rfl 2 rfl ?_
    refine hq_aload_n (pm_d rk_X11_ask 229 rfl) rfl 1 rfl ?_
    refine hq_getR (h := 8) 15 (pm_d rk_X11_ask 230 rfl) fl_X11_36 rfl rfl ?_
    show hp_go _ _ _ _ _ 552 _ _ _
    refine hq_iload_n (pm_d rk_X11_ask 231 rfl) rfl 3 rfl ?_
    obtain ⟨hg, h⟩ := pm_gd_i h
    refine hq_iaload (pm_d rk_X11_ask 232 rfl) rfl hg ?_
    obtain ⟨x155, t154, hq, h⟩ := pm_bd_i h
    have hM := w_M_X11_typeOf_0 (d := d + 0) (h := hq)
    refine hq_callVi (a := 0) (ci := 11) [.int a1, .int (hs_A t152 8 a2.toNatClampNeg)] [.int x153, .int (4 : Int32), .ref 0, .int x2, .ref 0] (pm_d rk_X11_ask 233 rfl) ml_X11_277 iv_X11_typeOf rfl rfl rfl rfl rfl (Nat.le_of_ble_eq_true rfl) hM ?_
    obtain ⟨x157, t156, hq, h⟩ := pm_bd_i h
    have hM := w_M_X11_fresh_0 (d := d + 2) (h := hq)
    refine hq_callVi (a := 0) (ci := 11) [.int (4 : Int32), .int x153, .int x155] [.int x2, .ref 0] (pm_d rk_X11_ask 234 rfl) ml_X11_289 iv_X11_fresh rfl rfl rfl rfl rfl (Nat.le_of_ble_eq_true rfl) hM ?_
    obtain ⟨t158, hq, h⟩ := pm_b1_i h
    have hM := w_M_X11_same_0 (d := d + 1) (h := hq)
    refine hq_callVv (a := 0) (ci := 11) [.int x2, .int x157] [] (pm_d rk_X11_ask 235 rfl) ml_X11_283 iv_X11_same rfl rfl rfl rfl rfl (Nat.le_of_ble_eq_true rfl) hM ?_
    exact hq_vret (pm_d rk_X11_ask 236 rfl) rfl h
  rw [if_neg hc24] at h
  by_cases hc25 : x3 = (27 : Int32)
  · rw [if_pos hc25] at h
    refine hq_tableIn 530 (pm_d rk_X11_ask 9 rfl) (by rw [hc25]; decide) (by rw [hc25]; decide) (by rw [hc25] <;> rfl) (by decide) ?_
    show hp_go _ _ _ _ _ 530 _ _ _
    refine hq_aload_n (pm_d rk_X11_ask 216 rfl) rfl 1 rfl ?_
    refine hq_iload (pm_d rk_X11_ask 217 rfl) 0 rfl ?_
    refine hq_aload_n (pm_d rk_X11_ask 218 rfl) rfl 1 rfl ?_
    refine hq_iconst (v := (4 : Int32)) (pm_d rk_X11_ask 219 rfl) (by decide) ?_
    refine hq_aload_n (pm_d rk_X11_ask 220 rfl) rfl 1 rfl ?_
    refine hq_iload_n (pm_d rk_X11_ask 221 rfl) rfl 2 rfl ?_
    show hp_go _ _ _ _ _ 537 _ _ _
    refine hq_aload_n (pm_d rk_X11_ask 222 rfl) rfl 1 rfl ?_
    refine hq_getR (h := 7) 14 (pm_d rk_X11_ask 223 rfl) fl_X11_33 rfl rfl ?_
    refine hq_iload_n (pm_d rk_X11_ask 224 rfl) rfl 3 rfl ?_
    obtain ⟨hg, h⟩ := pm_gd_i h
    refine hq_iaload (pm_d rk_X11_ask 225 rfl) rfl hg ?_
    obtain ⟨x160, t159, hq, h⟩ := pm_bd_i h
    have hM := w_M_X11_typeOf_0 (d := d + 0) (h := hq)
    refine hq_callVi (a := 0) (ci := 11) [.int a1, .int (hs_A t1 7 a2.toNatClampNeg)] [.int (4 : Int32), .ref 0, .int x2, .ref 0] (pm_d rk_X11_ask 226 rfl) ml_X11_277 iv_X11_typeOf rfl rfl rfl rfl rfl (Nat.le_of_ble_eq_true rfl) hM ?_
    refine hq_aload_n (pm_d rk_X11_ask 227 rfl) rfl 1 rfl ?_
    show hp_go _ _ _ _ _ 547 _ _ _
    refine hq_iload_n (pm_d rk_X11_ask 228 rfl) rfl 2 rfl ?_
    refine hq_aload_n (pm_d rk_X11_ask 229 rfl) rfl 1 rfl ?_
    refine hq_getR (h := 8) 15 (pm_d rk_X11_ask 230 rfl) fl_X11_36 rfl rfl ?_
    refine hq_iload_n (pm_d rk_X11_ask 231 rfl) rfl 3 rfl ?_
    obtain ⟨hg, h⟩ := pm_gd_i h
    refine hq_iaload (pm_d rk_X11_ask 232 rfl) rfl hg ?_
    obtain ⟨x162, t161, hq, h⟩ := pm_bd_i h
    have hM := w_M_X11_typeOf_0 (d := d + 0) (h := hq)
    refine hq_callVi (a := 0) (ci := 11) [.int a1, .int (hs_A t159 8 a2.toNatClampNeg)] [.int x160, .int (4 : Int32), .ref 0, .int x2, .ref 0] (pm_d rk_X11_ask 233 rfl) ml_X11_277 iv_X11_typeOf rfl rfl rfl rfl rfl (Nat.le_of_ble_eq_true rfl) hM ?_
    show hp_go _ _ _ _ _ 557 _ _ _
    obtain ⟨x164, t163, hq, h⟩ := pm_bd_i h
    have hM := w_M_X11_fresh_0 (d := d + 2) (h := hq)
    refine hq_callVi (a := 0) (ci := 11) [.int (4 : Int32), .int x160, .int x162] [.int x2, .ref 0] (pm_d rk_X11_ask 234 rfl) ml_X11_289 iv_X11_fresh rfl rfl rfl rfl rfl (Nat.le_of_ble_eq_true rfl) hM ?_
    obtain ⟨t165, hq, h⟩ := pm_b1_i h
    have hM := w_M_X11_same_0 (d := d + 1) (h := hq)
    refine hq_callVv (a := 0) (ci := 11) [.int x2, .int x164] [] (pm_d rk_X11_ask 235 rfl) ml_X11_283 iv_X11_same rfl rfl rfl rfl rfl (Nat.le_of_ble_eq_true rfl) hM ?_
    exact hq_vret (pm_d rk_X11_ask 236 rfl) rfl h
  rw [if_neg hc25] at h
  by_cases hc26 : x3 = (28 : Int32)
  · rw [if_pos hc26] at h
    refine hq_tableIn 530 (pm_d rk_X11_ask 9 rfl) (by rw [hc26]; decide) (by rw [hc26]; decide) (by rw [hc26] <;> rfl) (by decide) ?_
    refine hq_aload_n (pm_d rk_X11_ask 216 rfl) rfl 1 rfl ?_
    refine hq_iload (pm_d rk_X11_ask 217 rfl) 0 rfl ?_
    refine hq_aload_n (pm_d rk_X11_ask 218 rfl) rfl 1 rfl ?_
    show hp_go _ _ _ _ _ 534 _ _ _
    refine hq_iconst (v := (4 : Int32)) (pm_d rk_X11_ask 219 rfl) (by decide) ?_
    refine hq_aload_n (pm_d rk_X11_ask 220 rfl) rfl 1 rfl ?_
    refine hq_iload_n (pm_d rk_X11_ask 221 rfl) rfl 2 rfl ?_
    refine hq_aload_n (pm_d rk_X11_ask 222 rfl) rfl 1 rfl ?_
    refine hq_getR (h := 7) 14 (pm_d rk_X11_ask 223 rfl) fl_X11_33 rfl rfl ?_
    refine hq_iload_n (pm_d rk_X11_ask 224 rfl) rfl 3 rfl ?_
    show hp_go _ _ _ _ _ 542 _ _ _
    obtain ⟨hg, h⟩ := pm_gd_i h
    refine hq_iaload (pm_d rk_X11_ask 225 rfl) rfl hg ?_
    obtain ⟨x167, t166, hq, h⟩ := pm_bd_i h
    have hM := w_M_X11_typeOf_0 (d := d + 0) (h := hq)
    refine hq_callVi (a := 0) (ci := 11) [.int a1, .int (hs_A t1 7 a2.toNatClampNeg)] [.int (4 : Int32), .ref 0, .int x2, .ref 0] (pm_d rk_X11_ask 226 rfl) ml_X11_277 iv_X11_typeOf rfl rfl rfl rfl rfl (Nat.le_of_ble_eq_true rfl) hM ?_
    refine hq_aload_n (pm_d rk_X11_ask 227 rfl) rfl 1 rfl ?_
    refine hq_iload_n (pm_d rk_X11_ask 228 rfl) rfl 2 rfl ?_
    refine hq_aload_n (pm_d rk_X11_ask 229 rfl) rfl 1 rfl ?_
    refine hq_getR (h := 8) 15 (pm_d rk_X11_ask 230 rfl) fl_X11_36 rfl rfl ?_
    show hp_go _ _ _ _ _ 552 _ _ _
    refine hq_iload_n (pm_d rk_X11_ask 231 rfl) rfl 3 rfl ?_
    obtain ⟨hg, h⟩ := pm_gd_i h
    refine hq_iaload (pm_d rk_X11_ask 232 rfl) rfl hg ?_
    obtain ⟨x169, t168, hq, h⟩ := pm_bd_i h
    have hM := w_M_X11_typeOf_0 (d := d + 0) (h := hq)
    refine hq_callVi (a := 0) (ci := 11) [.int a1, .int (hs_A t166 8 a2.toNatClampNeg)] [.int x167, .int (4 : Int32), .ref 0, .int x2, .ref 0] (pm_d rk_X11_ask 233 rfl) ml_X11_277 iv_X11_typeOf rfl rfl rfl rfl rfl (Nat.le_of_ble_eq_true rfl) hM ?_
    obtain ⟨x171, t170, hq, h⟩ := pm_bd_i h
    have hM := w_M_X11_fresh_0 (d := d + 2) (h := hq)
    refine hq_callVi (a := 0) (ci := 11) [.int (4 : Int32), .int x167, .int x169] [.int x2, .ref 0] (pm_d rk_X11_ask 234 rfl) ml_X11_289 iv_X11_fresh rfl rfl rfl rfl rfl (Nat.le_of_ble_eq_true rfl) hM ?_
    obtain ⟨t172, hq, h⟩ := pm_b1_i h
    have hM := w_M_X11_same_0 (d := d + 1) (h := hq)
    refine hq_callVv (a := 0) (ci := 11) [.int x2, .int x171] [] (pm_d rk_X11_ask 235 rfl) ml_X11_283 iv_X11_same rfl rfl rfl rfl rfl (Nat.le_of_ble_eq_true rfl) hM ?_
    exact hq_vret (pm_d rk_X11_ask 236 rfl) rfl h
  rw [if_neg hc26] at h
  by_cases hc27 : x3 = (29 : Int32)
  · rw [if_pos hc27] at h
    refine hq_tableIn 530 (pm_d rk_X11_ask 9 rfl) (by rw [hc27]; decide) (by rw [hc27]; decide) (by rw [hc27] <;> rfl) (by decide) ?_
    show hp_go _ _ _ _ _ 530 _ _ _
    refine hq_aload_n (pm_d rk_X11_ask 216 rfl) rfl 1 rfl ?_
    refine hq_iload (pm_d rk_X11_ask 217 rfl) 0 rfl ?_
    refine hq_aload_n (pm_d rk_X11_ask 218 rfl) rfl 1 rfl ?_
    refine hq_iconst (v := (4 : Int32)) (pm_d rk_X11_ask 219 rfl) (by decide) ?_
    refine hq_aload_n (pm_d rk_X11_ask 220 rfl) rfl 1 rfl ?_
    refine hq_iload_n (pm_d rk_X11_ask 221 rfl) rfl 2 rfl ?_
    show hp_go _ _ _ _ _ 537 _ _ _
    refine hq_aload_n (pm_d rk_X11_ask 222 rfl) rfl 1 rfl ?_
    refine hq_getR (h := 7) 14 (pm_d rk_X11_ask 223 rfl) fl_X11_33 rfl rfl ?_
    refine hq_iload_n (pm_d rk_X11_ask 224 rfl) rfl 3 rfl ?_
    obtain ⟨hg, h⟩ := pm_gd_i h
    refine hq_iaload (pm_d rk_X11_ask 225 rfl) rfl hg ?_
    obtain ⟨x174, t173, hq, h⟩ := pm_bd_i h
    have hM := w_M_X11_typeOf_0 (d := d + 0) (h := hq)
    refine hq_callVi (a := 0) (ci := 11) [.int a1, .int (hs_A t1 7 a2.toNatClampNeg)] [.int (4 : Int32), .ref 0, .int x2, .ref 0] (pm_d rk_X11_ask 226 rfl) ml_X11_277 iv_X11_typeOf rfl rfl rfl rfl rfl (Nat.le_of_ble_eq_true rfl) hM ?_
    refine hq_aload_n (pm_d rk_X11_ask 227 rfl) rfl 1 rfl ?_
    show hp_go _ _ _ _ _ 547 _ _ _
    refine hq_iload_n (pm_d rk_X11_ask 228 rfl) rfl 2 rfl ?_
    refine hq_aload_n (pm_d rk_X11_ask 229 rfl) rfl 1 rfl ?_
    refine hq_getR (h := 8) 15 (pm_d rk_X11_ask 230 rfl) fl_X11_36 rfl rfl ?_
    refine hq_iload_n (pm_d rk_X11_ask 231 rfl) rfl 3 rfl ?_
    obtain ⟨hg, h⟩ := pm_gd_i h
    refine hq_iaload (pm_d rk_X11_ask 232 rfl) rfl hg ?_
    obtain ⟨x176, t175, hq, h⟩ := pm_bd_i h
    have hM := w_M_X11_typeOf_0 (d := d + 0) (h := hq)
    refine hq_callVi (a := 0) (ci := 11) [.int a1, .int (hs_A t173 8 a2.toNatClampNeg)] [.int x174, .int (4 : Int32), .ref 0, .int x2, .ref 0] (pm_d rk_X11_ask 233 rfl) ml_X11_277 iv_X11_typeOf rfl rfl rfl rfl rfl (Nat.le_of_ble_eq_true rfl) hM ?_
    show hp_go _ _ _ _ _ 557 _ _ _
    obtain ⟨x178, t177, hq, h⟩ := pm_bd_i h
    have hM := w_M_X11_fresh_0 (d := d + 2) (h := hq)
    refine hq_callVi (a := 0) (ci := 11) [.int (4 : Int32), .int x174, .int x176] [.int x2, .ref 0] (pm_d rk_X11_ask 234 rfl) ml_X11_289 iv_X11_fresh rfl rfl rfl rfl rfl (Nat.le_of_ble_eq_true rfl) hM ?_
    obtain ⟨t179, hq, h⟩ := pm_b1_i h
    have hM := w_M_X11_same_0 (d := d + 1) (h := hq)
    refine hq_callVv (a := 0) (ci := 11) [.int x2, .int x178] [] (pm_d rk_X11_ask 235 rfl) ml_X11_283 iv_X11_same rfl rfl rfl rfl rfl (Nat.le_of_ble_eq_true rfl) hM ?_
    exact hq_vret (pm_d rk_X11_ask 236 rfl) rfl h
  rw [if_neg hc27] at h
  by_cases hc28 : x3 = (30 : Int32)
  · rw [if_pos hc28] at h
    refine hq_tableIn 494 (pm_d rk_X11_ask 9 rfl) (by rw [hc28]; decide) (by rw [hc28]; decide) (by rw [hc28] <;> rfl) (by decide) ?_
    refine hq_aload_n (pm_d rk_X11_ask 195 rfl) rfl 1 rfl ?_
    refine hq_aload_n (pm_d rk_X11_ask 196 rfl) rfl 1 rfl ?_
    refine hq_iload_n (pm_d rk_X11_ask 197 rfl) rfl 2 rfl ?_
    show hp_go _ _ _ _ _ 497 _ _ _
    refine hq_aload_n (pm_d rk_X11_ask 198 rfl) rfl 1 rfl ?_
    refine hq_getR (h := 7) 14 (pm_d rk_X11_ask 199 rfl) fl_X11_33 rfl rfl ?_
    refine hq_iload_n (pm_d rk_X11_ask 200 rfl) rfl 3 rfl ?_
    obtain ⟨hg, h⟩ := pm_gd_i h
    refine hq_iaload (pm_d rk_X11_ask 201 rfl) rfl hg ?_
    obtain ⟨x181, t180, hq, h⟩ := pm_bd_i h
    have hM := w_M_X11_typeOf_0 (d := d + 0) (h := hq)
    refine hq_callVi (a := 0) (ci := 11) [.int a1, .int (hs_A t1 7 a2.toNatClampNeg)] [.ref 0] (pm_d rk_X11_ask 202 rfl) ml_X11_277 iv_X11_typeOf rfl rfl rfl rfl rfl (Nat.le_of_ble_eq_true rfl) hM ?_
    refine hq_aload_n (pm_d rk_X11_ask 203 rfl) rfl 1 rfl ?_
    show hp_go _ _ _ _ _ 507 _ _ _
    refine hq_iconst (v := (3 : Int32)) (pm_d rk_X11_ask 204 rfl) (by decide) ?_
    refine hq_aload_n (pm_d rk_X11_ask 205 rfl) rfl 1 rfl ?_
    refine hq_iload_n (pm_d rk_X11_ask 206 rfl) rfl 2 rfl ?_
    refine hq_aload_n (pm_d rk_X11_ask 207 rfl) rfl 1 rfl ?_
    refine hq_getR (h := 8) 15 (pm_d rk_X11_ask 208 rfl) fl_X11_36 rfl rfl ?_
    refine hq_iload_n (pm_d rk_X11_ask 209 rfl) rfl 3 rfl ?_
    show hp_go _ _ _ _ _ 515 _ _ _
    obtain ⟨hg, h⟩ := pm_gd_i h
    refine hq_iaload (pm_d rk_X11_ask 210 rfl) rfl hg ?_
    obtain ⟨x183, t182, hq, h⟩ := pm_bd_i h
    have hM := w_M_X11_typeOf_0 (d := d + 0) (h := hq)
    refine hq_callVi (a := 0) (ci := 11) [.int a1, .int (hs_A t180 8 a2.toNatClampNeg)] [.int (3 : Int32), .ref 0, .int x181, .ref 0] (pm_d rk_X11_ask 211 rfl) ml_X11_277 iv_X11_typeOf rfl rfl rfl rfl rfl (Nat.le_of_ble_eq_true rfl) hM ?_
    refine hq_iload (pm_d rk_X11_ask 212 rfl) 0 rfl ?_
    obtain ⟨x185, t184, hq, h⟩ := pm_bd_i h
    have hM := w_M_X11_fresh_0 (d := d + 2) (h := hq)
    refine hq_callVi (a := 0) (ci := 11) [.int (3 : Int32), .int x183, .int x2] [.int x181, .ref 0] (pm_d rk_X11_ask 213 rfl) ml_X11_289 iv_X11_fresh rfl rfl rfl rfl rfl (Nat.le_of_ble_eq_true rfl) hM ?_
    obtain ⟨t186, hq, h⟩ := pm_b1_i h
    have hM := w_M_X11_same_0 (d := d + 1) (h := hq)
    refine hq_callVv (a := 0) (ci := 11) [.int x181, .int x185] [] (pm_d rk_X11_ask 214 rfl) ml_X11_283 iv_X11_same rfl rfl rfl rfl rfl (Nat.le_of_ble_eq_true rfl) hM ?_
    refine hq_goto 563 (pm_d rk_X11_ask 215 rfl) (by decide) ?_
    show hp_go _ _ _ _ _ 563 _ _ _
    exact hq_vret (pm_d rk_X11_ask 236 rfl) rfl h
  rw [if_neg hc28] at h
  by_cases hc29 : x3 = (31 : Int32)
  · rw [if_pos hc29] at h
    refine hq_tableIn 530 (pm_d rk_X11_ask 9 rfl) (by rw [hc29]; decide) (by rw [hc29]; decide) (by rw [hc29] <;> rfl) (by decide) ?_
    refine hq_aload_n (pm_d rk_X11_ask 216 rfl) rfl 1 rfl ?_
    refine hq_iload (pm_d rk_X11_ask 217 rfl) 0 rfl ?_
    refine hq_aload_n (pm_d rk_X11_ask 218 rfl) rfl 1 rfl ?_
    refine hq_iconst (v := (4 : Int32)) (pm_d rk_X11_ask 219 rfl) (by decide) ?_
    refine hq_aload_n (pm_d rk_X11_ask 220 rfl) rfl 1 rfl ?_
    show hp_go _ _ _ _ _ 536 _ _ _
    refine hq_iload_n (pm_d rk_X11_ask 221 rfl) rfl 2 rfl ?_
    refine hq_aload_n (pm_d rk_X11_ask 222 rfl) rfl 1 rfl ?_
    refine hq_getR (h := 7) 14 (pm_d rk_X11_ask 223 rfl) fl_X11_33 rfl rfl ?_
    refine hq_iload_n (pm_d rk_X11_ask 224 rfl) rfl 3 rfl ?_
    obtain ⟨hg, h⟩ := pm_gd_i h
    refine hq_iaload (pm_d rk_X11_ask 225 rfl) rfl hg ?_
    obtain ⟨x188, t187, hq, h⟩ := pm_bd_i h
    have hM := w_M_X11_typeOf_0 (d := d + 0) (h := hq)
    refine hq_callVi (a := 0) (ci := 11) [.int a1, .int (hs_A t1 7 a2.toNatClampNeg)] [.int (4 : Int32), .ref 0, .int x2, .ref 0] (pm_d rk_X11_ask 226 rfl) ml_X11_277 iv_X11_typeOf rfl rfl rfl rfl rfl (Nat.le_of_ble_eq_true rfl) hM ?_
    show hp_go _ _ _ _ _ 546 _ _ _
    refine hq_aload_n (pm_d rk_X11_ask 227 rfl) rfl 1 rfl ?_
    refine hq_iload_n (pm_d rk_X11_ask 228 rfl) rfl 2 rfl ?_
    refine hq_aload_n (pm_d rk_X11_ask 229 rfl) rfl 1 rfl ?_
    refine hq_getR (h := 8) 15 (pm_d rk_X11_ask 230 rfl) fl_X11_36 rfl rfl ?_
    refine hq_iload_n (pm_d rk_X11_ask 231 rfl) rfl 3 rfl ?_
    obtain ⟨hg, h⟩ := pm_gd_i h
    refine hq_iaload (pm_d rk_X11_ask 232 rfl) rfl hg ?_
    show hp_go _ _ _ _ _ 554 _ _ _
    obtain ⟨x190, t189, hq, h⟩ := pm_bd_i h
    have hM := w_M_X11_typeOf_0 (d := d + 0) (h := hq)
    refine hq_callVi (a := 0) (ci := 11) [.int a1, .int (hs_A t187 8 a2.toNatClampNeg)] [.int x188, .int (4 : Int32), .ref 0, .int x2, .ref 0] (pm_d rk_X11_ask 233 rfl) ml_X11_277 iv_X11_typeOf rfl rfl rfl rfl rfl (Nat.le_of_ble_eq_true rfl) hM ?_
    obtain ⟨x192, t191, hq, h⟩ := pm_bd_i h
    have hM := w_M_X11_fresh_0 (d := d + 2) (h := hq)
    refine hq_callVi (a := 0) (ci := 11) [.int (4 : Int32), .int x188, .int x190] [.int x2, .ref 0] (pm_d rk_X11_ask 234 rfl) ml_X11_289 iv_X11_fresh rfl rfl rfl rfl rfl (Nat.le_of_ble_eq_true rfl) hM ?_
    obtain ⟨t193, hq, h⟩ := pm_b1_i h
    have hM := w_M_X11_same_0 (d := d + 1) (h := hq)
    refine hq_callVv (a := 0) (ci := 11) [.int x2, .int x192] [] (pm_d rk_X11_ask 235 rfl) ml_X11_283 iv_X11_same rfl rfl rfl rfl rfl (Nat.le_of_ble_eq_true rfl) hM ?_
    exact hq_vret (pm_d rk_X11_ask 236 rfl) rfl h
  rw [if_neg hc29] at h
  by_cases hc30 : x3 = (32 : Int32)
  · rw [if_pos hc30] at h
    refine hq_tableIn 263 (pm_d rk_X11_ask 9 rfl) (by rw [hc30]; decide) (by rw [hc30]; decide) (by rw [hc30] <;> rfl) (by decide) ?_
    refine hq_aload_n (pm_d rk_X11_ask 66 rfl) rfl 1 rfl ?_
    refine hq_iload (pm_d rk_X11_ask 67 rfl) 0 rfl ?_
    show hp_go _ _ _ _ _ 266 _ _ _
    refine hq_aload_n (pm_d rk_X11_ask 68 rfl) rfl 1 rfl ?_
    refine hq_aload_n (pm_d rk_X11_ask 69 rfl) rfl 1 rfl ?_
    refine hq_iload_n (pm_d rk_X11_ask 70 rfl) rfl 2 rfl ?_
    refine hq_aload_n (pm_d rk_X11_ask 71 rfl) rfl 1 rfl ?_
    refine hq_getR (h := 19) 27 (pm_d rk_X11_ask 72 rfl) fl_X11_69 rfl rfl ?_
    refine hq_iload_n (pm_d rk_X11_ask 73 rfl) rfl 3 rfl ?_
    show hp_go _ _ _ _ _ 274 _ _ _
    obtain ⟨hg, h⟩ := pm_gd_i h
    refine hq_iaload (pm_d rk_X11_ask 74 rfl) rfl hg ?_
    obtain ⟨x195, t194, hq, h⟩ := pm_bd_i h
    have hM := w_M_X11_copyWith_0 (d := d + 1) (h := hq)
    refine hq_callVi (a := 0) (ci := 11) [.int a1, .int (hs_A t1 19 a2.toNatClampNeg)] [.ref 0, .int x2, .ref 0] (pm_d rk_X11_ask 75 rfl) ml_X11_262 iv_X11_copyWith rfl rfl rfl rfl rfl (Nat.le_of_ble_eq_true rfl) hM ?_
    refine hq_aload_n (pm_d rk_X11_ask 76 rfl) rfl 1 rfl ?_
    refine hq_getR (h := 19) 27 (pm_d rk_X11_ask 77 rfl) fl_X11_69 rfl rfl ?_
    refine hq_iload_n (pm_d rk_X11_ask 78 rfl) rfl 3 rfl ?_
    obtain ⟨hg, h⟩ := pm_gd_i h
    refine hq_iaload (pm_d rk_X11_ask 79 rfl) rfl hg ?_
    show hp_go _ _ _ _ _ 284 _ _ _
    obtain ⟨x197, t196, hq, h⟩ := pm_bd_i h
    have hM := w_M_X11_nameOf_0 (d := d + 0) (h := hq)
    refine hq_callVi (a := 0) (ci := 11) [.int x195, .int (hs_A t194 19 a2.toNatClampNeg)] [.int x2, .ref 0] (pm_d rk_X11_ask 80 rfl) ml_X11_293 iv_X11_nameOf rfl rfl rfl rfl rfl (Nat.le_of_ble_eq_true rfl) hM ?_
    obtain ⟨t198, hq, h⟩ := pm_b1_i h
    have hM := w_M_X11_same_0 (d := d + 1) (h := hq)
    refine hq_callVv (a := 0) (ci := 11) [.int x2, .int x197] [] (pm_d rk_X11_ask 81 rfl) ml_X11_283 iv_X11_same rfl rfl rfl rfl rfl (Nat.le_of_ble_eq_true rfl) hM ?_
    refine hq_goto 563 (pm_d rk_X11_ask 82 rfl) (by decide) ?_
    exact hq_vret (pm_d rk_X11_ask 236 rfl) rfl h
  rw [if_neg hc30] at h
  by_cases hc31 : x3 = (33 : Int32)
  · rw [if_pos hc31] at h
    refine hq_tableIn 293 (pm_d rk_X11_ask 9 rfl) (by rw [hc31]; decide) (by rw [hc31]; decide) (by rw [hc31] <;> rfl) (by decide) ?_
    refine hq_aload_n (pm_d rk_X11_ask 83 rfl) rfl 1 rfl ?_
    refine hq_iload (pm_d rk_X11_ask 84 rfl) 0 rfl ?_
    show hp_go _ _ _ _ _ 296 _ _ _
    refine hq_aload_n (pm_d rk_X11_ask 85 rfl) rfl 1 rfl ?_
    refine hq_iload_n (pm_d rk_X11_ask 86 rfl) rfl 4 rfl ?_
    refine hq_aload_n (pm_d rk_X11_ask 87 rfl) rfl 1 rfl ?_
    refine hq_getR (h := 7) 14 (pm_d rk_X11_ask 88 rfl) fl_X11_33 rfl rfl ?_
    refine hq_aload_n (pm_d rk_X11_ask 89 rfl) rfl 1 rfl ?_
    refine hq_getR (h := 19) 27 (pm_d rk_X11_ask 90 rfl) fl_X11_69 rfl rfl ?_
    show hp_go _ _ _ _ _ 306 _ _ _
    refine hq_iload_n (pm_d rk_X11_ask 91 rfl) rfl 3 rfl ?_
    obtain ⟨hg, h⟩ := pm_gd_i h
    refine hq_iaload (pm_d rk_X11_ask 92 rfl) rfl hg ?_
    obtain ⟨hg, h⟩ := pm_gd_i h
    refine hq_iaload (pm_d rk_X11_ask 93 rfl) rfl hg ?_
    obtain ⟨x200, t199, hq, h⟩ := pm_bd_i h
    have hM := w_M_X11_typeOf_0 (d := d + 0) (h := hq)
    refine hq_callVi (a := 0) (ci := 11) [.int a3, .int (hs_A t1 7 (hs_A t1 19 a2.toNatClampNeg).toNatClampNeg)] [.int x2, .ref 0] (pm_d rk_X11_ask 94 rfl) ml_X11_277 iv_X11_typeOf rfl rfl rfl rfl rfl (Nat.le_of_ble_eq_true rfl) hM ?_
    obtain ⟨t201, hq, h⟩ := pm_b1_i h
    have hM := w_M_X11_same_0 (d := d + 1) (h := hq)
    refine hq_callVv (a := 0) (ci := 11) [.int x2, .int x200] [] (pm_d rk_X11_ask 95 rfl) ml_X11_283 iv_X11_same rfl rfl rfl rfl rfl (Nat.le_of_ble_eq_true rfl) hM ?_
    refine hq_goto 563 (pm_d rk_X11_ask 96 rfl) (by decide) ?_
    show hp_go _ _ _ _ _ 563 _ _ _
    exact hq_vret (pm_d rk_X11_ask 236 rfl) rfl h
  rw [if_neg hc31] at h
  refine hq_tableOut 530 (pm_d rk_X11_ask 9 rfl) (by
      rcases tb_out (t := x3.toInt) (lo := 2) 32 (fun k hk => match k, hk with | 0, _ => tb_ne hc0 (by decide) | 1, _ => tb_ne hc1 (by decide) | 2, _ => tb_ne hc2 (by decide) | 3, _ => tb_ne hc3 (by decide) | 4, _ => tb_ne hc4 (by decide) | 5, _ => tb_ne hc5 (by decide) | 6, _ => tb_ne hc6 (by decide) | 7, _ => tb_ne hc7 (by decide) | 8, _ => tb_ne hc8 (by decide) | 9, _ => tb_ne hc9 (by decide) | 10, _ => tb_ne hc10 (by decide) | 11, _ => tb_ne hc11 (by decide) | 12, _ => tb_ne hc12 (by decide) | 13, _ => tb_ne hc13 (by decide) | 14, _ => tb_ne hc14 (by decide) | 15, _ => tb_ne hc15 (by decide) | 16, _ => tb_ne hc16 (by decide) | 17, _ => tb_ne hc17 (by decide) | 18, _ => tb_ne hc18 (by decide) | 19, _ => tb_ne hc19 (by decide) | 20, _ => tb_ne hc20 (by decide) | 21, _ => tb_ne hc21 (by decide) | 22, _ => tb_ne hc22 (by decide) | 23, _ => tb_ne hc23 (by decide) | 24, _ => tb_ne hc24 (by decide) | 25, _ => tb_ne hc25 (by decide) | 26, _ => tb_ne hc26 (by decide) | 27, _ => tb_ne hc27 (by decide) | 28, _ => tb_ne hc28 (by decide) | 29, _ => tb_ne hc29 (by decide) | 30, _ => tb_ne hc30 (by decide) | 31, _ => tb_ne hc31 (by decide) | k + 32, hk => absurd hk (by omega)) with q | q
      · exact Or.inl q
      · exact Or.inr (by omega)) (by decide) ?_
  refine hq_aload_n (pm_d rk_X11_ask 216 rfl) rfl 1 rfl ?_
  refine hq_iload (pm_d rk_X11_ask 217 rfl) 0 rfl ?_
  refine hq_aload_n (pm_d rk_X11_ask 218 rfl) rfl 1 rfl ?_
  refine hq_iconst (v := (4 : Int32)) (pm_d rk_X11_ask 219 rfl) (by decide) ?_
  refine hq_aload_n (pm_d rk_X11_ask 220 rfl) rfl 1 rfl ?_
  show hp_go _ _ _ _ _ 536 _ _ _
  refine hq_iload_n (pm_d rk_X11_ask 221 rfl) rfl 2 rfl ?_
  refine hq_aload_n (pm_d rk_X11_ask 222 rfl) rfl 1 rfl ?_
  refine hq_getR (h := 7) 14 (pm_d rk_X11_ask 223 rfl) fl_X11_33 rfl rfl ?_
  refine hq_iload_n (pm_d rk_X11_ask 224 rfl) rfl 3 rfl ?_
  obtain ⟨hg, h⟩ := pm_gd_i h
  refine hq_iaload (pm_d rk_X11_ask 225 rfl) rfl hg ?_
  obtain ⟨x203, t202, hq, h⟩ := pm_bd_i h
  have hM := w_M_X11_typeOf_0 (d := d + 0) (h := hq)
  refine hq_callVi (a := 0) (ci := 11) [.int a1, .int (hs_A t1 7 a2.toNatClampNeg)] [.int (4 : Int32), .ref 0, .int x2, .ref 0] (pm_d rk_X11_ask 226 rfl) ml_X11_277 iv_X11_typeOf rfl rfl rfl rfl rfl (Nat.le_of_ble_eq_true rfl) hM ?_
  show hp_go _ _ _ _ _ 546 _ _ _
  refine hq_aload_n (pm_d rk_X11_ask 227 rfl) rfl 1 rfl ?_
  refine hq_iload_n (pm_d rk_X11_ask 228 rfl) rfl 2 rfl ?_
  refine hq_aload_n (pm_d rk_X11_ask 229 rfl) rfl 1 rfl ?_
  refine hq_getR (h := 8) 15 (pm_d rk_X11_ask 230 rfl) fl_X11_36 rfl rfl ?_
  refine hq_iload_n (pm_d rk_X11_ask 231 rfl) rfl 3 rfl ?_
  obtain ⟨hg, h⟩ := pm_gd_i h
  refine hq_iaload (pm_d rk_X11_ask 232 rfl) rfl hg ?_
  show hp_go _ _ _ _ _ 554 _ _ _
  obtain ⟨x205, t204, hq, h⟩ := pm_bd_i h
  have hM := w_M_X11_typeOf_0 (d := d + 0) (h := hq)
  refine hq_callVi (a := 0) (ci := 11) [.int a1, .int (hs_A t202 8 a2.toNatClampNeg)] [.int x203, .int (4 : Int32), .ref 0, .int x2, .ref 0] (pm_d rk_X11_ask 233 rfl) ml_X11_277 iv_X11_typeOf rfl rfl rfl rfl rfl (Nat.le_of_ble_eq_true rfl) hM ?_
  obtain ⟨x207, t206, hq, h⟩ := pm_bd_i h
  have hM := w_M_X11_fresh_0 (d := d + 2) (h := hq)
  refine hq_callVi (a := 0) (ci := 11) [.int (4 : Int32), .int x203, .int x205] [.int x2, .ref 0] (pm_d rk_X11_ask 234 rfl) ml_X11_289 iv_X11_fresh rfl rfl rfl rfl rfl (Nat.le_of_ble_eq_true rfl) hM ?_
  obtain ⟨t208, hq, h⟩ := pm_b1_i h
  have hM := w_M_X11_same_0 (d := d + 1) (h := hq)
  refine hq_callVv (a := 0) (ci := 11) [.int x2, .int x207] [] (pm_d rk_X11_ask 235 rfl) ml_X11_283 iv_X11_same rfl rfl rfl rfl rfl (Nat.le_of_ble_eq_true rfl) hM ?_
  exact hq_vret (pm_d rk_X11_ask 236 rfl) rfl h
def l_M_X11_isFine_0_74 (k60 : Int32 → Int32 → hp_S → Option (Int32 × hp_S)) : Nat → Int32 → Int32 → Int32 → hp_S → Option (Int32 × hp_S)
  | 0, _, _, _, _ => none
  | n + 1, y1, y2, y3, s =>
    pm_bd (f_M_X11_high_0 n y2 s) (fun x14 t13 =>
    if x14 ≤ y3 then
      pm_let (y2 + (1 : Int32)) (fun x15 =>
      k60 y1 x15 t13)
    else
      pm_gd1 (pm_ib y3 101) (
      pm_let (hs_A t13 17 y3.toNatClampNeg) (fun x16 =>
      pm_gd1 (pm_ib x16 101) (
      pm_let (fun (z109_2 : Int32) (z109_3 : Int32) (z109_4 : Int32) (z109_S0 : Int32) (z109_S1 : Int32) (s : hp_S) =>
        pm_let (z109_S1 + z109_S0) (fun x17 =>
        pm_gd1 (pm_ib z109_3 101) (
        pm_let (fun (z135_1 : Int32) (z135_2 : Int32) (z135_3 : Int32) (s : hp_S) =>
          pm_let (z135_3 + (1 : Int32)) (fun x18 =>
          l_M_X11_isFine_0_74 k60 n z135_1 z135_2 x18 s)) (fun j135 =>
        if (hs_A s 29 z109_3.toNatClampNeg) = 0 then
          j135 x17 z109_2 z109_3 s
        else
          if (hs_I s 0 41) = 0 then
            pm_b1 (f_M_X11_ask_0 n z109_2 z109_4 x17 s) (fun t19 =>
            j135 x17 z109_2 z109_3 t19)
          else
            j135 x17 z109_2 z109_3 s)))) (fun j109 =>
      if (hs_A t13 6 x16.toNatClampNeg) = (33 : Int32) then
        j109 y2 y3 x16 (1 : Int32) y1 t13
      else
        j109 y2 y3 x16 (0 : Int32) y1 t13)))))
set_option maxRecDepth 100000 in
set_option maxHeartbeats 400000 in
theorem wl_M_X11_isFine_0_74 (d : Nat) (k60 : Int32 → Int32 → hp_S → Option (Int32 × hp_S)) (s1 : hp_S) (x0 : Int32) (hk60 : ∀ (y1 : Int32) (y2 : Int32) (s : hp_S), k60 y1 y2 s = some (x0, s1) → hp_go sh_M me_X11_isFine (d + 4) (some (.int x0)) s1 60 [(0, .ref 0), (1, .int y1), (2, .int y2)] [] s) : ∀ (n : Nat) (y1 : Int32) (y2 : Int32) (y3 : Int32) (s : hp_S), l_M_X11_isFine_0_74 k60 n y1 y2 y3 s = some (x0, s1) → hp_go sh_M me_X11_isFine (d + 4) (some (.int x0)) s1 74 [(0, .ref 0), (1, .int y1), (2, .int y2), (3, .int y3)] [] s := by
  intro n
  induction n with
  | zero =>
    intro y1 y2 y3 s h
    cases h
  | succ n ih =>
    intro y1 y2 y3 s h
    rw [l_M_X11_isFine_0_74.eq_2] at h
    refine hq_iload_n (pm_d rk_X11_isFine 46 rfl) rfl 3 rfl ?_
    refine hq_aload_n (pm_d rk_X11_isFine 47 rfl) rfl 0 rfl ?_
    show hp_go _ _ _ _ _ 76 _ _ _
    refine hq_iload_n (pm_d rk_X11_isFine 48 rfl) rfl 2 rfl ?_
    obtain ⟨x14, t13, hq, h⟩ := pm_bd_i h
    have hM := w_M_X11_high_0 (d := d + 2) (h := hq)
    refine hq_callVi (a := 0) (ci := 11) [.int y2] [.int y3] (pm_d rk_X11_isFine 49 rfl) ml_X11_250 iv_X11_high rfl rfl rfl rfl rfl (Nat.le_of_ble_eq_true rfl) hM ?_
    refine hq_icmp_ge 141 (pm_d rk_X11_isFine 50 rfl) (by decide) (fun hc => ?_) (fun hc => ?_)
    · rw [if_pos hc] at h
      refine hq_iinc (v := y2 + (1 : Int32)) (L1 := [(2, .int (y2 + (1 : Int32))), (0, .ref 0), (1, .int y1), (3, .int y3)]) (pm_d rk_X11_isFine 83 rfl) 2 rfl (by rw [show Int32.ofInt (1) = (1 : Int32) by decide]) (by decide) rfl ?_
      refine pm_nm (G := fun x15 => hp_go sh_M me_X11_isFine (d + 4) (some (.int x0)) s1 144 [(2, .int x15), (0, .ref 0), (1, .int y1), (3, .int y3)] [] t13) h (fun x15 h => ?_)
      refine hq_goto 60 (pm_d rk_X11_isFine 84 rfl) (by decide) ?_
      refine hq_drop [1, 2, 0] rfl ?_
      exact hk60 _ _ _ h
    rw [if_neg hc] at h
    refine hq_aload_n (pm_d rk_X11_isFine 51 rfl) rfl 0 rfl ?_
    show hp_go _ _ _ _ _ 84 _ _ _
    refine hq_getR (h := 17) 25 (pm_d rk_X11_isFine 52 rfl) fl_X11_63 rfl rfl ?_
    refine hq_iload_n (pm_d rk_X11_isFine 53 rfl) rfl 3 rfl ?_
    obtain ⟨hg, h⟩ := pm_gd_i h
    refine hq_iaload (pm_d rk_X11_isFine 54 rfl) rfl hg ?_
    refine pm_nm (G := fun x16 => hp_go sh_M me_X11_isFine (d + 4) (some (.int x0)) s1 89 [(0, .ref 0), (1, .int y1), (2, .int y2), (3, .int y3)] [.int x16] t13) h (fun x16 h => ?_)
    refine hq_istore (L1 := [(4, .int x16), (0, .ref 0), (1, .int y1), (2, .int y2), (3, .int y3)]) (pm_d rk_X11_isFine 55 rfl) (by decide) rfl ?_
    refine hq_iload_n (pm_d rk_X11_isFine 56 rfl) rfl 2 rfl ?_
    refine hq_aload_n (pm_d rk_X11_isFine 57 rfl) rfl 1 rfl ?_
    show hp_go _ _ _ _ _ 93 _ _ _
    refine hq_getR (h := 6) 13 (pm_d rk_X11_isFine 58 rfl) fl_X11_30 rfl rfl ?_
    refine hq_iload (pm_d rk_X11_isFine 59 rfl) 0 rfl ?_
    obtain ⟨hg, h⟩ := pm_gd_i h
    refine hq_iaload (pm_d rk_X11_isFine 60 rfl) rfl hg ?_
    refine hq_bipush (v := (33 : Int32)) (pm_d rk_X11_isFine 61 rfl) (by decide) ?_
    refine pm_jn (P := fun j109 => ∀ (z109_2 : Int32) (z109_3 : Int32) (z109_4 : Int32) (z109_S0 : Int32) (z109_S1 : Int32) (s : hp_S), j109 z109_2 z109_3 z109_4 z109_S0 z109_S1 s = some (x0, s1) → hp_go sh_M me_X11_isFine (d + 4) (some (.int x0)) s1 109 [(0, .ref 0), (2, .int z109_2), (3, .int z109_3), (4, .int z109_4)] [.int z109_S0, .int z109_S1] s) h ?_ (fun j109 hj109 h => ?_)
    · intro z109_2 z109_3 z109_4 z109_S0 z109_S1 s h
      dsimp only at h
      refine hq_iadd (pm_d rk_X11_isFine 66 rfl) ?_
      refine pm_nm (G := fun x17 => hp_go sh_M me_X11_isFine (d + 4) (some (.int x0)) s1 110 [(0, .ref 0), (2, .int z109_2), (3, .int z109_3), (4, .int z109_4)] [.int x17] s) h (fun x17 h => ?_)
      refine hq_istore_n (L1 := [(1, .int x17), (0, .ref 0), (2, .int z109_2), (3, .int z109_3), (4, .int z109_4)]) (pm_d rk_X11_isFine 67 rfl) rfl (by decide) rfl ?_
      show hp_go _ _ _ _ _ 111 _ _ _
      refine hq_aload_n (pm_d rk_X11_isFine 68 rfl) rfl 1 rfl ?_
      refine hq_getR (h := 29) 42 (pm_d rk_X11_isFine 69 rfl) fl_X11_99 rfl rfl ?_
      refine hq_iload_n (pm_d rk_X11_isFine 70 rfl) rfl 3 rfl ?_
      obtain ⟨hg, h⟩ := pm_gd_i h
      refine hq_zaload (pm_d rk_X11_isFine 71 rfl) rfl hg ?_
      refine pm_jn (P := fun j135 => ∀ (z135_1 : Int32) (z135_2 : Int32) (z135_3 : Int32) (s : hp_S), j135 z135_1 z135_2 z135_3 s = some (x0, s1) → hp_go sh_M me_X11_isFine (d + 4) (some (.int x0)) s1 135 [(0, .ref 0), (1, .int z135_1), (2, .int z135_2), (3, .int z135_3)] [] s) h ?_ (fun j135 hj135 h => ?_)
      · intro z135_1 z135_2 z135_3 s h
        dsimp only at h
        refine hq_iinc (v := z135_3 + (1 : Int32)) (L1 := [(3, .int (z135_3 + (1 : Int32))), (0, .ref 0), (1, .int z135_1), (2, .int z135_2)]) (pm_d rk_X11_isFine 81 rfl) 3 rfl (by rw [show Int32.ofInt (1) = (1 : Int32) by decide]) (by decide) rfl ?_
        refine pm_nm (G := fun x18 => hp_go sh_M me_X11_isFine (d + 4) (some (.int x0)) s1 138 [(3, .int x18), (0, .ref 0), (1, .int z135_1), (2, .int z135_2)] [] s) h (fun x18 h => ?_)
        refine hq_goto 74 (pm_d rk_X11_isFine 82 rfl) (by decide) ?_
        refine hq_drop [1, 2, 3, 0] rfl ?_
        exact ih _ _ _ _ h
      show hp_go _ _ _ _ _ 117 _ _ _
      refine hq_if_eq 135 (pm_d rk_X11_isFine 72 rfl) (by decide) (fun hc => ?_) (fun hc => ?_)
      · rw [if_pos hc] at h
        refine hq_drop [1, 0, 2, 3] rfl ?_
        exact hj135 _ _ _ _ h
      rw [if_neg hc] at h
      refine hq_aload_n (pm_d rk_X11_isFine 73 rfl) rfl 1 rfl ?_
      refine hq_getI 41 (pm_d rk_X11_isFine 74 rfl) fl_X11_271 rfl rfl ?_
      refine hq_if_ne 135 (pm_d rk_X11_isFine 75 rfl) (by decide) (fun hc => ?_) (fun hc => ?_)
      · rw [if_neg hc] at h
        refine hq_drop [1, 0, 2, 3] rfl ?_
        exact hj135 _ _ _ _ h
      rw [if_pos hc] at h
      refine hq_aload_n (pm_d rk_X11_isFine 76 rfl) rfl 1 rfl ?_
      refine hq_iload_n (pm_d rk_X11_isFine 77 rfl) rfl 2 rfl ?_
      show hp_go _ _ _ _ _ 129 _ _ _
      refine hq_iload (pm_d rk_X11_isFine 78 rfl) 4 rfl ?_
      refine hq_iload_n (pm_d rk_X11_isFine 79 rfl) rfl 0 rfl ?_
      obtain ⟨t19, hq, h⟩ := pm_b1_i h
      have hM := w_M_X11_ask_0 (d := d + 0) (h := hq)
      refine hq_callVv (a := 0) (ci := 11) [.int z109_2, .int z109_4, .int x17] [] (pm_d rk_X11_isFine 80 rfl) ml_X11_296 iv_X11_ask rfl rfl rfl rfl rfl (Nat.le_of_ble_eq_true rfl) hM ?_
      refine hq_drop [1, 0, 2, 3] rfl ?_
      exact hj135 _ _ _ _ h
    refine hq_icmp_ne 108 (pm_d rk_X11_isFine 62 rfl) (by decide) (fun hc => ?_) (fun hc => ?_)
    · rw [if_neg hc] at h
      refine hq_iconst (v := (0 : Int32)) (pm_d rk_X11_isFine 65 rfl) (by decide) ?_
      refine hq_drop [1, 3, 4, 0] rfl ?_
      exact hj109 _ _ _ _ _ _ h
    rw [if_pos hc] at h
    refine hq_iconst (v := (1 : Int32)) (pm_d rk_X11_isFine 63 rfl) (by decide) ?_
    show hp_go _ _ _ _ _ 105 _ _ _
    refine hq_goto 109 (pm_d rk_X11_isFine 64 rfl) (by decide) ?_
    refine hq_drop [1, 3, 4, 0] rfl ?_
    exact hj109 _ _ _ _ _ _ h
def l_M_X11_isFine_0_60 : Nat → Int32 → Int32 → hp_S → Option (Int32 × hp_S)
  | 0, _, _, _ => none
  | n + 1, y1, y2, s =>
    if (hs_I s 0 28) ≤ y2 then
      if (hs_I s 0 41) = 0 then
        pm_bd (f_M_X11_isFinite_0 n s) (fun x10 t9 =>
        if x10 = 0 then
          some ((0 : Int32), t9)
        else
          some ((1 : Int32), t9))
      else
        some ((0 : Int32), s)
    else
      pm_bd (f_M_X11_low_0 n y2 s) (fun x12 t11 =>
      l_M_X11_isFine_0_74 (l_M_X11_isFine_0_60 n) n y1 y2 x12 t11)
set_option maxRecDepth 100000 in
set_option maxHeartbeats 400000 in
theorem wl_M_X11_isFine_0_60 (d : Nat) (s1 : hp_S) (x0 : Int32)  : ∀ (n : Nat) (y1 : Int32) (y2 : Int32) (s : hp_S), l_M_X11_isFine_0_60 n y1 y2 s = some (x0, s1) → hp_go sh_M me_X11_isFine (d + 4) (some (.int x0)) s1 60 [(0, .ref 0), (1, .int y1), (2, .int y2)] [] s := by
  intro n
  induction n with
  | zero =>
    intro y1 y2 s h
    cases h
  | succ n ih =>
    intro y1 y2 s h
    rw [l_M_X11_isFine_0_60.eq_2] at h
    refine hq_iload_n (pm_d rk_X11_isFine 38 rfl) rfl 2 rfl ?_
    refine hq_aload_n (pm_d rk_X11_isFine 39 rfl) rfl 0 rfl ?_
    refine hq_getI 28 (pm_d rk_X11_isFine 40 rfl) fl_X11_256 rfl rfl ?_
    refine hq_icmp_ge 147 (pm_d rk_X11_isFine 41 rfl) (by decide) (fun hc => ?_) (fun hc => ?_)
    · rw [if_pos hc] at h
      refine hq_aload_n (pm_d rk_X11_isFine 85 rfl) rfl 0 rfl ?_
      show hp_go _ _ _ _ _ 148 _ _ _
      refine hq_getI 41 (pm_d rk_X11_isFine 86 rfl) fl_X11_271 rfl rfl ?_
      refine hq_if_ne 165 (pm_d rk_X11_isFine 87 rfl) (by decide) (fun hc => ?_) (fun hc => ?_)
      · rw [if_neg hc] at h
        refine hq_iconst (v := (0 : Int32)) (pm_d rk_X11_isFine 93 rfl) (by decide) ?_
        exact hq_zret (pm_d rk_X11_isFine 94 rfl) rfl rfl h
      rw [if_pos hc] at h
      refine hq_aload_n (pm_d rk_X11_isFine 88 rfl) rfl 0 rfl ?_
      obtain ⟨x10, t9, hq, h⟩ := pm_bd_i h
      have hM := w_M_X11_isFinite_0 (d := d + 2) (h := hq)
      refine hq_callVi (a := 0) (ci := 11) [] [] (pm_d rk_X11_isFine 89 rfl) ml_X11_300 iv_X11_isFinite rfl rfl rfl rfl rfl (Nat.le_of_ble_eq_true rfl) hM ?_
      show hp_go _ _ _ _ _ 158 _ _ _
      refine hq_if_eq 165 (pm_d rk_X11_isFine 90 rfl) (by decide) (fun hc => ?_) (fun hc => ?_)
      · rw [if_pos hc] at h
        refine hq_iconst (v := (0 : Int32)) (pm_d rk_X11_isFine 93 rfl) (by decide) ?_
        exact hq_zret (pm_d rk_X11_isFine 94 rfl) rfl rfl h
      rw [if_neg hc] at h
      refine hq_iconst (v := (1 : Int32)) (pm_d rk_X11_isFine 91 rfl) (by decide) ?_
      refine hq_goto 166 (pm_d rk_X11_isFine 92 rfl) (by decide) ?_
      exact hq_zret (pm_d rk_X11_isFine 94 rfl) rfl rfl h
    rw [if_neg hc] at h
    show hp_go _ _ _ _ _ 68 _ _ _
    refine hq_aload_n (pm_d rk_X11_isFine 42 rfl) rfl 0 rfl ?_
    refine hq_iload_n (pm_d rk_X11_isFine 43 rfl) rfl 2 rfl ?_
    obtain ⟨x12, t11, hq, h⟩ := pm_bd_i h
    have hM := w_M_X11_low_0 (d := d + 2) (h := hq)
    refine hq_callVi (a := 0) (ci := 11) [.int y2] [] (pm_d rk_X11_isFine 44 rfl) ml_X11_247 iv_X11_low rfl rfl rfl rfl rfl (Nat.le_of_ble_eq_true rfl) hM ?_
    refine hq_istore_n (L1 := [(3, .int x12), (0, .ref 0), (1, .int y1), (2, .int y2)]) (pm_d rk_X11_isFine 45 rfl) rfl (by decide) rfl ?_
    refine hq_drop [1, 2, 3, 0] rfl ?_
    exact wl_M_X11_isFine_0_74 d _ _ _  ih _ _ _ _ _ h
def l_M_X11_isFine_0_12 : Nat → Int32 → hp_S → Option (Int32 × hp_S)
  | 0, _, _ => none
  | n + 1, y1, s =>
    if (hs_I s 0 32) ≤ y1 then
      pm_bd (f_M_X11_fresh_0 (1 : Int32) (0 : Int32) (0 : Int32) s) (fun x4 t3 =>
      pm_let (hs_pI t3 0 57 x4) (fun t5 =>
      pm_bd (f_M_X11_fresh_0 (2 : Int32) (0 : Int32) (0 : Int32) t5) (fun x7 t6 =>
      pm_let (hs_pI t6 0 58 x7) (fun t8 =>
      l_M_X11_isFine_0_60 n (0 : Int32) (0 : Int32) t8))))
    else
      pm_bd (f_M_X11_fresh_0 (0 : Int32) (0 : Int32) (0 : Int32) s) (fun x21 t20 =>
      pm_let (y1 + (1 : Int32)) (fun x22 =>
      l_M_X11_isFine_0_12 n x22 t20))
set_option maxRecDepth 100000 in
set_option maxHeartbeats 400000 in
theorem wl_M_X11_isFine_0_12 (d : Nat) (s1 : hp_S) (x0 : Int32)  : ∀ (n : Nat) (y1 : Int32) (s : hp_S), l_M_X11_isFine_0_12 n y1 s = some (x0, s1) → hp_go sh_M me_X11_isFine (d + 4) (some (.int x0)) s1 12 [(0, .ref 0), (1, .int y1)] [] s := by
  intro n
  induction n with
  | zero =>
    intro y1 s h
    cases h
  | succ n ih =>
    intro y1 s h
    rw [l_M_X11_isFine_0_12.eq_2] at h
    refine hq_iload_n (pm_d rk_X11_isFine 8 rfl) rfl 1 rfl ?_
    refine hq_aload_n (pm_d rk_X11_isFine 9 rfl) rfl 0 rfl ?_
    refine hq_getI 32 (pm_d rk_X11_isFine 10 rfl) fl_X11_253 rfl rfl ?_
    show hp_go _ _ _ _ _ 17 _ _ _
    refine hq_icmp_ge 34 (pm_d rk_X11_isFine 11 rfl) (by decide) (fun hc => ?_) (fun hc => ?_)
    · rw [if_pos hc] at h
      refine hq_aload_n (pm_d rk_X11_isFine 20 rfl) rfl 0 rfl ?_
      refine hq_aload_n (pm_d rk_X11_isFine 21 rfl) rfl 0 rfl ?_
      refine hq_iconst (v := (1 : Int32)) (pm_d rk_X11_isFine 22 rfl) (by decide) ?_
      refine hq_iconst (v := (0 : Int32)) (pm_d rk_X11_isFine 23 rfl) (by decide) ?_
      refine hq_iconst (v := (0 : Int32)) (pm_d rk_X11_isFine 24 rfl) (by decide) ?_
      show hp_go _ _ _ _ _ 39 _ _ _
      obtain ⟨x4, t3, hq, h⟩ := pm_bd_i h
      have hM := w_M_X11_fresh_0 (d := d + 3) (h := hq)
      refine hq_callVi (a := 0) (ci := 11) [.int (1 : Int32), .int (0 : Int32), .int (0 : Int32)] [.ref 0] (pm_d rk_X11_isFine 25 rfl) ml_X11_289 iv_X11_fresh rfl rfl rfl rfl rfl (Nat.le_of_ble_eq_true rfl) hM ?_
      refine hq_putI 57 (pm_d rk_X11_isFine 26 rfl) fl_X11_280 rfl rfl ?_
      refine pm_nm (G := fun t5 => hp_go sh_M me_X11_isFine (d + 4) (some (.int x0)) s1 45 [(0, .ref 0), (1, .int y1)] [] t5) h (fun t5 h => ?_)
      refine hq_aload_n (pm_d rk_X11_isFine 27 rfl) rfl 0 rfl ?_
      refine hq_aload_n (pm_d rk_X11_isFine 28 rfl) rfl 0 rfl ?_
      refine hq_iconst (v := (2 : Int32)) (pm_d rk_X11_isFine 29 rfl) (by decide) ?_
      refine hq_iconst (v := (0 : Int32)) (pm_d rk_X11_isFine 30 rfl) (by decide) ?_
      show hp_go _ _ _ _ _ 49 _ _ _
      refine hq_iconst (v := (0 : Int32)) (pm_d rk_X11_isFine 31 rfl) (by decide) ?_
      obtain ⟨x7, t6, hq, h⟩ := pm_bd_i h
      have hM := w_M_X11_fresh_0 (d := d + 3) (h := hq)
      refine hq_callVi (a := 0) (ci := 11) [.int (2 : Int32), .int (0 : Int32), .int (0 : Int32)] [.ref 0] (pm_d rk_X11_isFine 32 rfl) ml_X11_289 iv_X11_fresh rfl rfl rfl rfl rfl (Nat.le_of_ble_eq_true rfl) hM ?_
      refine hq_putI 58 (pm_d rk_X11_isFine 33 rfl) fl_X11_286 rfl rfl ?_
      refine pm_nm (G := fun t8 => hp_go sh_M me_X11_isFine (d + 4) (some (.int x0)) s1 56 [(0, .ref 0), (1, .int y1)] [] t8) h (fun t8 h => ?_)
      refine hq_iconst (v := (0 : Int32)) (pm_d rk_X11_isFine 34 rfl) (by decide) ?_
      refine hq_istore_n (L1 := [(1, .int (0 : Int32)), (0, .ref 0)]) (pm_d rk_X11_isFine 35 rfl) rfl (by decide) rfl ?_
      refine hq_iconst (v := (0 : Int32)) (pm_d rk_X11_isFine 36 rfl) (by decide) ?_
      show hp_go _ _ _ _ _ 59 _ _ _
      refine hq_istore_n (L1 := [(2, .int (0 : Int32)), (1, .int (0 : Int32)), (0, .ref 0)]) (pm_d rk_X11_isFine 37 rfl) rfl (by decide) rfl ?_
      refine hq_drop [2, 1, 0] rfl ?_
      exact wl_M_X11_isFine_0_60 d _ _   _ _ _ _ h
    rw [if_neg hc] at h
    refine hq_aload_n (pm_d rk_X11_isFine 12 rfl) rfl 0 rfl ?_
    refine hq_iconst (v := (0 : Int32)) (pm_d rk_X11_isFine 13 rfl) (by decide) ?_
    refine hq_iconst (v := (0 : Int32)) (pm_d rk_X11_isFine 14 rfl) (by decide) ?_
    refine hq_iconst (v := (0 : Int32)) (pm_d rk_X11_isFine 15 rfl) (by decide) ?_
    obtain ⟨x21, t20, hq, h⟩ := pm_bd_i h
    have hM := w_M_X11_fresh_0 (d := d + 3) (h := hq)
    refine hq_callVi (a := 0) (ci := 11) [.int (0 : Int32), .int (0 : Int32), .int (0 : Int32)] [] (pm_d rk_X11_isFine 16 rfl) ml_X11_289 iv_X11_fresh rfl rfl rfl rfl rfl (Nat.le_of_ble_eq_true rfl) hM ?_
    show hp_go _ _ _ _ _ 27 _ _ _
    refine hq_pop (pm_d rk_X11_isFine 17 rfl) rfl ?_
    refine hq_iinc (v := y1 + (1 : Int32)) (L1 := [(1, .int (y1 + (1 : Int32))), (0, .ref 0)]) (pm_d rk_X11_isFine 18 rfl) 1 rfl (by rw [show Int32.ofInt (1) = (1 : Int32) by decide]) (by decide) rfl ?_
    refine pm_nm (G := fun x22 => hp_go sh_M me_X11_isFine (d + 4) (some (.int x0)) s1 31 [(1, .int x22), (0, .ref 0)] [] t20) h (fun x22 h => ?_)
    refine hq_goto 12 (pm_d rk_X11_isFine 19 rfl) (by decide) ?_
    refine hq_drop [1, 0] rfl ?_
    exact ih _ _ h
def f_M_X11_isFine_0 (n : Nat) (s : hp_S) : Option (Int32 × hp_S) :=
  pm_let (hs_pI s 0 37 (0 : Int32)) (fun t1 =>
  pm_let (hs_pI t1 0 41 (0 : Int32)) (fun t2 =>
  l_M_X11_isFine_0_12 n (0 : Int32) t2))
set_option maxRecDepth 100000 in
set_option maxHeartbeats 400000 in
theorem w_M_X11_isFine_0 (d : Nat) (n : Nat) (s s1 : hp_S) (x0 : Int32) (h : f_M_X11_isFine_0 n s = some (x0, s1)) : hp_is sh_M me_X11_isFine (d + 4) [.ref 0] s (some (.int x0)) s1 := by
  refine hp_ofF [(0, .ref 0)] (by decide +kernel) (Nat.le_of_ble_eq_true rfl) rfl ?_
  unfold f_M_X11_isFine_0 at h
  refine hq_aload_n (pm_d rk_X11_isFine 0 rfl) rfl 0 rfl ?_
  refine hq_iconst (v := (0 : Int32)) (pm_d rk_X11_isFine 1 rfl) (by decide) ?_
  refine hq_putI 37 (pm_d rk_X11_isFine 2 rfl) fl_X11_265 rfl rfl ?_
  refine pm_nm (G := fun t1 => hp_go sh_M me_X11_isFine (d + 4) (some (.int x0)) s1 5 [(0, .ref 0)] [] t1) h (fun t1 h => ?_)
  refine hq_aload_n (pm_d rk_X11_isFine 3 rfl) rfl 0 rfl ?_
  refine hq_iconst (v := (0 : Int32)) (pm_d rk_X11_isFine 4 rfl) (by decide) ?_
  show hp_go _ _ _ _ _ 7 _ _ _
  refine hq_putZ 41 (pm_d rk_X11_isFine 5 rfl) fl_X11_271 rfl rfl rfl rfl ?_
  refine pm_nm (G := fun t2 => hp_go sh_M me_X11_isFine (d + 4) (some (.int x0)) s1 10 [(0, .ref 0)] [] t2) h (fun t2 h => ?_)
  refine hq_iconst (v := (0 : Int32)) (pm_d rk_X11_isFine 6 rfl) (by decide) ?_
  refine hq_istore_n (L1 := [(1, .int (0 : Int32)), (0, .ref 0)]) (pm_d rk_X11_isFine 7 rfl) rfl (by decide) rfl ?_
  refine hq_drop [1, 0] rfl ?_
  exact wl_M_X11_isFine_0_12 d _ _   _ _ _ h
def f_M_X11_write_0 (a1 : Int32) (s : hp_S) : Option hp_S :=
  if (4000 : Int32) ≤ (hs_I s 0 46) then
    some s
  else
    pm_gd1 (pm_ib (hs_I s 0 46) 4000) (
    pm_let (hs_pA s 32 (hs_I s 0 46).toNatClampNeg (vp_nar .byte (a1.toInt8.toInt32))) (fun t1 =>
    pm_let (hs_pI t1 0 46 ((hs_I t1 0 46) + (1 : Int32))) (fun t2 =>
    some t2)))
set_option maxRecDepth 100000 in
set_option maxHeartbeats 400000 in
theorem w_M_X11_write_0 (d : Nat) (a1 : Int32) (s s1 : hp_S) (h : f_M_X11_write_0 a1 s = some s1) : hp_is sh_M me_X11_write (d + 0) [.ref 0, .int a1] s none s1 := by
  refine hp_ofF [(0, .ref 0), (1, .int a1)] (by decide +kernel) (Nat.le_of_ble_eq_true rfl) rfl ?_
  unfold f_M_X11_write_0 at h
  refine hq_aload_n (pm_d rk_X11_write 0 rfl) rfl 0 rfl ?_
  refine hq_getI 46 (pm_d rk_X11_write 1 rfl) fl_X11_304 rfl rfl ?_
  refine hq_sipush (v := (4000 : Int32)) (pm_d rk_X11_write 2 rfl) (by decide) ?_
  refine hq_icmp_ge 31 (pm_d rk_X11_write 3 rfl) (by decide) (fun hc => ?_) (fun hc => ?_)
  · rw [if_pos hc] at h
    exact hq_vret (pm_d rk_X11_write 17 rfl) rfl h
  rw [if_neg hc] at h
  show hp_go _ _ _ _ _ 10 _ _ _
  refine hq_aload_n (pm_d rk_X11_write 4 rfl) rfl 0 rfl ?_
  refine hq_getR (h := 32) 45 (pm_d rk_X11_write 5 rfl) fl_X11_109 rfl rfl ?_
  refine hq_aload_n (pm_d rk_X11_write 6 rfl) rfl 0 rfl ?_
  refine hq_getI 46 (pm_d rk_X11_write 7 rfl) fl_X11_304 rfl rfl ?_
  refine hq_iload_n (pm_d rk_X11_write 8 rfl) rfl 1 rfl ?_
  refine hq_i2b (pm_d rk_X11_write 9 rfl) ?_
  show hp_go _ _ _ _ _ 20 _ _ _
  obtain ⟨hg, h⟩ := pm_gd_i h
  refine hq_bastore (pm_d rk_X11_write 10 rfl) rfl hg ?_
  refine pm_nm (G := fun t1 => hp_go sh_M me_X11_write (d + 0) none s1 21 [(0, .ref 0), (1, .int a1)] [] t1) h (fun t1 h => ?_)
  refine hq_aload_n (pm_d rk_X11_write 11 rfl) rfl 0 rfl ?_
  refine hq_dup (pm_d rk_X11_write 12 rfl) rfl ?_
  refine hq_getI 46 (pm_d rk_X11_write 13 rfl) fl_X11_304 rfl rfl ?_
  refine hq_iconst (v := (1 : Int32)) (pm_d rk_X11_write 14 rfl) (by decide) ?_
  refine hq_iadd (pm_d rk_X11_write 15 rfl) ?_
  show hp_go _ _ _ _ _ 28 _ _ _
  refine hq_putI 46 (pm_d rk_X11_write 16 rfl) fl_X11_304 rfl rfl ?_
  refine pm_nm (G := fun t2 => hp_go sh_M me_X11_write (d + 0) none s1 31 [(0, .ref 0), (1, .int a1)] [] t2) h (fun t2 h => ?_)
  exact hq_vret (pm_d rk_X11_write 17 rfl) rfl h
def l_M_X11_writeWord_0_3 : Nat → Int64 → Int32 → hp_S → Option hp_S
  | 0, _, _, _ => none
  | n + 1, y1, y3, s =>
    if y3 < 0 then
      some s
    else
      pm_let (((y1 >>> (((8 : Int32) * y3).toInt64 &&& 63)) &&& (255 : Int64)).toInt32) (fun x1 =>
      pm_let (fun (z31_1 : Int64) (z31_3 : Int32) (s : hp_S) =>
        pm_let (z31_3 + (-1 : Int32)) (fun x2 =>
        l_M_X11_writeWord_0_3 n z31_1 x2 s)) (fun j31 =>
      if x1 ≤ 0 then
        j31 y1 y3 s
      else
        pm_b1 (f_M_X11_write_0 x1 s) (fun t3 =>
        j31 y1 y3 t3)))
set_option maxRecDepth 100000 in
set_option maxHeartbeats 400000 in
theorem wl_M_X11_writeWord_0_3 (d : Nat) (s1 : hp_S)  : ∀ (n : Nat) (y1 : Int64) (y3 : Int32) (s : hp_S), l_M_X11_writeWord_0_3 n y1 y3 s = some s1 → hp_go sh_M me_X11_writeWord (d + 1) none s1 3 [(0, .ref 0), (1, .long y1), (3, .int y3)] [] s := by
  intro n
  induction n with
  | zero =>
    intro y1 y3 s h
    cases h
  | succ n ih =>
    intro y1 y3 s h
    rw [l_M_X11_writeWord_0_3.eq_2] at h
    refine hq_iload_n (pm_d rk_X11_writeWord 2 rfl) rfl 2 rfl ?_
    refine hq_if_lt 37 (pm_d rk_X11_writeWord 3 rfl) (by decide) (fun hc => ?_) (fun hc => ?_)
    · rw [if_pos hc] at h
      exact hq_vret (pm_d rk_X11_writeWord 20 rfl) rfl h
    rw [if_neg hc] at h
    show hp_go _ _ _ _ _ 7 _ _ _
    refine hq_lload_n (pm_d rk_X11_writeWord 4 rfl) rfl 1 rfl ?_
    refine hq_bipush (v := (8 : Int32)) (pm_d rk_X11_writeWord 5 rfl) (by decide) ?_
    refine hq_iload_n (pm_d rk_X11_writeWord 6 rfl) rfl 2 rfl ?_
    refine hq_imul (pm_d rk_X11_writeWord 7 rfl) ?_
    refine hq_lshr (pm_d rk_X11_writeWord 8 rfl) ?_
    refine hq_ldc2 (pm_d rk_X11_writeWord 9 rfl) (pm_i6 117 rfl rfl) ?_
    show hp_go _ _ _ _ _ 16 _ _ _
    refine hq_land (pm_d rk_X11_writeWord 10 rfl) ?_
    refine hq_l2i (pm_d rk_X11_writeWord 11 rfl) ?_
    refine pm_nm (G := fun x1 => hp_go sh_M me_X11_writeWord (d + 1) none s1 18 [(0, .ref 0), (1, .long y1), (3, .int y3)] [.int x1] s) h (fun x1 h => ?_)
    refine hq_istore (L1 := [(4, .int x1), (0, .ref 0), (1, .long y1), (3, .int y3)]) (pm_d rk_X11_writeWord 12 rfl) (by decide) rfl ?_
    refine hq_iload (pm_d rk_X11_writeWord 13 rfl) 0 rfl ?_
    refine pm_jn (P := fun j31 => ∀ (z31_1 : Int64) (z31_3 : Int32) (s : hp_S), j31 z31_1 z31_3 s = some s1 → hp_go sh_M me_X11_writeWord (d + 1) none s1 31 [(0, .ref 0), (1, .long z31_1), (3, .int z31_3)] [] s) h ?_ (fun j31 hj31 h => ?_)
    · intro z31_1 z31_3 s h
      dsimp only at h
      refine hq_iinc (v := z31_3 + (-1 : Int32)) (L1 := [(3, .int (z31_3 + (-1 : Int32))), (0, .ref 0), (1, .long z31_1)]) (pm_d rk_X11_writeWord 18 rfl) 2 rfl (by rw [show Int32.ofInt (-1) = (-1 : Int32) by decide]) (by decide) rfl ?_
      refine pm_nm (G := fun x2 => hp_go sh_M me_X11_writeWord (d + 1) none s1 34 [(3, .int x2), (0, .ref 0), (1, .long z31_1)] [] s) h (fun x2 h => ?_)
      refine hq_goto 3 (pm_d rk_X11_writeWord 19 rfl) (by decide) ?_
      refine hq_drop [1, 2, 0] rfl ?_
      exact ih _ _ _ h
    show hp_go _ _ _ _ _ 22 _ _ _
    refine hq_if_le 31 (pm_d rk_X11_writeWord 14 rfl) (by decide) (fun hc => ?_) (fun hc => ?_)
    · rw [if_pos hc] at h
      refine hq_drop [1, 2, 3] rfl ?_
      exact hj31 _ _ _ h
    rw [if_neg hc] at h
    refine hq_aload_n (pm_d rk_X11_writeWord 15 rfl) rfl 1 rfl ?_
    refine hq_iload (pm_d rk_X11_writeWord 16 rfl) 0 rfl ?_
    obtain ⟨t3, hq, h⟩ := pm_b1_i h
    have hM := w_M_X11_write_0 (d := d + 0) (h := hq)
    refine hq_callVv (a := 0) (ci := 11) [.int x1] [] (pm_d rk_X11_writeWord 17 rfl) ml_X11_309 iv_X11_write rfl rfl rfl rfl rfl (Nat.le_of_ble_eq_true rfl) hM ?_
    refine hq_drop [1, 2, 3] rfl ?_
    exact hj31 _ _ _ h
def f_M_X11_writeWord_0 (n : Nat) (a1 : Int64) (s : hp_S) : Option hp_S :=
  l_M_X11_writeWord_0_3 n a1 (7 : Int32) s
set_option maxRecDepth 100000 in
set_option maxHeartbeats 400000 in
theorem w_M_X11_writeWord_0 (d : Nat) (n : Nat) (a1 : Int64) (s s1 : hp_S) (h : f_M_X11_writeWord_0 n a1 s = some s1) : hp_is sh_M me_X11_writeWord (d + 1) [.ref 0, .long a1] s none s1 := by
  refine hp_ofF [(0, .ref 0), (1, .long a1)] (by decide +kernel) (Nat.le_of_ble_eq_true rfl) rfl ?_
  unfold f_M_X11_writeWord_0 at h
  refine hq_bipush (v := (7 : Int32)) (pm_d rk_X11_writeWord 0 rfl) (by decide) ?_
  refine hq_istore_n (L1 := [(3, .int (7 : Int32)), (0, .ref 0), (1, .long a1)]) (pm_d rk_X11_writeWord 1 rfl) rfl (by decide) rfl ?_
  refine hq_drop [1, 2, 0] rfl ?_
  exact wl_M_X11_writeWord_0_3 d _   _ _ _ _ h
def l_M_X11_writeSlice_0_101 (j133 : Int32 → Int32 → Int32 → hp_S → Option hp_S) : Nat → Int32 → Int32 → hp_S → Option hp_S
  | 0, _, _, _ => none
  | n + 1, y3, y5, s =>
    pm_gd1 (pm_ib y3 501) (
    if (hs_A s 4 y3.toNatClampNeg) ≤ y5 then
      j133 (1 : Int32) (0 : Int32) y3 s
    else
      pm_gd1 (pm_ib y5 500) (
      pm_b1 (f_M_X11_write_0 (hs_A s 2 y5.toNatClampNeg) s) (fun t4 =>
      pm_let (y5 + (1 : Int32)) (fun x5 =>
      l_M_X11_writeSlice_0_101 j133 n y3 x5 t4))))
set_option maxRecDepth 100000 in
set_option maxHeartbeats 400000 in
theorem wl_M_X11_writeSlice_0_101 (d : Nat) (j133 : Int32 → Int32 → Int32 → hp_S → Option hp_S) (s1 : hp_S) (hj133 : ∀ (z133_1 : Int32) (z133_2 : Int32) (z133_3 : Int32) (s : hp_S), j133 z133_1 z133_2 z133_3 s = some s1 → hp_go sh_M me_X11_writeSlice (d + 2) none s1 133 [(0, .ref 0), (1, .int z133_1), (2, .int z133_2), (3, .int z133_3)] [] s) : ∀ (n : Nat) (y3 : Int32) (y5 : Int32) (s : hp_S), l_M_X11_writeSlice_0_101 j133 n y3 y5 s = some s1 → hp_go sh_M me_X11_writeSlice (d + 2) none s1 101 [(0, .ref 0), (3, .int y3), (5, .int y5)] [] s := by
  intro n
  induction n with
  | zero =>
    intro y3 y5 s h
    cases h
  | succ n ih =>
    intro y3 y5 s h
    rw [l_M_X11_writeSlice_0_101.eq_2] at h
    refine hq_iload (pm_d rk_X11_writeSlice 55 rfl) 2 rfl ?_
    refine hq_aload_n (pm_d rk_X11_writeSlice 56 rfl) rfl 0 rfl ?_
    refine hq_getR (h := 4) 9 (pm_d rk_X11_writeSlice 57 rfl) fl_X11_24 rfl rfl ?_
    show hp_go _ _ _ _ _ 107 _ _ _
    refine hq_iload_n (pm_d rk_X11_writeSlice 58 rfl) rfl 1 rfl ?_
    obtain ⟨hg, h⟩ := pm_gd_i h
    refine hq_iaload (pm_d rk_X11_writeSlice 59 rfl) rfl hg ?_
    refine hq_icmp_ge 129 (pm_d rk_X11_writeSlice 60 rfl) (by decide) (fun hc => ?_) (fun hc => ?_)
    · rw [if_pos hc] at h
      refine hq_iconst (v := (1 : Int32)) (pm_d rk_X11_writeSlice 69 rfl) (by decide) ?_
      refine hq_istore_n (L1 := [(1, .int (1 : Int32)), (0, .ref 0), (3, .int y3), (5, .int y5)]) (pm_d rk_X11_writeSlice 70 rfl) rfl (by decide) rfl ?_
      refine hq_iconst (v := (0 : Int32)) (pm_d rk_X11_writeSlice 71 rfl) (by decide) ?_
      show hp_go _ _ _ _ _ 132 _ _ _
      refine hq_istore_n (L1 := [(2, .int (0 : Int32)), (1, .int (1 : Int32)), (0, .ref 0), (3, .int y3), (5, .int y5)]) (pm_d rk_X11_writeSlice 72 rfl) rfl (by decide) rfl ?_
      refine hq_drop [2, 1, 0, 3] rfl ?_
      exact hj133 _ _ _ _ h
    rw [if_neg hc] at h
    refine hq_aload_n (pm_d rk_X11_writeSlice 61 rfl) rfl 0 rfl ?_
    refine hq_aload_n (pm_d rk_X11_writeSlice 62 rfl) rfl 0 rfl ?_
    refine hq_getR (h := 2) 2 (pm_d rk_X11_writeSlice 63 rfl) fl_X11_13 rfl rfl ?_
    refine hq_iload (pm_d rk_X11_writeSlice 64 rfl) 2 rfl ?_
    obtain ⟨hg, h⟩ := pm_gd_i h
    refine hq_baload (pm_d rk_X11_writeSlice 65 rfl) rfl hg ?_
    show hp_go _ _ _ _ _ 120 _ _ _
    obtain ⟨t4, hq, h⟩ := pm_b1_i h
    have hM := w_M_X11_write_0 (d := d + 1) (h := hq)
    refine hq_callVv (a := 0) (ci := 11) [.int (hs_A s 2 y5.toNatClampNeg)] [] (pm_d rk_X11_writeSlice 66 rfl) ml_X11_309 iv_X11_write rfl rfl rfl rfl rfl (Nat.le_of_ble_eq_true rfl) hM ?_
    refine hq_iinc (v := y5 + (1 : Int32)) (L1 := [(5, .int (y5 + (1 : Int32))), (0, .ref 0), (3, .int y3)]) (pm_d rk_X11_writeSlice 67 rfl) 2 rfl (by rw [show Int32.ofInt (1) = (1 : Int32) by decide]) (by decide) rfl ?_
    refine pm_nm (G := fun x5 => hp_go sh_M me_X11_writeSlice (d + 2) none s1 126 [(5, .int x5), (0, .ref 0), (3, .int y3)] [] t4) h (fun x5 h => ?_)
    refine hq_goto 101 (pm_d rk_X11_writeSlice 68 rfl) (by decide) ?_
    refine hq_drop [1, 2, 0] rfl ?_
    exact ih _ _ _ h
def l_M_X11_writeSlice_0_6 : Nat → Int32 → Int32 → Int32 → hp_S → Option hp_S
  | 0, _, _, _, _ => none
  | n + 1, y1, y2, y3, s =>
    if (hs_I s 0 11) ≤ y3 then
      if y2 = 0 then
        some s
      else
        pm_b1 (f_M_X11_writeWord_0 n (2108974 : Int64) s) (fun t1 =>
        some t1)
    else
      pm_gd1 (pm_ib y3 501) (
      pm_let (fun (z47_1 : Int32) (z47_2 : Int32) (z47_3 : Int32) (z47_S0 : Int32) (s : hp_S) =>
        pm_let (fun (z133_1 : Int32) (z133_2 : Int32) (z133_3 : Int32) (s : hp_S) =>
          pm_let (z133_3 + (1 : Int32)) (fun x2 =>
          l_M_X11_writeSlice_0_6 n z133_1 z133_2 x2 s)) (fun j133 =>
        if z47_S0 = 0 then
          j133 z47_1 (1 : Int32) z47_3 s
        else
          pm_let (fun (z93_3 : Int32) (s : hp_S) =>
            pm_gd1 (pm_ib z93_3 501) (
            pm_let (hs_A s 3 z93_3.toNatClampNeg) (fun x3 =>
            l_M_X11_writeSlice_0_101 j133 n z93_3 x3 s))) (fun j93 =>
          if z47_2 = 0 then
            if z47_1 = 0 then
              j93 z47_3 s
            else
              pm_b1 (f_M_X11_write_0 (32 : Int32) s) (fun t6 =>
              j93 z47_3 t6)
          else
            pm_let (fun (z77_3 : Int32) (z77_S0 : Int64) (s : hp_S) =>
              pm_b1 (f_M_X11_writeWord_0 n z77_S0 s) (fun t7 =>
              j93 z77_3 t7)) (fun j77 =>
            if z47_1 = 0 then
              j77 z47_3 (3026464 : Int64) s
            else
              j77 z47_3 (539897376 : Int64) s)))) (fun j47 =>
      pm_let (fun (z46_1 : Int32) (z46_2 : Int32) (z46_3 : Int32) (s : hp_S) =>
        j47 z46_1 z46_2 z46_3 (0 : Int32) s) (fun j46 =>
      if (hs_A s 5 y3.toNatClampNeg) < 0 then
        j46 y1 y2 y3 s
      else
        pm_gd1 (pm_ib y3 501) (
        pm_gd1 (pm_ib (hs_A s 5 y3.toNatClampNeg) 101) (
        pm_gd1 (pm_ib (hs_A s 16 (hs_A s 5 y3.toNatClampNeg).toNatClampNeg) 101) (
        if (hs_A s 30 (hs_A s 16 (hs_A s 5 y3.toNatClampNeg).toNatClampNeg).toNatClampNeg) = 0 then
          j46 y1 y2 y3 s
        else
          j47 y1 y2 y3 (1 : Int32) s))))))
set_option maxRecDepth 100000 in
set_option maxHeartbeats 400000 in
theorem wl_M_X11_writeSlice_0_6 (d : Nat) (s1 : hp_S)  : ∀ (n : Nat) (y1 : Int32) (y2 : Int32) (y3 : Int32) (s : hp_S), l_M_X11_writeSlice_0_6 n y1 y2 y3 s = some s1 → hp_go sh_M me_X11_writeSlice (d + 2) none s1 6 [(0, .ref 0), (1, .int y1), (2, .int y2), (3, .int y3)] [] s := by
  intro n
  induction n with
  | zero =>
    intro y1 y2 y3 s h
    cases h
  | succ n ih =>
    intro y1 y2 y3 s h
    rw [l_M_X11_writeSlice_0_6.eq_2] at h
    refine hq_iload_n (pm_d rk_X11_writeSlice 6 rfl) rfl 3 rfl ?_
    refine hq_aload_n (pm_d rk_X11_writeSlice 7 rfl) rfl 0 rfl ?_
    refine hq_getI 11 (pm_d rk_X11_writeSlice 8 rfl) fl_X11_183 rfl rfl ?_
    refine hq_icmp_ge 139 (pm_d rk_X11_writeSlice 9 rfl) (by decide) (fun hc => ?_) (fun hc => ?_)
    · rw [if_pos hc] at h
      refine hq_iload_n (pm_d rk_X11_writeSlice 75 rfl) rfl 2 rfl ?_
      show hp_go _ _ _ _ _ 140 _ _ _
      refine hq_if_eq 150 (pm_d rk_X11_writeSlice 76 rfl) (by decide) (fun hc => ?_) (fun hc => ?_)
      · rw [if_pos hc] at h
        exact hq_vret (pm_d rk_X11_writeSlice 80 rfl) rfl h
      rw [if_neg hc] at h
      refine hq_aload_n (pm_d rk_X11_writeSlice 77 rfl) rfl 0 rfl ?_
      refine hq_ldc2 (pm_d rk_X11_writeSlice 78 rfl) (pm_i6 134 rfl rfl) ?_
      obtain ⟨t1, hq, h⟩ := pm_b1_i h
      have hM := w_M_X11_writeWord_0 (d := d + 0) (h := hq)
      refine hq_callVv (a := 0) (ci := 11) [.long (2108974 : Int64)] [] (pm_d rk_X11_writeSlice 79 rfl) ml_X11_323 iv_X11_writeWord rfl rfl rfl rfl rfl (Nat.le_of_ble_eq_true rfl) hM ?_
      exact hq_vret (pm_d rk_X11_writeSlice 80 rfl) rfl h
    rw [if_neg hc] at h
    show hp_go _ _ _ _ _ 14 _ _ _
    refine hq_aload_n (pm_d rk_X11_writeSlice 10 rfl) rfl 0 rfl ?_
    refine hq_getR (h := 5) 10 (pm_d rk_X11_writeSlice 11 rfl) fl_X11_27 rfl rfl ?_
    refine hq_iload_n (pm_d rk_X11_writeSlice 12 rfl) rfl 3 rfl ?_
    obtain ⟨hg, h⟩ := pm_gd_i h
    refine hq_iaload (pm_d rk_X11_writeSlice 13 rfl) rfl hg ?_
    refine pm_jn (P := fun j47 => ∀ (z47_1 : Int32) (z47_2 : Int32) (z47_3 : Int32) (z47_S0 : Int32) (s : hp_S), j47 z47_1 z47_2 z47_3 z47_S0 s = some s1 → hp_go sh_M me_X11_writeSlice (d + 2) none s1 47 [(0, .ref 0), (1, .int z47_1), (2, .int z47_2), (3, .int z47_3)] [.int z47_S0] s) h ?_ (fun j47 hj47 h => ?_)
    · intro z47_1 z47_2 z47_3 z47_S0 s h
      dsimp only at h
      refine hq_istore (L1 := [(4, .int z47_S0), (0, .ref 0), (1, .int z47_1), (2, .int z47_2), (3, .int z47_3)]) (pm_d rk_X11_writeSlice 29 rfl) (by decide) rfl ?_
      refine hq_iload (pm_d rk_X11_writeSlice 30 rfl) 0 rfl ?_
      refine pm_jn (P := fun j133 => ∀ (z133_1 : Int32) (z133_2 : Int32) (z133_3 : Int32) (s : hp_S), j133 z133_1 z133_2 z133_3 s = some s1 → hp_go sh_M me_X11_writeSlice (d + 2) none s1 133 [(0, .ref 0), (1, .int z133_1), (2, .int z133_2), (3, .int z133_3)] [] s) h ?_ (fun j133 hj133 h => ?_)
      · intro z133_1 z133_2 z133_3 s h
        dsimp only at h
        show hp_go _ _ _ _ _ 133 _ _ _
        refine hq_iinc (v := z133_3 + (1 : Int32)) (L1 := [(3, .int (z133_3 + (1 : Int32))), (0, .ref 0), (1, .int z133_1), (2, .int z133_2)]) (pm_d rk_X11_writeSlice 73 rfl) 3 rfl (by rw [show Int32.ofInt (1) = (1 : Int32) by decide]) (by decide) rfl ?_
        refine pm_nm (G := fun x2 => hp_go sh_M me_X11_writeSlice (d + 2) none s1 136 [(3, .int x2), (0, .ref 0), (1, .int z133_1), (2, .int z133_2)] [] s) h (fun x2 h => ?_)
        refine hq_goto 6 (pm_d rk_X11_writeSlice 74 rfl) (by decide) ?_
        refine hq_drop [1, 2, 3, 0] rfl ?_
        exact ih _ _ _ _ h
      refine hq_if_ne 59 (pm_d rk_X11_writeSlice 31 rfl) (by decide) (fun hc => ?_) (fun hc => ?_)
      · rw [if_neg hc] at h
        refine hq_iload_n (pm_d rk_X11_writeSlice 35 rfl) rfl 3 rfl ?_
        refine pm_jn (P := fun j93 => ∀ (z93_3 : Int32) (s : hp_S), j93 z93_3 s = some s1 → hp_go sh_M me_X11_writeSlice (d + 2) none s1 93 [(0, .ref 0), (3, .int z93_3)] [] s) h ?_ (fun j93 hj93 h => ?_)
        · intro z93_3 s h
          dsimp only at h
          refine hq_aload_n (pm_d rk_X11_writeSlice 50 rfl) rfl 0 rfl ?_
          refine hq_getR (h := 3) 8 (pm_d rk_X11_writeSlice 51 rfl) fl_X11_20 rfl rfl ?_
          show hp_go _ _ _ _ _ 97 _ _ _
          refine hq_iload_n (pm_d rk_X11_writeSlice 52 rfl) rfl 1 rfl ?_
          obtain ⟨hg, h⟩ := pm_gd_i h
          refine hq_iaload (pm_d rk_X11_writeSlice 53 rfl) rfl hg ?_
          refine pm_nm (G := fun x3 => hp_go sh_M me_X11_writeSlice (d + 2) none s1 99 [(0, .ref 0), (3, .int z93_3)] [.int x3] s) h (fun x3 h => ?_)
          refine hq_istore (L1 := [(5, .int x3), (0, .ref 0), (3, .int z93_3)]) (pm_d rk_X11_writeSlice 54 rfl) (by decide) rfl ?_
          refine hq_drop [1, 2, 0] rfl ?_
          exact wl_M_X11_writeSlice_0_101 d _ _  hj133 _ _ _ _ h
        refine hq_if_eq 83 (pm_d rk_X11_writeSlice 36 rfl) (by decide) (fun hc => ?_) (fun hc => ?_)
        · rw [if_pos hc] at h
          refine hq_iload_n (pm_d rk_X11_writeSlice 45 rfl) rfl 2 rfl ?_
          refine hq_if_eq 93 (pm_d rk_X11_writeSlice 46 rfl) (by decide) (fun hc => ?_) (fun hc => ?_)
          · rw [if_pos hc] at h
            refine hq_drop [1, 4] rfl ?_
            exact hj93 _ _ h
          rw [if_neg hc] at h
          show hp_go _ _ _ _ _ 87 _ _ _
          refine hq_aload_n (pm_d rk_X11_writeSlice 47 rfl) rfl 1 rfl ?_
          refine hq_bipush (v := (32 : Int32)) (pm_d rk_X11_writeSlice 48 rfl) (by decide) ?_
          obtain ⟨t6, hq, h⟩ := pm_b1_i h
          have hM := w_M_X11_write_0 (d := d + 1) (h := hq)
          refine hq_callVv (a := 0) (ci := 11) [.int (32 : Int32)] [] (pm_d rk_X11_writeSlice 49 rfl) ml_X11_309 iv_X11_write rfl rfl rfl rfl rfl (Nat.le_of_ble_eq_true rfl) hM ?_
          refine hq_drop [1, 4] rfl ?_
          exact hj93 _ _ h
        rw [if_neg hc] at h
        refine hq_aload_n (pm_d rk_X11_writeSlice 37 rfl) rfl 1 rfl ?_
        refine hq_iload_n (pm_d rk_X11_writeSlice 38 rfl) rfl 2 rfl ?_
        refine pm_jn (P := fun j77 => ∀ (z77_3 : Int32) (z77_S0 : Int64) (s : hp_S), j77 z77_3 z77_S0 s = some s1 → hp_go sh_M me_X11_writeSlice (d + 2) none s1 77 [(0, .ref 0), (3, .int z77_3)] [.long z77_S0, .ref 0] s) h ?_ (fun j77 hj77 h => ?_)
        · intro z77_3 z77_S0 s h
          dsimp only at h
          obtain ⟨t7, hq, h⟩ := pm_b1_i h
          have hM := w_M_X11_writeWord_0 (d := d + 0) (h := hq)
          refine hq_callVv (a := 0) (ci := 11) [.long z77_S0] [] (pm_d rk_X11_writeSlice 43 rfl) ml_X11_323 iv_X11_writeWord rfl rfl rfl rfl rfl (Nat.le_of_ble_eq_true rfl) hM ?_
          show hp_go _ _ _ _ _ 80 _ _ _
          refine hq_goto 93 (pm_d rk_X11_writeSlice 44 rfl) (by decide) ?_
          refine hq_drop [0, 1] rfl ?_
          exact hj93 _ _ h
        refine hq_if_eq 74 (pm_d rk_X11_writeSlice 39 rfl) (by decide) (fun hc => ?_) (fun hc => ?_)
        · rw [if_pos hc] at h
          refine hq_ldc2 (pm_d rk_X11_writeSlice 42 rfl) (pm_i6 133 rfl rfl) ?_
          refine hq_drop [1, 4] rfl ?_
          exact hj77 _ _ _ h
        rw [if_neg hc] at h
        refine hq_ldc2 (pm_d rk_X11_writeSlice 40 rfl) (pm_i6 132 rfl rfl) ?_
        refine hq_goto 77 (pm_d rk_X11_writeSlice 41 rfl) (by decide) ?_
        refine hq_drop [1, 4] rfl ?_
        exact hj77 _ _ _ h
      rw [if_pos hc] at h
      refine hq_iconst (v := (1 : Int32)) (pm_d rk_X11_writeSlice 32 rfl) (by decide) ?_
      show hp_go _ _ _ _ _ 55 _ _ _
      refine hq_istore_n (L1 := [(2, .int (1 : Int32)), (4, .int z47_S0), (0, .ref 0), (1, .int z47_1), (3, .int z47_3)]) (pm_d rk_X11_writeSlice 33 rfl) rfl (by decide) rfl ?_
      refine hq_goto 133 (pm_d rk_X11_writeSlice 34 rfl) (by decide) ?_
      refine hq_drop [2, 3, 0, 4] rfl ?_
      exact hj133 _ _ _ _ h
    refine pm_jn (P := fun j46 => ∀ (z46_1 : Int32) (z46_2 : Int32) (z46_3 : Int32) (s : hp_S), j46 z46_1 z46_2 z46_3 s = some s1 → hp_go sh_M me_X11_writeSlice (d + 2) none s1 46 [(0, .ref 0), (1, .int z46_1), (2, .int z46_2), (3, .int z46_3)] [] s) h ?_ (fun j46 hj46 h => ?_)
    · intro z46_1 z46_2 z46_3 s h
      dsimp only at h
      refine hq_iconst (v := (0 : Int32)) (pm_d rk_X11_writeSlice 28 rfl) (by decide) ?_
      refine hq_drop [0, 1, 2, 3] rfl ?_
      exact hj47 _ _ _ _ _ h
    refine hq_if_lt 46 (pm_d rk_X11_writeSlice 14 rfl) (by decide) (fun hc => ?_) (fun hc => ?_)
    · rw [if_pos hc] at h
      refine hq_drop [0, 1, 2, 3] rfl ?_
      exact hj46 _ _ _ _ h
    rw [if_neg hc] at h
    refine hq_aload_n (pm_d rk_X11_writeSlice 15 rfl) rfl 0 rfl ?_
    refine hq_getR (h := 30) 43 (pm_d rk_X11_writeSlice 16 rfl) fl_X11_103 rfl rfl ?_
    show hp_go _ _ _ _ _ 27 _ _ _
    refine hq_aload_n (pm_d rk_X11_writeSlice 17 rfl) rfl 0 rfl ?_
    refine hq_getR (h := 16) 24 (pm_d rk_X11_writeSlice 18 rfl) fl_X11_60 rfl rfl ?_
    refine hq_aload_n (pm_d rk_X11_writeSlice 19 rfl) rfl 0 rfl ?_
    refine hq_getR (h := 5) 10 (pm_d rk_X11_writeSlice 20 rfl) fl_X11_27 rfl rfl ?_
    refine hq_iload_n (pm_d rk_X11_writeSlice 21 rfl) rfl 3 rfl ?_
    obtain ⟨hg, h⟩ := pm_gd_i h
    refine hq_iaload (pm_d rk_X11_writeSlice 22 rfl) rfl hg ?_
    show hp_go _ _ _ _ _ 37 _ _ _
    obtain ⟨hg, h⟩ := pm_gd_i h
    refine hq_iaload (pm_d rk_X11_writeSlice 23 rfl) rfl hg ?_
    obtain ⟨hg, h⟩ := pm_gd_i h
    refine hq_zaload (pm_d rk_X11_writeSlice 24 rfl) rfl hg ?_
    refine hq_if_eq 46 (pm_d rk_X11_writeSlice 25 rfl) (by decide) (fun hc => ?_) (fun hc => ?_)
    · rw [if_pos hc] at h
      refine hq_drop [0, 1, 2, 3] rfl ?_
      exact hj46 _ _ _ _ h
    rw [if_neg hc] at h
    refine hq_iconst (v := (1 : Int32)) (pm_d rk_X11_writeSlice 26 rfl) (by decide) ?_
    refine hq_goto 47 (pm_d rk_X11_writeSlice 27 rfl) (by decide) ?_
    refine hq_drop [0, 1, 2, 3] rfl ?_
    exact hj47 _ _ _ _ _ h
def f_M_X11_writeSlice_0 (n : Nat) (s : hp_S) : Option hp_S :=
  l_M_X11_writeSlice_0_6 n (0 : Int32) (0 : Int32) (0 : Int32) s
set_option maxRecDepth 100000 in
set_option maxHeartbeats 400000 in
theorem w_M_X11_writeSlice_0 (d : Nat) (n : Nat) (s s1 : hp_S) (h : f_M_X11_writeSlice_0 n s = some s1) : hp_is sh_M me_X11_writeSlice (d + 2) [.ref 0] s none s1 := by
  refine hp_ofF [(0, .ref 0)] (by decide +kernel) (Nat.le_of_ble_eq_true rfl) rfl ?_
  unfold f_M_X11_writeSlice_0 at h
  refine hq_iconst (v := (0 : Int32)) (pm_d rk_X11_writeSlice 0 rfl) (by decide) ?_
  refine hq_istore_n (L1 := [(1, .int (0 : Int32)), (0, .ref 0)]) (pm_d rk_X11_writeSlice 1 rfl) rfl (by decide) rfl ?_
  refine hq_iconst (v := (0 : Int32)) (pm_d rk_X11_writeSlice 2 rfl) (by decide) ?_
  refine hq_istore_n (L1 := [(2, .int (0 : Int32)), (1, .int (0 : Int32)), (0, .ref 0)]) (pm_d rk_X11_writeSlice 3 rfl) rfl (by decide) rfl ?_
  refine hq_iconst (v := (0 : Int32)) (pm_d rk_X11_writeSlice 4 rfl) (by decide) ?_
  show hp_go _ _ _ _ _ 5 _ _ _
  refine hq_istore_n (L1 := [(3, .int (0 : Int32)), (2, .int (0 : Int32)), (1, .int (0 : Int32)), (0, .ref 0)]) (pm_d rk_X11_writeSlice 5 rfl) rfl (by decide) rfl ?_
  refine hq_drop [3, 2, 1, 0] rfl ?_
  exact wl_M_X11_writeSlice_0_6 d _   _ _ _ _ _ h
def l_M_X11_letter_0_78 : Nat → Int32 → Int32 → hp_S → Option hp_S
  | 0, _, _, _ => none
  | n + 1, y2, y3, s =>
    if y3 ≤ 0 then
      some s
    else
      pm_gd1 (!decide (y3 = 0)) (
      pm_b1 (f_M_X11_write_0 ((48 : Int32) + ((y2 / y3) - (y2 / y3) / (10 : Int32) * (10 : Int32))) s) (fun t3 =>
      pm_let (y3 / (10 : Int32)) (fun x4 =>
      l_M_X11_letter_0_78 n y2 x4 t3)))
set_option maxRecDepth 100000 in
set_option maxHeartbeats 400000 in
theorem wl_M_X11_letter_0_78 (d : Nat) (s1 : hp_S)  : ∀ (n : Nat) (y2 : Int32) (y3 : Int32) (s : hp_S), l_M_X11_letter_0_78 n y2 y3 s = some s1 → hp_go sh_M me_X11_letter (d + 1) none s1 78 [(0, .ref 0), (2, .int y2), (3, .int y3)] [] s := by
  intro n
  induction n with
  | zero =>
    intro y2 y3 s h
    cases h
  | succ n ih =>
    intro y2 y3 s h
    rw [l_M_X11_letter_0_78.eq_2] at h
    refine hq_iload_n (pm_d rk_X11_letter 49 rfl) rfl 2 rfl ?_
    refine hq_if_le 103 (pm_d rk_X11_letter 50 rfl) (by decide) (fun hc => ?_) (fun hc => ?_)
    · rw [if_pos hc] at h
      exact hq_vret (pm_d rk_X11_letter 65 rfl) rfl h
    rw [if_neg hc] at h
    refine hq_aload_n (pm_d rk_X11_letter 51 rfl) rfl 0 rfl ?_
    refine hq_bipush (v := (48 : Int32)) (pm_d rk_X11_letter 52 rfl) (by decide) ?_
    show hp_go _ _ _ _ _ 85 _ _ _
    refine hq_iload_n (pm_d rk_X11_letter 53 rfl) rfl 1 rfl ?_
    refine hq_iload_n (pm_d rk_X11_letter 54 rfl) rfl 2 rfl ?_
    obtain ⟨hg, h⟩ := pm_gd_i h
    refine hq_idiv (pm_d rk_X11_letter 55 rfl) (pm_ne0 hg) ?_
    refine hq_bipush (v := (10 : Int32)) (pm_d rk_X11_letter 56 rfl) (by decide) ?_
    refine hq_irem (pm_d rk_X11_letter 57 rfl) (by decide) ?_
    refine hq_iadd (pm_d rk_X11_letter 58 rfl) ?_
    show hp_go _ _ _ _ _ 92 _ _ _
    obtain ⟨t3, hq, h⟩ := pm_b1_i h
    have hM := w_M_X11_write_0 (d := d + 0) (h := hq)
    refine hq_callVv (a := 0) (ci := 11) [.int ((48 : Int32) + ((y2 / y3) - (y2 / y3) / (10 : Int32) * (10 : Int32)))] [] (pm_d rk_X11_letter 59 rfl) ml_X11_309 iv_X11_write rfl rfl rfl rfl rfl (Nat.le_of_ble_eq_true rfl) hM ?_
    refine hq_iload_n (pm_d rk_X11_letter 60 rfl) rfl 2 rfl ?_
    refine hq_bipush (v := (10 : Int32)) (pm_d rk_X11_letter 61 rfl) (by decide) ?_
    refine hq_idiv (pm_d rk_X11_letter 62 rfl) (by decide) ?_
    refine pm_nm (G := fun x4 => hp_go sh_M me_X11_letter (d + 1) none s1 99 [(0, .ref 0), (2, .int y2), (3, .int y3)] [.int x4] t3) h (fun x4 h => ?_)
    refine hq_istore_n (L1 := [(3, .int x4), (0, .ref 0), (2, .int y2)]) (pm_d rk_X11_letter 63 rfl) rfl (by decide) rfl ?_
    refine hq_goto 78 (pm_d rk_X11_letter 64 rfl) (by decide) ?_
    refine hq_drop [1, 2, 0] rfl ?_
    exact ih _ _ _ h
def l_M_X11_letter_0_62 : Nat → Int32 → Int32 → hp_S → Option hp_S
  | 0, _, _, _ => none
  | n + 1, y2, y3, s =>
    pm_gd1 (!decide (y3 = 0)) (
    if (y2 / y3) ≤ (9 : Int32) then
      l_M_X11_letter_0_78 n y2 y3 s
    else
      pm_let (y3 * (10 : Int32)) (fun x5 =>
      l_M_X11_letter_0_62 n y2 x5 s))
set_option maxRecDepth 100000 in
set_option maxHeartbeats 400000 in
theorem wl_M_X11_letter_0_62 (d : Nat) (s1 : hp_S)  : ∀ (n : Nat) (y2 : Int32) (y3 : Int32) (s : hp_S), l_M_X11_letter_0_62 n y2 y3 s = some s1 → hp_go sh_M me_X11_letter (d + 1) none s1 62 [(0, .ref 0), (2, .int y2), (3, .int y3)] [] s := by
  intro n
  induction n with
  | zero =>
    intro y2 y3 s h
    cases h
  | succ n ih =>
    intro y2 y3 s h
    rw [l_M_X11_letter_0_62.eq_2] at h
    refine hq_iload_n (pm_d rk_X11_letter 39 rfl) rfl 1 rfl ?_
    refine hq_iload_n (pm_d rk_X11_letter 40 rfl) rfl 2 rfl ?_
    obtain ⟨hg, h⟩ := pm_gd_i h
    refine hq_idiv (pm_d rk_X11_letter 41 rfl) (pm_ne0 hg) ?_
    refine hq_bipush (v := (9 : Int32)) (pm_d rk_X11_letter 42 rfl) (by decide) ?_
    show hp_go _ _ _ _ _ 67 _ _ _
    refine hq_icmp_le 78 (pm_d rk_X11_letter 43 rfl) (by decide) (fun hc => ?_) (fun hc => ?_)
    · rw [if_pos hc] at h
      refine hq_drop [0, 1, 2] rfl ?_
      exact wl_M_X11_letter_0_78 d _   _ _ _ _ h
    rw [if_neg hc] at h
    show hp_go _ _ _ _ _ 70 _ _ _
    refine hq_iload_n (pm_d rk_X11_letter 44 rfl) rfl 2 rfl ?_
    refine hq_bipush (v := (10 : Int32)) (pm_d rk_X11_letter 45 rfl) (by decide) ?_
    refine hq_imul (pm_d rk_X11_letter 46 rfl) ?_
    refine pm_nm (G := fun x5 => hp_go sh_M me_X11_letter (d + 1) none s1 74 [(0, .ref 0), (2, .int y2), (3, .int y3)] [.int x5] s) h (fun x5 h => ?_)
    refine hq_istore_n (L1 := [(3, .int x5), (0, .ref 0), (2, .int y2)]) (pm_d rk_X11_letter 47 rfl) rfl (by decide) rfl ?_
    refine hq_goto 62 (pm_d rk_X11_letter 48 rfl) (by decide) ?_
    refine hq_drop [1, 2, 0] rfl ?_
    exact ih _ _ _ h
def f_M_X11_letter_0 (n : Nat) (a1 : Int32) (s : hp_S) : Option hp_S :=
  pm_gd1 (pm_ib a1 10200) (
  pm_let (fun (z29_1 : Int32) (s : hp_S) =>
    pm_gd1 (pm_ib z29_1 10200) (
    pm_b1 (f_M_X11_write_0 ((97 : Int32) + ((hs_A s 33 z29_1.toNatClampNeg) - (hs_A s 33 z29_1.toNatClampNeg) / (26 : Int32) * (26 : Int32))) s) (fun t1 =>
    pm_gd1 (pm_ib z29_1 10200) (
    pm_let ((hs_A t1 33 z29_1.toNatClampNeg) / (26 : Int32)) (fun x2 =>
    if x2 = 0 then
      some t1
    else
      l_M_X11_letter_0_62 n x2 (1 : Int32) t1))))) (fun j29 =>
  if 0 ≤ (hs_A s 33 a1.toNatClampNeg) then
    j29 a1 s
  else
    pm_gd1 (pm_ib a1 10200) (
    pm_let (hs_pA s 33 a1.toNatClampNeg (hs_I s 0 48)) (fun t6 =>
    pm_let (hs_pI t6 0 48 ((hs_I t6 0 48) + (1 : Int32))) (fun t7 =>
    j29 a1 t7)))))
set_option maxRecDepth 100000 in
set_option maxHeartbeats 400000 in
theorem w_M_X11_letter_0 (d : Nat) (n : Nat) (a1 : Int32) (s s1 : hp_S) (h : f_M_X11_letter_0 n a1 s = some s1) : hp_is sh_M me_X11_letter (d + 1) [.ref 0, .int a1] s none s1 := by
  refine hp_ofF [(0, .ref 0), (1, .int a1)] (by decide +kernel) (Nat.le_of_ble_eq_true rfl) rfl ?_
  unfold f_M_X11_letter_0 at h
  refine hq_aload_n (pm_d rk_X11_letter 0 rfl) rfl 0 rfl ?_
  refine hq_getR (h := 33) 47 (pm_d rk_X11_letter 1 rfl) fl_X11_112 rfl rfl ?_
  refine hq_iload_n (pm_d rk_X11_letter 2 rfl) rfl 1 rfl ?_
  obtain ⟨hg, h⟩ := pm_gd_i h
  refine hq_iaload (pm_d rk_X11_letter 3 rfl) rfl hg ?_
  refine pm_jn (P := fun j29 => ∀ (z29_1 : Int32) (s : hp_S), j29 z29_1 s = some s1 → hp_go sh_M me_X11_letter (d + 1) none s1 29 [(0, .ref 0), (1, .int z29_1)] [] s) h ?_ (fun j29 hj29 h => ?_)
  · intro z29_1 s h
    dsimp only at h
    refine hq_aload_n (pm_d rk_X11_letter 17 rfl) rfl 0 rfl ?_
    show hp_go _ _ _ _ _ 30 _ _ _
    refine hq_bipush (v := (97 : Int32)) (pm_d rk_X11_letter 18 rfl) (by decide) ?_
    refine hq_aload_n (pm_d rk_X11_letter 19 rfl) rfl 0 rfl ?_
    refine hq_getR (h := 33) 47 (pm_d rk_X11_letter 20 rfl) fl_X11_112 rfl rfl ?_
    refine hq_iload_n (pm_d rk_X11_letter 21 rfl) rfl 1 rfl ?_
    obtain ⟨hg, h⟩ := pm_gd_i h
    refine hq_iaload (pm_d rk_X11_letter 22 rfl) rfl hg ?_
    refine hq_bipush (v := (26 : Int32)) (pm_d rk_X11_letter 23 rfl) (by decide) ?_
    show hp_go _ _ _ _ _ 40 _ _ _
    refine hq_irem (pm_d rk_X11_letter 24 rfl) (by decide) ?_
    refine hq_iadd (pm_d rk_X11_letter 25 rfl) ?_
    obtain ⟨t1, hq, h⟩ := pm_b1_i h
    have hM := w_M_X11_write_0 (d := d + 0) (h := hq)
    refine hq_callVv (a := 0) (ci := 11) [.int ((97 : Int32) + ((hs_A s 33 z29_1.toNatClampNeg) - (hs_A s 33 z29_1.toNatClampNeg) / (26 : Int32) * (26 : Int32)))] [] (pm_d rk_X11_letter 26 rfl) ml_X11_309 iv_X11_write rfl rfl rfl rfl rfl (Nat.le_of_ble_eq_true rfl) hM ?_
    refine hq_aload_n (pm_d rk_X11_letter 27 rfl) rfl 0 rfl ?_
    refine hq_getR (h := 33) 47 (pm_d rk_X11_letter 28 rfl) fl_X11_112 rfl rfl ?_
    refine hq_iload_n (pm_d rk_X11_letter 29 rfl) rfl 1 rfl ?_
    show hp_go _ _ _ _ _ 50 _ _ _
    obtain ⟨hg, h⟩ := pm_gd_i h
    refine hq_iaload (pm_d rk_X11_letter 30 rfl) rfl hg ?_
    refine hq_bipush (v := (26 : Int32)) (pm_d rk_X11_letter 31 rfl) (by decide) ?_
    refine hq_idiv (pm_d rk_X11_letter 32 rfl) (by decide) ?_
    refine pm_nm (G := fun x2 => hp_go sh_M me_X11_letter (d + 1) none s1 54 [(0, .ref 0), (1, .int z29_1)] [.int x2] t1) h (fun x2 h => ?_)
    refine hq_istore_n (L1 := [(2, .int x2), (0, .ref 0), (1, .int z29_1)]) (pm_d rk_X11_letter 33 rfl) rfl (by decide) rfl ?_
    refine hq_iload_n (pm_d rk_X11_letter 34 rfl) rfl 0 rfl ?_
    refine hq_if_ne 60 (pm_d rk_X11_letter 35 rfl) (by decide) (fun hc => ?_) (fun hc => ?_)
    · rw [if_neg hc] at h
      show hp_go _ _ _ _ _ 60 _ _ _
      refine hq_iconst (v := (1 : Int32)) (pm_d rk_X11_letter 37 rfl) (by decide) ?_
      refine hq_istore_n (L1 := [(3, .int (1 : Int32)), (2, .int x2), (0, .ref 0), (1, .int z29_1)]) (pm_d rk_X11_letter 38 rfl) rfl (by decide) rfl ?_
      refine hq_drop [2, 1, 0] rfl ?_
      exact wl_M_X11_letter_0_62 d _   _ _ _ _ h
    rw [if_pos hc] at h
    exact hq_vret (pm_d rk_X11_letter 36 rfl) rfl h
  show hp_go _ _ _ _ _ 6 _ _ _
  refine hq_if_ge 29 (pm_d rk_X11_letter 4 rfl) (by decide) (fun hc => ?_) (fun hc => ?_)
  · rw [if_pos hc] at h
    refine hq_drop [0, 1] rfl ?_
    exact hj29 _ _ h
  rw [if_neg hc] at h
  refine hq_aload_n (pm_d rk_X11_letter 5 rfl) rfl 0 rfl ?_
  refine hq_getR (h := 33) 47 (pm_d rk_X11_letter 6 rfl) fl_X11_112 rfl rfl ?_
  refine hq_iload_n (pm_d rk_X11_letter 7 rfl) rfl 1 rfl ?_
  refine hq_aload_n (pm_d rk_X11_letter 8 rfl) rfl 0 rfl ?_
  refine hq_getI 48 (pm_d rk_X11_letter 9 rfl) fl_X11_312 rfl rfl ?_
  show hp_go _ _ _ _ _ 18 _ _ _
  obtain ⟨hg, h⟩ := pm_gd_i h
  refine hq_iastore (pm_d rk_X11_letter 10 rfl) rfl hg ?_
  refine pm_nm (G := fun t6 => hp_go sh_M me_X11_letter (d + 1) none s1 19 [(0, .ref 0), (1, .int a1)] [] t6) h (fun t6 h => ?_)
  refine hq_aload_n (pm_d rk_X11_letter 11 rfl) rfl 0 rfl ?_
  refine hq_dup (pm_d rk_X11_letter 12 rfl) rfl ?_
  refine hq_getI 48 (pm_d rk_X11_letter 13 rfl) fl_X11_312 rfl rfl ?_
  refine hq_iconst (v := (1 : Int32)) (pm_d rk_X11_letter 14 rfl) (by decide) ?_
  refine hq_iadd (pm_d rk_X11_letter 15 rfl) ?_
  show hp_go _ _ _ _ _ 26 _ _ _
  refine hq_putI 48 (pm_d rk_X11_letter 16 rfl) fl_X11_312 rfl rfl ?_
  refine pm_nm (G := fun t7 => hp_go sh_M me_X11_letter (d + 1) none s1 29 [(0, .ref 0), (1, .int a1)] [] t7) h (fun t7 h => ?_)
  refine hq_drop [0, 1] rfl ?_
  exact hj29 _ _ h
def l_M_X11_writeType_0_40 : Nat → hp_S → Option hp_S
  | 0, _ => none
  | n + 1, s =>
    if (hs_I s 0 40) ≤ 0 then
      some s
    else
      if (4000 : Int32) ≤ (hs_I s 0 46) then
        some s
      else
        pm_let (hs_pI s 0 40 ((hs_I s 0 40) - (1 : Int32))) (fun t4 =>
        pm_gd1 (pm_ib (hs_I t4 0 40) 20000) (
        pm_let (hs_A t4 27 (hs_I t4 0 40).toNatClampNeg) (fun x5 =>
        if 0 ≤ x5 then
          pm_bd (f_M_X11_root_0 n x5 t4) (fun x7 t6 =>
          pm_gd1 (pm_ib x7 10200) (
          pm_let (fun (s : hp_S) =>
            l_M_X11_writeType_0_40 n  s) (fun j374 =>
          pm_let (hs_A t6 24 x7.toNatClampNeg) (fun x8 =>
          if x8 = (0 : Int32) then
            pm_b1 (f_M_X11_letter_0 n x7 t6) (fun t9 =>
            j374  t9)
          else
          if x8 = (1 : Int32) then
            pm_b1 (f_M_X11_writeWord_0 n (6909556 : Int64) t6) (fun t10 =>
            j374  t10)
          else
          if x8 = (2 : Int32) then
            pm_b1 (f_M_X11_writeWord_0 n (1651470188 : Int64) t6) (fun t11 =>
            j374  t11)
          else
          if x8 = (3 : Int32) then
            pm_gd1 (pm_ib x7 10200) (
            pm_bd (f_M_X11_root_0 n (hs_A t6 25 x7.toNatClampNeg) t6) (fun x13 t12 =>
            pm_gd1 (pm_ib x13 10200) (
            pm_let (fun (z220_3 : Int32) (z220_S0 : Int32) (s : hp_S) =>
              pm_let (fun (z233_3 : Int32) (z233_4 : Int32) (s : hp_S) =>
                pm_gd1 (pm_ib z233_3 10200) (
                pm_gd1 (pm_ib (hs_I s 0 40) 20000) (
                pm_let (hs_pA s 27 (hs_I s 0 40).toNatClampNeg (hs_A s 26 z233_3.toNatClampNeg)) (fun t14 =>
                pm_let (fun (z269_3 : Int32) (z269_S0 : Int32) (z269_S1 : Int32) (s : hp_S) =>
                  pm_gd1 (pm_ib z269_S1 20000) (
                  pm_let (hs_pA s 27 z269_S1.toNatClampNeg z269_S0) (fun t15 =>
                  pm_gd1 (pm_ib z269_3 10200) (
                  pm_gd1 (pm_ib ((hs_I t15 0 40) + (2 : Int32)) 20000) (
                  pm_let (hs_pA t15 27 ((hs_I t15 0 40) + (2 : Int32)).toNatClampNeg (hs_A t15 25 z269_3.toNatClampNeg)) (fun t16 =>
                  pm_let (hs_pI t16 0 40 ((hs_I t16 0 40) + (3 : Int32))) (fun t17 =>
                  j374  t17))))))) (fun j269 =>
                if z233_4 = 0 then
                  j269 z233_3 (-1 : Int32) ((hs_I t14 0 40) + (1 : Int32)) t14
                else
                  j269 z233_3 (-2 : Int32) ((hs_I t14 0 40) + (1 : Int32)) t14))))) (fun j233 =>
              if z220_S0 = 0 then
                j233 z220_3 z220_S0 s
              else
                pm_b1 (f_M_X11_write_0 (40 : Int32) s) (fun t18 =>
                j233 z220_3 z220_S0 t18))) (fun j220 =>
            if (hs_A t12 24 x13.toNatClampNeg) = (3 : Int32) then
              j220 x7 (1 : Int32) t12
            else
              j220 x7 (0 : Int32) t12))))
          else
            pm_b1 (f_M_X11_write_0 (40 : Int32) t6) (fun t19 =>
            pm_gd1 (pm_ib (hs_I t19 0 40) 20000) (
            pm_let (hs_pA t19 27 (hs_I t19 0 40).toNatClampNeg (-4 : Int32)) (fun t20 =>
            pm_gd1 (pm_ib x7 10200) (
            pm_gd1 (pm_ib ((hs_I t20 0 40) + (1 : Int32)) 20000) (
            pm_let (hs_pA t20 27 ((hs_I t20 0 40) + (1 : Int32)).toNatClampNeg (hs_A t20 26 x7.toNatClampNeg)) (fun t21 =>
            pm_gd1 (pm_ib ((hs_I t21 0 40) + (2 : Int32)) 20000) (
            pm_let (hs_pA t21 27 ((hs_I t21 0 40) + (2 : Int32)).toNatClampNeg (-3 : Int32)) (fun t22 =>
            pm_gd1 (pm_ib x7 10200) (
            pm_gd1 (pm_ib ((hs_I t22 0 40) + (3 : Int32)) 20000) (
            pm_let (hs_pA t22 27 ((hs_I t22 0 40) + (3 : Int32)).toNatClampNeg (hs_A t22 25 x7.toNatClampNeg)) (fun t23 =>
            pm_let (hs_pI t23 0 40 ((hs_I t23 0 40) + (4 : Int32))) (fun t24 =>
            j374  t24))))))))))))))))
        else
          pm_let (fun (z120_S0 : Int64) (s : hp_S) =>
            pm_b1 (f_M_X11_writeWord_0 n z120_S0 s) (fun t25 =>
            l_M_X11_writeType_0_40 n  t25)) (fun j120 =>
          if x5 = (-1 : Int32) then
            j120 (539835936 : Int64) t4
          else
            if x5 = (-2 : Int32) then
              j120 (176633495072 : Int64) t4
            else
              if x5 = (-3 : Int32) then
                j120 (11296 : Int64) t4
              else
                j120 (41 : Int64) t4))))
set_option maxRecDepth 100000 in
set_option maxHeartbeats 400000 in
theorem wl_M_X11_writeType_0_40 (d : Nat) (s1 : hp_S)  : ∀ (n : Nat) (s : hp_S), l_M_X11_writeType_0_40 n  s = some s1 → hp_go sh_M me_X11_writeType (d + 2) none s1 40 [(0, .ref 0)] [] s := by
  intro n
  induction n with
  | zero =>
    intro  s h
    cases h
  | succ n ih =>
    intro  s h
    rw [l_M_X11_writeType_0_40.eq_2] at h
    show hp_go _ _ _ _ _ 40 _ _ _
    refine hq_aload_n (pm_d rk_X11_writeType 24 rfl) rfl 0 rfl ?_
    refine hq_getI 40 (pm_d rk_X11_writeType 25 rfl) fl_X11_268 rfl rfl ?_
    refine hq_if_le 377 (pm_d rk_X11_writeType 26 rfl) (by decide) (fun hc => ?_) (fun hc => ?_)
    · rw [if_pos hc] at h
      exact hq_vret (pm_d rk_X11_writeType 190 rfl) rfl h
    rw [if_neg hc] at h
    refine hq_aload_n (pm_d rk_X11_writeType 27 rfl) rfl 0 rfl ?_
    refine hq_getI 46 (pm_d rk_X11_writeType 28 rfl) fl_X11_304 rfl rfl ?_
    show hp_go _ _ _ _ _ 51 _ _ _
    refine hq_sipush (v := (4000 : Int32)) (pm_d rk_X11_writeType 29 rfl) (by decide) ?_
    refine hq_icmp_ge 377 (pm_d rk_X11_writeType 30 rfl) (by decide) (fun hc => ?_) (fun hc => ?_)
    · rw [if_pos hc] at h
      exact hq_vret (pm_d rk_X11_writeType 190 rfl) rfl h
    rw [if_neg hc] at h
    refine hq_aload_n (pm_d rk_X11_writeType 31 rfl) rfl 0 rfl ?_
    refine hq_dup (pm_d rk_X11_writeType 32 rfl) rfl ?_
    refine hq_getI 40 (pm_d rk_X11_writeType 33 rfl) fl_X11_268 rfl rfl ?_
    show hp_go _ _ _ _ _ 62 _ _ _
    refine hq_iconst (v := (1 : Int32)) (pm_d rk_X11_writeType 34 rfl) (by decide) ?_
    refine hq_isub (pm_d rk_X11_writeType 35 rfl) ?_
    refine hq_putI 40 (pm_d rk_X11_writeType 36 rfl) fl_X11_268 rfl rfl ?_
    refine pm_nm (G := fun t4 => hp_go sh_M me_X11_writeType (d + 2) none s1 67 [(0, .ref 0)] [] t4) h (fun t4 h => ?_)
    refine hq_aload_n (pm_d rk_X11_writeType 37 rfl) rfl 0 rfl ?_
    refine hq_getR (h := 27) 38 (pm_d rk_X11_writeType 38 rfl) fl_X11_93 rfl rfl ?_
    refine hq_aload_n (pm_d rk_X11_writeType 39 rfl) rfl 0 rfl ?_
    show hp_go _ _ _ _ _ 72 _ _ _
    refine hq_getI 40 (pm_d rk_X11_writeType 40 rfl) fl_X11_268 rfl rfl ?_
    obtain ⟨hg, h⟩ := pm_gd_i h
    refine hq_iaload (pm_d rk_X11_writeType 41 rfl) rfl hg ?_
    refine pm_nm (G := fun x5 => hp_go sh_M me_X11_writeType (d + 2) none s1 76 [(0, .ref 0)] [.int x5] t4) h (fun x5 h => ?_)
    refine hq_istore_n (L1 := [(2, .int x5), (0, .ref 0)]) (pm_d rk_X11_writeType 42 rfl) rfl (by decide) rfl ?_
    refine hq_iload_n (pm_d rk_X11_writeType 43 rfl) rfl 0 rfl ?_
    refine hq_if_ge 126 (pm_d rk_X11_writeType 44 rfl) (by decide) (fun hc => ?_) (fun hc => ?_)
    · rw [if_pos hc] at h
      refine hq_aload_n (pm_d rk_X11_writeType 64 rfl) rfl 1 rfl ?_
      show hp_go _ _ _ _ _ 127 _ _ _
      refine hq_iload_n (pm_d rk_X11_writeType 65 rfl) rfl 0 rfl ?_
      obtain ⟨x7, t6, hq, h⟩ := pm_bd_i h
      have hM := w_M_X11_root_0 (d := d + 1) (h := hq)
      refine hq_callVi (a := 0) (ci := 11) [.int x5] [] (pm_d rk_X11_writeType 66 rfl) ml_X11_274 iv_X11_root rfl rfl rfl rfl rfl (Nat.le_of_ble_eq_true rfl) hM ?_
      refine hq_istore_n (L1 := [(3, .int x7), (2, .int x5), (0, .ref 0)]) (pm_d rk_X11_writeType 67 rfl) rfl (by decide) rfl ?_
      refine hq_aload_n (pm_d rk_X11_writeType 68 rfl) rfl 2 rfl ?_
      refine hq_getR (h := 24) 34 (pm_d rk_X11_writeType 69 rfl) fl_X11_84 rfl rfl ?_
      refine hq_iload_n (pm_d rk_X11_writeType 70 rfl) rfl 0 rfl ?_
      show hp_go _ _ _ _ _ 137 _ _ _
      obtain ⟨hg, h⟩ := pm_gd_i h
      refine hq_iaload (pm_d rk_X11_writeType 71 rfl) rfl hg ?_
      refine pm_jn (P := fun j374 => ∀ (s : hp_S), j374  s = some s1 → hp_go sh_M me_X11_writeType (d + 2) none s1 374 [(0, .ref 0)] [] s) h ?_ (fun j374 hj374 h => ?_)
      · intro  s h
        dsimp only at h
        refine hq_goto 40 (pm_d rk_X11_writeType 189 rfl) (by decide) ?_
        refine hq_drop [0] rfl ?_
        exact ih  _ h
      refine pm_nm (G := fun x8 => hp_go sh_M me_X11_writeType (d + 2) none s1 138 [(3, .int x7), (2, .int x5), (0, .ref 0)] [.int x8] t6) h (fun x8 h => ?_)
      by_cases hc0 : x8 = (0 : Int32)
      · rw [if_pos hc0] at h
        refine hq_tableIn 188 (pm_d rk_X11_writeType 72 rfl) (by rw [hc0]; decide) (by rw [hc0]; decide) (by rw [hc0] <;> rfl) (by decide) ?_
        refine hq_aload_n (pm_d rk_X11_writeType 81 rfl) rfl 2 rfl ?_
        refine hq_iload_n (pm_d rk_X11_writeType 82 rfl) rfl 0 rfl ?_
        obtain ⟨t9, hq, h⟩ := pm_b1_i h
        have hM := w_M_X11_letter_0 (d := d + 0) (h := hq)
        refine hq_callVv (a := 0) (ci := 11) [.int x7] [] (pm_d rk_X11_writeType 83 rfl) ml_X11_331 iv_X11_letter rfl rfl rfl rfl rfl (Nat.le_of_ble_eq_true rfl) hM ?_
        show hp_go _ _ _ _ _ 193 _ _ _
        refine hq_goto 374 (pm_d rk_X11_writeType 84 rfl) (by decide) ?_
        refine hq_drop [2] rfl ?_
        exact hj374  _ h
      rw [if_neg hc0] at h
      by_cases hc1 : x8 = (1 : Int32)
      · rw [if_pos hc1] at h
        refine hq_tableIn 168 (pm_d rk_X11_writeType 72 rfl) (by rw [hc1]; decide) (by rw [hc1]; decide) (by rw [hc1] <;> rfl) (by decide) ?_
        refine hq_aload_n (pm_d rk_X11_writeType 73 rfl) rfl 2 rfl ?_
        refine hq_ldc2 (pm_d rk_X11_writeType 74 rfl) (pm_i6 122 rfl rfl) ?_
        obtain ⟨t10, hq, h⟩ := pm_b1_i h
        have hM := w_M_X11_writeWord_0 (d := d + 0) (h := hq)
        refine hq_callVv (a := 0) (ci := 11) [.long (6909556 : Int64)] [] (pm_d rk_X11_writeType 75 rfl) ml_X11_323 iv_X11_writeWord rfl rfl rfl rfl rfl (Nat.le_of_ble_eq_true rfl) hM ?_
        refine hq_goto 374 (pm_d rk_X11_writeType 76 rfl) (by decide) ?_
        refine hq_drop [2] rfl ?_
        exact hj374  _ h
      rw [if_neg hc1] at h
      by_cases hc2 : x8 = (2 : Int32)
      · rw [if_pos hc2] at h
        refine hq_tableIn 178 (pm_d rk_X11_writeType 72 rfl) (by rw [hc2]; decide) (by rw [hc2]; decide) (by rw [hc2] <;> rfl) (by decide) ?_
        refine hq_aload_n (pm_d rk_X11_writeType 77 rfl) rfl 2 rfl ?_
        show hp_go _ _ _ _ _ 179 _ _ _
        refine hq_ldc2 (pm_d rk_X11_writeType 78 rfl) (pm_i6 123 rfl rfl) ?_
        obtain ⟨t11, hq, h⟩ := pm_b1_i h
        have hM := w_M_X11_writeWord_0 (d := d + 0) (h := hq)
        refine hq_callVv (a := 0) (ci := 11) [.long (1651470188 : Int64)] [] (pm_d rk_X11_writeType 79 rfl) ml_X11_323 iv_X11_writeWord rfl rfl rfl rfl rfl (Nat.le_of_ble_eq_true rfl) hM ?_
        refine hq_goto 374 (pm_d rk_X11_writeType 80 rfl) (by decide) ?_
        refine hq_drop [2] rfl ?_
        exact hj374  _ h
      rw [if_neg hc2] at h
      by_cases hc3 : x8 = (3 : Int32)
      · rw [if_pos hc3] at h
        refine hq_tableIn 196 (pm_d rk_X11_writeType 72 rfl) (by rw [hc3]; decide) (by rw [hc3]; decide) (by rw [hc3] <;> rfl) (by decide) ?_
        refine hq_aload_n (pm_d rk_X11_writeType 85 rfl) rfl 2 rfl ?_
        refine hq_getR (h := 24) 34 (pm_d rk_X11_writeType 86 rfl) fl_X11_84 rfl rfl ?_
        refine hq_aload_n (pm_d rk_X11_writeType 87 rfl) rfl 2 rfl ?_
        show hp_go _ _ _ _ _ 201 _ _ _
        refine hq_aload_n (pm_d rk_X11_writeType 88 rfl) rfl 2 rfl ?_
        refine hq_getR (h := 25) 35 (pm_d rk_X11_writeType 89 rfl) fl_X11_87 rfl rfl ?_
        refine hq_iload_n (pm_d rk_X11_writeType 90 rfl) rfl 0 rfl ?_
        obtain ⟨hg, h⟩ := pm_gd_i h
        refine hq_iaload (pm_d rk_X11_writeType 91 rfl) rfl hg ?_
        obtain ⟨x13, t12, hq, h⟩ := pm_bd_i h
        have hM := w_M_X11_root_0 (d := d + 1) (h := hq)
        refine hq_callVi (a := 0) (ci := 11) [.int (hs_A t6 25 x7.toNatClampNeg)] [.ref 24] (pm_d rk_X11_writeType 92 rfl) ml_X11_274 iv_X11_root rfl rfl rfl rfl rfl (Nat.le_of_ble_eq_true rfl) hM ?_
        obtain ⟨hg, h⟩ := pm_gd_i h
        refine hq_iaload (pm_d rk_X11_writeType 93 rfl) rfl hg ?_
        show hp_go _ _ _ _ _ 211 _ _ _
        refine hq_iconst (v := (3 : Int32)) (pm_d rk_X11_writeType 94 rfl) (by decide) ?_
        refine pm_jn (P := fun j220 => ∀ (z220_3 : Int32) (z220_S0 : Int32) (s : hp_S), j220 z220_3 z220_S0 s = some s1 → hp_go sh_M me_X11_writeType (d + 2) none s1 220 [(0, .ref 0), (3, .int z220_3)] [.int z220_S0] s) h ?_ (fun j220 hj220 h => ?_)
        · intro z220_3 z220_S0 s h
          dsimp only at h
          refine hq_istore (L1 := [(4, .int z220_S0), (0, .ref 0), (3, .int z220_3)]) (pm_d rk_X11_writeType 99 rfl) (by decide) rfl ?_
          refine hq_iload (pm_d rk_X11_writeType 100 rfl) 0 rfl ?_
          refine pm_jn (P := fun j233 => ∀ (z233_3 : Int32) (z233_4 : Int32) (s : hp_S), j233 z233_3 z233_4 s = some s1 → hp_go sh_M me_X11_writeType (d + 2) none s1 233 [(0, .ref 0), (3, .int z233_3), (4, .int z233_4)] [] s) h ?_ (fun j233 hj233 h => ?_)
          · intro z233_3 z233_4 s h
            dsimp only at h
            refine hq_aload_n (pm_d rk_X11_writeType 105 rfl) rfl 0 rfl ?_
            refine hq_getR (h := 27) 38 (pm_d rk_X11_writeType 106 rfl) fl_X11_93 rfl rfl ?_
            refine hq_aload_n (pm_d rk_X11_writeType 107 rfl) rfl 0 rfl ?_
            show hp_go _ _ _ _ _ 238 _ _ _
            refine hq_getI 40 (pm_d rk_X11_writeType 108 rfl) fl_X11_268 rfl rfl ?_
            refine hq_aload_n (pm_d rk_X11_writeType 109 rfl) rfl 0 rfl ?_
            refine hq_getR (h := 26) 36 (pm_d rk_X11_writeType 110 rfl) fl_X11_90 rfl rfl ?_
            refine hq_iload_n (pm_d rk_X11_writeType 111 rfl) rfl 1 rfl ?_
            obtain ⟨hg, h⟩ := pm_gd_i h
            refine hq_iaload (pm_d rk_X11_writeType 112 rfl) rfl hg ?_
            obtain ⟨hg, h⟩ := pm_gd_i h
            refine hq_iastore (pm_d rk_X11_writeType 113 rfl) rfl hg ?_
            refine pm_nm (G := fun t14 => hp_go sh_M me_X11_writeType (d + 2) none s1 248 [(0, .ref 0), (3, .int z233_3), (4, .int z233_4)] [] t14) h (fun t14 h => ?_)
            show hp_go _ _ _ _ _ 248 _ _ _
            refine hq_aload_n (pm_d rk_X11_writeType 114 rfl) rfl 0 rfl ?_
            refine hq_getR (h := 27) 38 (pm_d rk_X11_writeType 115 rfl) fl_X11_93 rfl rfl ?_
            refine hq_aload_n (pm_d rk_X11_writeType 116 rfl) rfl 0 rfl ?_
            refine hq_getI 40 (pm_d rk_X11_writeType 117 rfl) fl_X11_268 rfl rfl ?_
            refine hq_iconst (v := (1 : Int32)) (pm_d rk_X11_writeType 118 rfl) (by decide) ?_
            refine hq_iadd (pm_d rk_X11_writeType 119 rfl) ?_
            show hp_go _ _ _ _ _ 258 _ _ _
            refine hq_iload (pm_d rk_X11_writeType 120 rfl) 2 rfl ?_
            refine pm_jn (P := fun j269 => ∀ (z269_3 : Int32) (z269_S0 : Int32) (z269_S1 : Int32) (s : hp_S), j269 z269_3 z269_S0 z269_S1 s = some s1 → hp_go sh_M me_X11_writeType (d + 2) none s1 269 [(0, .ref 0), (3, .int z269_3)] [.int z269_S0, .int z269_S1, .ref 27] s) h ?_ (fun j269 hj269 h => ?_)
            · intro z269_3 z269_S0 z269_S1 s h
              dsimp only at h
              obtain ⟨hg, h⟩ := pm_gd_i h
              refine hq_iastore (pm_d rk_X11_writeType 125 rfl) rfl hg ?_
              refine pm_nm (G := fun t15 => hp_go sh_M me_X11_writeType (d + 2) none s1 270 [(0, .ref 0), (3, .int z269_3)] [] t15) h (fun t15 h => ?_)
              refine hq_aload_n (pm_d rk_X11_writeType 126 rfl) rfl 0 rfl ?_
              refine hq_getR (h := 27) 38 (pm_d rk_X11_writeType 127 rfl) fl_X11_93 rfl rfl ?_
              refine hq_aload_n (pm_d rk_X11_writeType 128 rfl) rfl 0 rfl ?_
              refine hq_getI 40 (pm_d rk_X11_writeType 129 rfl) fl_X11_268 rfl rfl ?_
              show hp_go _ _ _ _ _ 278 _ _ _
              refine hq_iconst (v := (2 : Int32)) (pm_d rk_X11_writeType 130 rfl) (by decide) ?_
              refine hq_iadd (pm_d rk_X11_writeType 131 rfl) ?_
              refine hq_aload_n (pm_d rk_X11_writeType 132 rfl) rfl 0 rfl ?_
              refine hq_getR (h := 25) 35 (pm_d rk_X11_writeType 133 rfl) fl_X11_87 rfl rfl ?_
              refine hq_iload_n (pm_d rk_X11_writeType 134 rfl) rfl 1 rfl ?_
              obtain ⟨hg, h⟩ := pm_gd_i h
              refine hq_iaload (pm_d rk_X11_writeType 135 rfl) rfl hg ?_
              show hp_go _ _ _ _ _ 286 _ _ _
              obtain ⟨hg, h⟩ := pm_gd_i h
              refine hq_iastore (pm_d rk_X11_writeType 136 rfl) rfl hg ?_
              refine pm_nm (G := fun t16 => hp_go sh_M me_X11_writeType (d + 2) none s1 287 [(0, .ref 0), (3, .int z269_3)] [] t16) h (fun t16 h => ?_)
              refine hq_aload_n (pm_d rk_X11_writeType 137 rfl) rfl 0 rfl ?_
              refine hq_dup (pm_d rk_X11_writeType 138 rfl) rfl ?_
              refine hq_getI 40 (pm_d rk_X11_writeType 139 rfl) fl_X11_268 rfl rfl ?_
              refine hq_iconst (v := (3 : Int32)) (pm_d rk_X11_writeType 140 rfl) (by decide) ?_
              refine hq_iadd (pm_d rk_X11_writeType 141 rfl) ?_
              show hp_go _ _ _ _ _ 294 _ _ _
              refine hq_putI 40 (pm_d rk_X11_writeType 142 rfl) fl_X11_268 rfl rfl ?_
              refine pm_nm (G := fun t17 => hp_go sh_M me_X11_writeType (d + 2) none s1 297 [(0, .ref 0), (3, .int z269_3)] [] t17) h (fun t17 h => ?_)
              refine hq_goto 374 (pm_d rk_X11_writeType 143 rfl) (by decide) ?_
              refine hq_drop [0] rfl ?_
              exact hj374  _ h
            refine hq_if_eq 268 (pm_d rk_X11_writeType 121 rfl) (by decide) (fun hc => ?_) (fun hc => ?_)
            · rw [if_pos hc] at h
              refine hq_iconst (v := (-1 : Int32)) (pm_d rk_X11_writeType 124 rfl) (by decide) ?_
              refine hq_drop [0, 1] rfl ?_
              exact hj269 _ _ _ _ h
            rw [if_neg hc] at h
            refine hq_bipush (v := (-2 : Int32)) (pm_d rk_X11_writeType 122 rfl) (by decide) ?_
            refine hq_goto 269 (pm_d rk_X11_writeType 123 rfl) (by decide) ?_
            refine hq_drop [0, 1] rfl ?_
            exact hj269 _ _ _ _ h
          show hp_go _ _ _ _ _ 224 _ _ _
          refine hq_if_eq 233 (pm_d rk_X11_writeType 101 rfl) (by decide) (fun hc => ?_) (fun hc => ?_)
          · rw [if_pos hc] at h
            refine hq_drop [1, 2, 0] rfl ?_
            exact hj233 _ _ _ h
          rw [if_neg hc] at h
          refine hq_aload_n (pm_d rk_X11_writeType 102 rfl) rfl 1 rfl ?_
          refine hq_bipush (v := (40 : Int32)) (pm_d rk_X11_writeType 103 rfl) (by decide) ?_
          obtain ⟨t18, hq, h⟩ := pm_b1_i h
          have hM := w_M_X11_write_0 (d := d + 1) (h := hq)
          refine hq_callVv (a := 0) (ci := 11) [.int (40 : Int32)] [] (pm_d rk_X11_writeType 104 rfl) ml_X11_309 iv_X11_write rfl rfl rfl rfl rfl (Nat.le_of_ble_eq_true rfl) hM ?_
          refine hq_drop [1, 2, 0] rfl ?_
          exact hj233 _ _ _ h
        refine hq_icmp_ne 219 (pm_d rk_X11_writeType 95 rfl) (by decide) (fun hc => ?_) (fun hc => ?_)
        · rw [if_neg hc] at h
          refine hq_iconst (v := (0 : Int32)) (pm_d rk_X11_writeType 98 rfl) (by decide) ?_
          refine hq_drop [2, 0] rfl ?_
          exact hj220 _ _ _ h
        rw [if_pos hc] at h
        show hp_go _ _ _ _ _ 215 _ _ _
        refine hq_iconst (v := (1 : Int32)) (pm_d rk_X11_writeType 96 rfl) (by decide) ?_
        refine hq_goto 220 (pm_d rk_X11_writeType 97 rfl) (by decide) ?_
        refine hq_drop [2, 0] rfl ?_
        exact hj220 _ _ _ h
      rw [if_neg hc3] at h
      refine hq_tableOut 300 (pm_d rk_X11_writeType 72 rfl) (by
          rcases tb_out (t := x8.toInt) (lo := 0) 4 (fun k hk => match k, hk with | 0, _ => tb_ne hc0 (by decide) | 1, _ => tb_ne hc1 (by decide) | 2, _ => tb_ne hc2 (by decide) | 3, _ => tb_ne hc3 (by decide) | k + 4, hk => absurd hk (by omega)) with q | q
          · exact Or.inl q
          · exact Or.inr (by omega)) (by decide) ?_
      refine hq_aload_n (pm_d rk_X11_writeType 144 rfl) rfl 2 rfl ?_
      refine hq_bipush (v := (40 : Int32)) (pm_d rk_X11_writeType 145 rfl) (by decide) ?_
      obtain ⟨t19, hq, h⟩ := pm_b1_i h
      have hM := w_M_X11_write_0 (d := d + 1) (h := hq)
      refine hq_callVv (a := 0) (ci := 11) [.int (40 : Int32)] [] (pm_d rk_X11_writeType 146 rfl) ml_X11_309 iv_X11_write rfl rfl rfl rfl rfl (Nat.le_of_ble_eq_true rfl) hM ?_
      refine hq_aload_n (pm_d rk_X11_writeType 147 rfl) rfl 2 rfl ?_
      show hp_go _ _ _ _ _ 307 _ _ _
      refine hq_getR (h := 27) 38 (pm_d rk_X11_writeType 148 rfl) fl_X11_93 rfl rfl ?_
      refine hq_aload_n (pm_d rk_X11_writeType 149 rfl) rfl 2 rfl ?_
      refine hq_getI 40 (pm_d rk_X11_writeType 150 rfl) fl_X11_268 rfl rfl ?_
      refine hq_bipush (v := (-4 : Int32)) (pm_d rk_X11_writeType 151 rfl) (by decide) ?_
      obtain ⟨hg, h⟩ := pm_gd_i h
      refine hq_iastore (pm_d rk_X11_writeType 152 rfl) rfl hg ?_
      refine pm_nm (G := fun t20 => hp_go sh_M me_X11_writeType (d + 2) none s1 317 [(3, .int x7), (2, .int x5), (0, .ref 0)] [] t20) h (fun t20 h => ?_)
      refine hq_aload_n (pm_d rk_X11_writeType 153 rfl) rfl 2 rfl ?_
      show hp_go _ _ _ _ _ 318 _ _ _
      refine hq_getR (h := 27) 38 (pm_d rk_X11_writeType 154 rfl) fl_X11_93 rfl rfl ?_
      refine hq_aload_n (pm_d rk_X11_writeType 155 rfl) rfl 2 rfl ?_
      refine hq_getI 40 (pm_d rk_X11_writeType 156 rfl) fl_X11_268 rfl rfl ?_
      refine hq_iconst (v := (1 : Int32)) (pm_d rk_X11_writeType 157 rfl) (by decide) ?_
      refine hq_iadd (pm_d rk_X11_writeType 158 rfl) ?_
      refine hq_aload_n (pm_d rk_X11_writeType 159 rfl) rfl 2 rfl ?_
      show hp_go _ _ _ _ _ 328 _ _ _
      refine hq_getR (h := 26) 36 (pm_d rk_X11_writeType 160 rfl) fl_X11_90 rfl rfl ?_
      refine hq_iload_n (pm_d rk_X11_writeType 161 rfl) rfl 0 rfl ?_
      obtain ⟨hg, h⟩ := pm_gd_i h
      refine hq_iaload (pm_d rk_X11_writeType 162 rfl) rfl hg ?_
      obtain ⟨hg, h⟩ := pm_gd_i h
      refine hq_iastore (pm_d rk_X11_writeType 163 rfl) rfl hg ?_
      refine pm_nm (G := fun t21 => hp_go sh_M me_X11_writeType (d + 2) none s1 334 [(3, .int x7), (2, .int x5), (0, .ref 0)] [] t21) h (fun t21 h => ?_)
      refine hq_aload_n (pm_d rk_X11_writeType 164 rfl) rfl 2 rfl ?_
      refine hq_getR (h := 27) 38 (pm_d rk_X11_writeType 165 rfl) fl_X11_93 rfl rfl ?_
      show hp_go _ _ _ _ _ 338 _ _ _
      refine hq_aload_n (pm_d rk_X11_writeType 166 rfl) rfl 2 rfl ?_
      refine hq_getI 40 (pm_d rk_X11_writeType 167 rfl) fl_X11_268 rfl rfl ?_
      refine hq_iconst (v := (2 : Int32)) (pm_d rk_X11_writeType 168 rfl) (by decide) ?_
      refine hq_iadd (pm_d rk_X11_writeType 169 rfl) ?_
      refine hq_bipush (v := (-3 : Int32)) (pm_d rk_X11_writeType 170 rfl) (by decide) ?_
      obtain ⟨hg, h⟩ := pm_gd_i h
      refine hq_iastore (pm_d rk_X11_writeType 171 rfl) rfl hg ?_
      refine pm_nm (G := fun t22 => hp_go sh_M me_X11_writeType (d + 2) none s1 347 [(3, .int x7), (2, .int x5), (0, .ref 0)] [] t22) h (fun t22 h => ?_)
      show hp_go _ _ _ _ _ 347 _ _ _
      refine hq_aload_n (pm_d rk_X11_writeType 172 rfl) rfl 2 rfl ?_
      refine hq_getR (h := 27) 38 (pm_d rk_X11_writeType 173 rfl) fl_X11_93 rfl rfl ?_
      refine hq_aload_n (pm_d rk_X11_writeType 174 rfl) rfl 2 rfl ?_
      refine hq_getI 40 (pm_d rk_X11_writeType 175 rfl) fl_X11_268 rfl rfl ?_
      refine hq_iconst (v := (3 : Int32)) (pm_d rk_X11_writeType 176 rfl) (by decide) ?_
      refine hq_iadd (pm_d rk_X11_writeType 177 rfl) ?_
      show hp_go _ _ _ _ _ 357 _ _ _
      refine hq_aload_n (pm_d rk_X11_writeType 178 rfl) rfl 2 rfl ?_
      refine hq_getR (h := 25) 35 (pm_d rk_X11_writeType 179 rfl) fl_X11_87 rfl rfl ?_
      refine hq_iload_n (pm_d rk_X11_writeType 180 rfl) rfl 0 rfl ?_
      obtain ⟨hg, h⟩ := pm_gd_i h
      refine hq_iaload (pm_d rk_X11_writeType 181 rfl) rfl hg ?_
      obtain ⟨hg, h⟩ := pm_gd_i h
      refine hq_iastore (pm_d rk_X11_writeType 182 rfl) rfl hg ?_
      refine pm_nm (G := fun t23 => hp_go sh_M me_X11_writeType (d + 2) none s1 364 [(3, .int x7), (2, .int x5), (0, .ref 0)] [] t23) h (fun t23 h => ?_)
      refine hq_aload_n (pm_d rk_X11_writeType 183 rfl) rfl 2 rfl ?_
      show hp_go _ _ _ _ _ 365 _ _ _
      refine hq_dup (pm_d rk_X11_writeType 184 rfl) rfl ?_
      refine hq_getI 40 (pm_d rk_X11_writeType 185 rfl) fl_X11_268 rfl rfl ?_
      refine hq_iconst (v := (4 : Int32)) (pm_d rk_X11_writeType 186 rfl) (by decide) ?_
      refine hq_iadd (pm_d rk_X11_writeType 187 rfl) ?_
      refine hq_putI 40 (pm_d rk_X11_writeType 188 rfl) fl_X11_268 rfl rfl ?_
      refine pm_nm (G := fun t24 => hp_go sh_M me_X11_writeType (d + 2) none s1 374 [(3, .int x7), (2, .int x5), (0, .ref 0)] [] t24) h (fun t24 h => ?_)
      refine hq_drop [2] rfl ?_
      exact hj374  _ h
    rw [if_neg hc] at h
    refine hq_aload_n (pm_d rk_X11_writeType 45 rfl) rfl 1 rfl ?_
    show hp_go _ _ _ _ _ 82 _ _ _
    refine hq_iload_n (pm_d rk_X11_writeType 46 rfl) rfl 0 rfl ?_
    refine hq_iconst (v := (-1 : Int32)) (pm_d rk_X11_writeType 47 rfl) (by decide) ?_
    refine pm_jn (P := fun j120 => ∀ (z120_S0 : Int64) (s : hp_S), j120 z120_S0 s = some s1 → hp_go sh_M me_X11_writeType (d + 2) none s1 120 [(0, .ref 0)] [.long z120_S0, .ref 0] s) h ?_ (fun j120 hj120 h => ?_)
    · intro z120_S0 s h
      dsimp only at h
      obtain ⟨t25, hq, h⟩ := pm_b1_i h
      have hM := w_M_X11_writeWord_0 (d := d + 0) (h := hq)
      refine hq_callVv (a := 0) (ci := 11) [.long z120_S0] [] (pm_d rk_X11_writeType 62 rfl) ml_X11_323 iv_X11_writeWord rfl rfl rfl rfl rfl (Nat.le_of_ble_eq_true rfl) hM ?_
      refine hq_goto 40 (pm_d rk_X11_writeType 63 rfl) (by decide) ?_
      refine hq_drop [0] rfl ?_
      exact ih  _ h
    refine hq_icmp_ne 93 (pm_d rk_X11_writeType 48 rfl) (by decide) (fun hc => ?_) (fun hc => ?_)
    · rw [if_neg hc] at h
      refine hq_iload_n (pm_d rk_X11_writeType 51 rfl) rfl 0 rfl ?_
      show hp_go _ _ _ _ _ 94 _ _ _
      refine hq_bipush (v := (-2 : Int32)) (pm_d rk_X11_writeType 52 rfl) (by decide) ?_
      refine hq_icmp_ne 105 (pm_d rk_X11_writeType 53 rfl) (by decide) (fun hc => ?_) (fun hc => ?_)
      · rw [if_neg hc] at h
        refine hq_iload_n (pm_d rk_X11_writeType 56 rfl) rfl 0 rfl ?_
        refine hq_bipush (v := (-3 : Int32)) (pm_d rk_X11_writeType 57 rfl) (by decide) ?_
        refine hq_icmp_ne 117 (pm_d rk_X11_writeType 58 rfl) (by decide) (fun hc => ?_) (fun hc => ?_)
        · rw [if_neg hc] at h
          refine hq_ldc2 (pm_d rk_X11_writeType 61 rfl) (pm_i6 112 rfl rfl) ?_
          refine hq_drop [1] rfl ?_
          exact hj120 _ _ h
        rw [if_pos hc] at h
        show hp_go _ _ _ _ _ 111 _ _ _
        refine hq_ldc2 (pm_d rk_X11_writeType 59 rfl) (pm_i6 111 rfl rfl) ?_
        refine hq_goto 120 (pm_d rk_X11_writeType 60 rfl) (by decide) ?_
        refine hq_drop [1] rfl ?_
        exact hj120 _ _ h
      rw [if_pos hc] at h
      refine hq_ldc2 (pm_d rk_X11_writeType 54 rfl) (pm_i6 110 rfl rfl) ?_
      refine hq_goto 120 (pm_d rk_X11_writeType 55 rfl) (by decide) ?_
      refine hq_drop [1] rfl ?_
      exact hj120 _ _ h
    rw [if_pos hc] at h
    refine hq_ldc2 (pm_d rk_X11_writeType 49 rfl) (pm_i6 109 rfl rfl) ?_
    refine hq_goto 120 (pm_d rk_X11_writeType 50 rfl) (by decide) ?_
    refine hq_drop [1] rfl ?_
    exact hj120 _ _ h
def l_M_X11_writeType_0_2 : Nat → Int32 → Int32 → hp_S → Option hp_S
  | 0, _, _, _ => none
  | n + 1, y1, y2, s =>
    if (hs_I s 0 37) ≤ y2 then
      pm_let (hs_pI s 0 48 (0 : Int32)) (fun t1 =>
      pm_gd1 (pm_ib (0 : Int32) 20000) (
      pm_let (hs_pA t1 27 (0 : Int32).toNatClampNeg y1) (fun t2 =>
      pm_let (hs_pI t2 0 40 (1 : Int32)) (fun t3 =>
      l_M_X11_writeType_0_40 n  t3))))
    else
      pm_gd1 (pm_ib y2 10200) (
      pm_let (hs_pA s 33 y2.toNatClampNeg (-1 : Int32)) (fun t26 =>
      pm_let (y2 + (1 : Int32)) (fun x27 =>
      l_M_X11_writeType_0_2 n y1 x27 t26)))
set_option maxRecDepth 100000 in
set_option maxHeartbeats 400000 in
theorem wl_M_X11_writeType_0_2 (d : Nat) (s1 : hp_S)  : ∀ (n : Nat) (y1 : Int32) (y2 : Int32) (s : hp_S), l_M_X11_writeType_0_2 n y1 y2 s = some s1 → hp_go sh_M me_X11_writeType (d + 2) none s1 2 [(0, .ref 0), (1, .int y1), (2, .int y2)] [] s := by
  intro n
  induction n with
  | zero =>
    intro y1 y2 s h
    cases h
  | succ n ih =>
    intro y1 y2 s h
    rw [l_M_X11_writeType_0_2.eq_2] at h
    refine hq_iload_n (pm_d rk_X11_writeType 2 rfl) rfl 2 rfl ?_
    refine hq_aload_n (pm_d rk_X11_writeType 3 rfl) rfl 0 rfl ?_
    refine hq_getI 37 (pm_d rk_X11_writeType 4 rfl) fl_X11_265 rfl rfl ?_
    show hp_go _ _ _ _ _ 7 _ _ _
    refine hq_icmp_ge 23 (pm_d rk_X11_writeType 5 rfl) (by decide) (fun hc => ?_) (fun hc => ?_)
    · rw [if_pos hc] at h
      refine hq_aload_n (pm_d rk_X11_writeType 13 rfl) rfl 0 rfl ?_
      refine hq_iconst (v := (0 : Int32)) (pm_d rk_X11_writeType 14 rfl) (by decide) ?_
      refine hq_putI 48 (pm_d rk_X11_writeType 15 rfl) fl_X11_312 rfl rfl ?_
      refine pm_nm (G := fun t1 => hp_go sh_M me_X11_writeType (d + 2) none s1 28 [(0, .ref 0), (1, .int y1), (2, .int y2)] [] t1) h (fun t1 h => ?_)
      refine hq_aload_n (pm_d rk_X11_writeType 16 rfl) rfl 0 rfl ?_
      refine hq_getR (h := 27) 38 (pm_d rk_X11_writeType 17 rfl) fl_X11_93 rfl rfl ?_
      show hp_go _ _ _ _ _ 32 _ _ _
      refine hq_iconst (v := (0 : Int32)) (pm_d rk_X11_writeType 18 rfl) (by decide) ?_
      refine hq_iload_n (pm_d rk_X11_writeType 19 rfl) rfl 1 rfl ?_
      obtain ⟨hg, h⟩ := pm_gd_i h
      refine hq_iastore (pm_d rk_X11_writeType 20 rfl) rfl hg ?_
      refine pm_nm (G := fun t2 => hp_go sh_M me_X11_writeType (d + 2) none s1 35 [(0, .ref 0), (1, .int y1), (2, .int y2)] [] t2) h (fun t2 h => ?_)
      refine hq_aload_n (pm_d rk_X11_writeType 21 rfl) rfl 0 rfl ?_
      refine hq_iconst (v := (1 : Int32)) (pm_d rk_X11_writeType 22 rfl) (by decide) ?_
      refine hq_putI 40 (pm_d rk_X11_writeType 23 rfl) fl_X11_268 rfl rfl ?_
      refine pm_nm (G := fun t3 => hp_go sh_M me_X11_writeType (d + 2) none s1 40 [(0, .ref 0), (1, .int y1), (2, .int y2)] [] t3) h (fun t3 h => ?_)
      refine hq_drop [0] rfl ?_
      exact wl_M_X11_writeType_0_40 d _   _  _ h
    rw [if_neg hc] at h
    show hp_go _ _ _ _ _ 10 _ _ _
    refine hq_aload_n (pm_d rk_X11_writeType 6 rfl) rfl 0 rfl ?_
    refine hq_getR (h := 33) 47 (pm_d rk_X11_writeType 7 rfl) fl_X11_112 rfl rfl ?_
    refine hq_iload_n (pm_d rk_X11_writeType 8 rfl) rfl 2 rfl ?_
    refine hq_iconst (v := (-1 : Int32)) (pm_d rk_X11_writeType 9 rfl) (by decide) ?_
    obtain ⟨hg, h⟩ := pm_gd_i h
    refine hq_iastore (pm_d rk_X11_writeType 10 rfl) rfl hg ?_
    refine pm_nm (G := fun t26 => hp_go sh_M me_X11_writeType (d + 2) none s1 17 [(0, .ref 0), (1, .int y1), (2, .int y2)] [] t26) h (fun t26 h => ?_)
    refine hq_iinc (v := y2 + (1 : Int32)) (L1 := [(2, .int (y2 + (1 : Int32))), (0, .ref 0), (1, .int y1)]) (pm_d rk_X11_writeType 11 rfl) 2 rfl (by rw [show Int32.ofInt (1) = (1 : Int32) by decide]) (by decide) rfl ?_
    refine pm_nm (G := fun x27 => hp_go sh_M me_X11_writeType (d + 2) none s1 20 [(2, .int x27), (0, .ref 0), (1, .int y1)] [] t26) h (fun x27 h => ?_)
    show hp_go _ _ _ _ _ 20 _ _ _
    refine hq_goto 2 (pm_d rk_X11_writeType 12 rfl) (by decide) ?_
    refine hq_drop [1, 2, 0] rfl ?_
    exact ih _ _ _ h
def f_M_X11_writeType_0 (n : Nat) (a1 : Int32) (s : hp_S) : Option hp_S :=
  l_M_X11_writeType_0_2 n a1 (0 : Int32) s
set_option maxRecDepth 100000 in
set_option maxHeartbeats 400000 in
theorem w_M_X11_writeType_0 (d : Nat) (n : Nat) (a1 : Int32) (s s1 : hp_S) (h : f_M_X11_writeType_0 n a1 s = some s1) : hp_is sh_M me_X11_writeType (d + 2) [.ref 0, .int a1] s none s1 := by
  refine hp_ofF [(0, .ref 0), (1, .int a1)] (by decide +kernel) (Nat.le_of_ble_eq_true rfl) rfl ?_
  unfold f_M_X11_writeType_0 at h
  refine hq_iconst (v := (0 : Int32)) (pm_d rk_X11_writeType 0 rfl) (by decide) ?_
  refine hq_istore_n (L1 := [(2, .int (0 : Int32)), (0, .ref 0), (1, .int a1)]) (pm_d rk_X11_writeType 1 rfl) rfl (by decide) rfl ?_
  refine hq_drop [1, 2, 0] rfl ?_
  exact wl_M_X11_writeType_0_2 d _   _ _ _ _ h
def l_M_X11_judge_0_221 : Nat → Int32 → hp_S → Option (Int32 × hp_S)
  | 0, _, _ => none
  | n + 1, y3, s =>
    if (hs_I s 0 12) ≤ y3 then
      pm_let (hs_pI s 0 49 (1 : Int32)) (fun t20 =>
      pm_b1 (f_M_X11_writeSlice_0 n t20) (fun t21 =>
      some ((1 : Int32), t21)))
    else
      pm_gd1 (pm_ib y3 101) (
      pm_gd1 (pm_ib y3 101) (
      pm_let (hs_pA s 30 y3.toNatClampNeg (vp_nar .boolean (hs_A s 29 y3.toNatClampNeg))) (fun t22 =>
      pm_let (y3 + (1 : Int32)) (fun x23 =>
      l_M_X11_judge_0_221 n x23 t22))))
set_option maxRecDepth 100000 in
set_option maxHeartbeats 400000 in
theorem wl_M_X11_judge_0_221 (d : Nat) (s1 : hp_S) (x0 : Int32)  : ∀ (n : Nat) (y3 : Int32) (s : hp_S), l_M_X11_judge_0_221 n y3 s = some (x0, s1) → hp_go sh_M me_X11_judge (d + 7) (some (.int x0)) s1 221 [(0, .ref 0), (3, .int y3)] [] s := by
  intro n
  induction n with
  | zero =>
    intro y3 s h
    cases h
  | succ n ih =>
    intro y3 s h
    rw [l_M_X11_judge_0_221.eq_2] at h
    refine hq_iload_n (pm_d rk_X11_judge 127 rfl) rfl 1 rfl ?_
    show hp_go _ _ _ _ _ 222 _ _ _
    refine hq_aload_n (pm_d rk_X11_judge 128 rfl) rfl 0 rfl ?_
    refine hq_getI 12 (pm_d rk_X11_judge 129 rfl) fl_X11_196 rfl rfl ?_
    refine hq_icmp_ge 247 (pm_d rk_X11_judge 130 rfl) (by decide) (fun hc => ?_) (fun hc => ?_)
    · rw [if_pos hc] at h
      refine hq_aload_n (pm_d rk_X11_judge 141 rfl) rfl 0 rfl ?_
      refine hq_iconst (v := (1 : Int32)) (pm_d rk_X11_judge 142 rfl) (by decide) ?_
      refine hq_putZ 49 (pm_d rk_X11_judge 143 rfl) fl_X11_340 rfl rfl rfl rfl ?_
      refine pm_nm (G := fun t20 => hp_go sh_M me_X11_judge (d + 7) (some (.int x0)) s1 252 [(0, .ref 0), (3, .int y3)] [] t20) h (fun t20 h => ?_)
      show hp_go _ _ _ _ _ 252 _ _ _
      refine hq_aload_n (pm_d rk_X11_judge 144 rfl) rfl 0 rfl ?_
      obtain ⟨t21, hq, h⟩ := pm_b1_i h
      have hM := w_M_X11_writeSlice_0 (d := d + 4) (h := hq)
      refine hq_callVv (a := 0) (ci := 11) [] [] (pm_d rk_X11_judge 145 rfl) ml_X11_358 iv_X11_writeSlice rfl rfl rfl rfl rfl (Nat.le_of_ble_eq_true rfl) hM ?_
      refine hq_iconst (v := (1 : Int32)) (pm_d rk_X11_judge 146 rfl) (by decide) ?_
      exact hq_iret (pm_d rk_X11_judge 147 rfl) rfl h
    rw [if_neg hc] at h
    refine hq_aload_n (pm_d rk_X11_judge 131 rfl) rfl 0 rfl ?_
    refine hq_getR (h := 30) 43 (pm_d rk_X11_judge 132 rfl) fl_X11_103 rfl rfl ?_
    show hp_go _ _ _ _ _ 233 _ _ _
    refine hq_iload_n (pm_d rk_X11_judge 133 rfl) rfl 1 rfl ?_
    refine hq_aload_n (pm_d rk_X11_judge 134 rfl) rfl 0 rfl ?_
    refine hq_getR (h := 29) 42 (pm_d rk_X11_judge 135 rfl) fl_X11_99 rfl rfl ?_
    refine hq_iload_n (pm_d rk_X11_judge 136 rfl) rfl 1 rfl ?_
    obtain ⟨hg, h⟩ := pm_gd_i h
    refine hq_zaload (pm_d rk_X11_judge 137 rfl) rfl hg ?_
    obtain ⟨hg, h⟩ := pm_gd_i h
    refine hq_zastore (pm_d rk_X11_judge 138 rfl) rfl hg ?_
    refine pm_nm (G := fun t22 => hp_go sh_M me_X11_judge (d + 7) (some (.int x0)) s1 241 [(0, .ref 0), (3, .int y3)] [] t22) h (fun t22 h => ?_)
    show hp_go _ _ _ _ _ 241 _ _ _
    refine hq_iinc (v := y3 + (1 : Int32)) (L1 := [(3, .int (y3 + (1 : Int32))), (0, .ref 0)]) (pm_d rk_X11_judge 139 rfl) 1 rfl (by rw [show Int32.ofInt (1) = (1 : Int32) by decide]) (by decide) rfl ?_
    refine pm_nm (G := fun x23 => hp_go sh_M me_X11_judge (d + 7) (some (.int x0)) s1 244 [(3, .int x23), (0, .ref 0)] [] t22) h (fun x23 h => ?_)
    refine hq_goto 221 (pm_d rk_X11_judge 140 rfl) (by decide) ?_
    refine hq_drop [1, 0] rfl ?_
    exact ih _ _ h
def l_M_X11_judge_0_188 : Nat → Int32 → hp_S → Option (Int32 × hp_S)
  | 0, _, _ => none
  | n + 1, y3, s =>
    if (hs_I s 0 12) ≤ y3 then
      l_M_X11_judge_0_221 n (0 : Int32) s
    else
      pm_gd1 (pm_ib y3 101) (
      pm_let (hs_pA s 29 y3.toNatClampNeg (vp_nar .boolean (0 : Int32))) (fun t24 =>
      pm_bd (f_M_X11_isFine_0 n t24) (fun x26 t25 =>
      pm_gd1 (pm_ib y3 101) (
      pm_let (hs_pA t25 29 y3.toNatClampNeg (vp_nar .boolean x26)) (fun t27 =>
      pm_let (y3 + (1 : Int32)) (fun x28 =>
      l_M_X11_judge_0_188 n x28 t27))))))
set_option maxRecDepth 100000 in
set_option maxHeartbeats 400000 in
theorem wl_M_X11_judge_0_188 (d : Nat) (s1 : hp_S) (x0 : Int32)  : ∀ (n : Nat) (y3 : Int32) (s : hp_S), l_M_X11_judge_0_188 n y3 s = some (x0, s1) → hp_go sh_M me_X11_judge (d + 7) (some (.int x0)) s1 188 [(0, .ref 0), (3, .int y3)] [] s := by
  intro n
  induction n with
  | zero =>
    intro y3 s h
    cases h
  | succ n ih =>
    intro y3 s h
    rw [l_M_X11_judge_0_188.eq_2] at h
    refine hq_iload_n (pm_d rk_X11_judge 108 rfl) rfl 1 rfl ?_
    show hp_go _ _ _ _ _ 189 _ _ _
    refine hq_aload_n (pm_d rk_X11_judge 109 rfl) rfl 0 rfl ?_
    refine hq_getI 12 (pm_d rk_X11_judge 110 rfl) fl_X11_196 rfl rfl ?_
    refine hq_icmp_ge 219 (pm_d rk_X11_judge 111 rfl) (by decide) (fun hc => ?_) (fun hc => ?_)
    · rw [if_pos hc] at h
      refine hq_iconst (v := (0 : Int32)) (pm_d rk_X11_judge 125 rfl) (by decide) ?_
      refine hq_istore_n (L1 := [(3, .int (0 : Int32)), (0, .ref 0)]) (pm_d rk_X11_judge 126 rfl) rfl (by decide) rfl ?_
      refine hq_drop [1, 0] rfl ?_
      exact wl_M_X11_judge_0_221 d _ _   _ _ _ h
    rw [if_neg hc] at h
    refine hq_aload_n (pm_d rk_X11_judge 112 rfl) rfl 0 rfl ?_
    refine hq_getR (h := 29) 42 (pm_d rk_X11_judge 113 rfl) fl_X11_99 rfl rfl ?_
    refine hq_iload_n (pm_d rk_X11_judge 114 rfl) rfl 1 rfl ?_
    refine hq_iconst (v := (0 : Int32)) (pm_d rk_X11_judge 115 rfl) (by decide) ?_
    show hp_go _ _ _ _ _ 202 _ _ _
    obtain ⟨hg, h⟩ := pm_gd_i h
    refine hq_zastore (pm_d rk_X11_judge 116 rfl) rfl hg ?_
    refine pm_nm (G := fun t24 => hp_go sh_M me_X11_judge (d + 7) (some (.int x0)) s1 203 [(0, .ref 0), (3, .int y3)] [] t24) h (fun t24 h => ?_)
    refine hq_aload_n (pm_d rk_X11_judge 117 rfl) rfl 0 rfl ?_
    refine hq_getR (h := 29) 42 (pm_d rk_X11_judge 118 rfl) fl_X11_99 rfl rfl ?_
    refine hq_iload_n (pm_d rk_X11_judge 119 rfl) rfl 1 rfl ?_
    refine hq_aload_n (pm_d rk_X11_judge 120 rfl) rfl 0 rfl ?_
    obtain ⟨x26, t25, hq, h⟩ := pm_bd_i h
    have hM := w_M_X11_isFine_0 (d := d + 2) (h := hq)
    refine hq_callVi (a := 0) (ci := 11) [] [.int y3, .ref 29] (pm_d rk_X11_judge 121 rfl) ml_X11_352 iv_X11_isFine rfl rfl rfl rfl rfl (Nat.le_of_ble_eq_true rfl) hM ?_
    show hp_go _ _ _ _ _ 212 _ _ _
    obtain ⟨hg, h⟩ := pm_gd_i h
    refine hq_zastore (pm_d rk_X11_judge 122 rfl) rfl hg ?_
    refine pm_nm (G := fun t27 => hp_go sh_M me_X11_judge (d + 7) (some (.int x0)) s1 213 [(0, .ref 0), (3, .int y3)] [] t27) h (fun t27 h => ?_)
    refine hq_iinc (v := y3 + (1 : Int32)) (L1 := [(3, .int (y3 + (1 : Int32))), (0, .ref 0)]) (pm_d rk_X11_judge 123 rfl) 1 rfl (by rw [show Int32.ofInt (1) = (1 : Int32) by decide]) (by decide) rfl ?_
    refine pm_nm (G := fun x28 => hp_go sh_M me_X11_judge (d + 7) (some (.int x0)) s1 216 [(3, .int x28), (0, .ref 0)] [] t27) h (fun x28 h => ?_)
    refine hq_goto 188 (pm_d rk_X11_judge 124 rfl) (by decide) ?_
    refine hq_drop [1, 0] rfl ?_
    exact ih _ _ h
def l_M_X11_judge_0_146 : Nat → Int32 → Int32 → hp_S → Option (Int32 × hp_S)
  | 0, _, _, _ => none
  | n + 1, y1, y3, s =>
    if (hs_I s 0 12) ≤ y3 then
      pm_bd (f_M_X11_isFine_0 n s) (fun x19 t18 =>
      if x19 = 0 then
        l_M_X11_judge_0_188 n (0 : Int32) t18
      else
        pm_bd (f_M_X11_typeOf_0 n (0 : Int32) y1 t18) (fun x30 t29 =>
        pm_b1 (f_M_X11_writeType_0 n x30 t29) (fun t31 =>
        some ((2 : Int32), t31))))
    else
      pm_gd1 (pm_ib y3 101) (
      pm_let (hs_pA s 29 y3.toNatClampNeg (vp_nar .boolean (1 : Int32))) (fun t32 =>
      pm_let (y3 + (1 : Int32)) (fun x33 =>
      l_M_X11_judge_0_146 n y1 x33 t32)))
set_option maxRecDepth 100000 in
set_option maxHeartbeats 400000 in
theorem wl_M_X11_judge_0_146 (d : Nat) (s1 : hp_S) (x0 : Int32)  : ∀ (n : Nat) (y1 : Int32) (y3 : Int32) (s : hp_S), l_M_X11_judge_0_146 n y1 y3 s = some (x0, s1) → hp_go sh_M me_X11_judge (d + 7) (some (.int x0)) s1 146 [(0, .ref 0), (1, .int y1), (3, .int y3)] [] s := by
  intro n
  induction n with
  | zero =>
    intro y1 y3 s h
    cases h
  | succ n ih =>
    intro y1 y3 s h
    rw [l_M_X11_judge_0_146.eq_2] at h
    refine hq_iload_n (pm_d rk_X11_judge 84 rfl) rfl 2 rfl ?_
    refine hq_aload_n (pm_d rk_X11_judge 85 rfl) rfl 0 rfl ?_
    refine hq_getI 12 (pm_d rk_X11_judge 86 rfl) fl_X11_196 rfl rfl ?_
    refine hq_icmp_ge 167 (pm_d rk_X11_judge 87 rfl) (by decide) (fun hc => ?_) (fun hc => ?_)
    · rw [if_pos hc] at h
      show hp_go _ _ _ _ _ 167 _ _ _
      refine hq_aload_n (pm_d rk_X11_judge 95 rfl) rfl 0 rfl ?_
      obtain ⟨x19, t18, hq, h⟩ := pm_bd_i h
      have hM := w_M_X11_isFine_0 (d := d + 2) (h := hq)
      refine hq_callVi (a := 0) (ci := 11) [] [] (pm_d rk_X11_judge 96 rfl) ml_X11_352 iv_X11_isFine rfl rfl rfl rfl rfl (Nat.le_of_ble_eq_true rfl) hM ?_
      refine hq_if_eq 186 (pm_d rk_X11_judge 97 rfl) (by decide) (fun hc => ?_) (fun hc => ?_)
      · rw [if_pos hc] at h
        refine hq_iconst (v := (0 : Int32)) (pm_d rk_X11_judge 106 rfl) (by decide) ?_
        refine hq_istore_n (L1 := [(3, .int (0 : Int32)), (0, .ref 0), (1, .int y1)]) (pm_d rk_X11_judge 107 rfl) rfl (by decide) rfl ?_
        refine hq_drop [1, 0] rfl ?_
        exact wl_M_X11_judge_0_188 d _ _   _ _ _ h
      rw [if_neg hc] at h
      refine hq_aload_n (pm_d rk_X11_judge 98 rfl) rfl 0 rfl ?_
      refine hq_aload_n (pm_d rk_X11_judge 99 rfl) rfl 0 rfl ?_
      refine hq_iconst (v := (0 : Int32)) (pm_d rk_X11_judge 100 rfl) (by decide) ?_
      show hp_go _ _ _ _ _ 177 _ _ _
      refine hq_iload_n (pm_d rk_X11_judge 101 rfl) rfl 1 rfl ?_
      obtain ⟨x30, t29, hq, h⟩ := pm_bd_i h
      have hM := w_M_X11_typeOf_0 (d := d + 4) (h := hq)
      refine hq_callVi (a := 0) (ci := 11) [.int (0 : Int32), .int y1] [.ref 0] (pm_d rk_X11_judge 102 rfl) ml_X11_277 iv_X11_typeOf rfl rfl rfl rfl rfl (Nat.le_of_ble_eq_true rfl) hM ?_
      obtain ⟨t31, hq, h⟩ := pm_b1_i h
      have hM := w_M_X11_writeType_0 (d := d + 4) (h := hq)
      refine hq_callVv (a := 0) (ci := 11) [.int x30] [] (pm_d rk_X11_judge 103 rfl) ml_X11_355 iv_X11_writeType rfl rfl rfl rfl rfl (Nat.le_of_ble_eq_true rfl) hM ?_
      refine hq_iconst (v := (2 : Int32)) (pm_d rk_X11_judge 104 rfl) (by decide) ?_
      exact hq_iret (pm_d rk_X11_judge 105 rfl) rfl h
    rw [if_neg hc] at h
    refine hq_aload_n (pm_d rk_X11_judge 88 rfl) rfl 0 rfl ?_
    show hp_go _ _ _ _ _ 155 _ _ _
    refine hq_getR (h := 29) 42 (pm_d rk_X11_judge 89 rfl) fl_X11_99 rfl rfl ?_
    refine hq_iload_n (pm_d rk_X11_judge 90 rfl) rfl 2 rfl ?_
    refine hq_iconst (v := (1 : Int32)) (pm_d rk_X11_judge 91 rfl) (by decide) ?_
    obtain ⟨hg, h⟩ := pm_gd_i h
    refine hq_zastore (pm_d rk_X11_judge 92 rfl) rfl hg ?_
    refine pm_nm (G := fun t32 => hp_go sh_M me_X11_judge (d + 7) (some (.int x0)) s1 161 [(0, .ref 0), (1, .int y1), (3, .int y3)] [] t32) h (fun t32 h => ?_)
    refine hq_iinc (v := y3 + (1 : Int32)) (L1 := [(3, .int (y3 + (1 : Int32))), (0, .ref 0), (1, .int y1)]) (pm_d rk_X11_judge 93 rfl) 2 rfl (by rw [show Int32.ofInt (1) = (1 : Int32) by decide]) (by decide) rfl ?_
    refine pm_nm (G := fun x33 => hp_go sh_M me_X11_judge (d + 7) (some (.int x0)) s1 164 [(3, .int x33), (0, .ref 0), (1, .int y1)] [] t32) h (fun x33 h => ?_)
    refine hq_goto 146 (pm_d rk_X11_judge 94 rfl) (by decide) ?_
    refine hq_drop [1, 2, 0] rfl ?_
    exact ih _ _ _ h
def l_M_X11_judge_0_2 : Nat → Int32 → hp_S → Option (Int32 × hp_S)
  | 0, _, _ => none
  | n + 1, y1, s =>
    if (hs_I s 0 1) ≤ y1 then
      pm_let (hs_pI s 0 3 (hs_I s 0 1)) (fun t1 =>
      pm_let (hs_pI t1 0 1 (0 : Int32)) (fun t2 =>
      pm_let (hs_pI t2 0 5 (0 : Int32)) (fun t3 =>
      pm_let (hs_pI t3 0 4 (-1 : Int32)) (fun t4 =>
      pm_let (hs_pI t4 0 11 (0 : Int32)) (fun t5 =>
      pm_let (hs_pI t5 0 12 (0 : Int32)) (fun t6 =>
      pm_let (hs_pI t6 0 23 (0 : Int32)) (fun t7 =>
      pm_let (hs_pI t7 0 46 (0 : Int32)) (fun t8 =>
      pm_let (hs_pI t8 0 32 (0 : Int32)) (fun t9 =>
      pm_let (hs_pI t9 0 49 (0 : Int32)) (fun t10 =>
      pm_b1 (f_M_X11_look_0 n t10) (fun t11 =>
      pm_bd (f_M_X11_parse_0 n t11) (fun x13 t12 =>
      if (hs_I t12 0 50) = 0 then
        pm_bd (f_M_X11_settle_0 n t12) (fun x15 t14 =>
        if x15 < 0 then
          pm_bd (f_M_X11_expand_0 n t14) (fun x17 t16 =>
          if x17 = 0 then
            pm_let (hs_pI t16 0 32 (0 : Int32)) (fun t34 =>
            pm_let (hs_pI t34 0 4 (hs_I t34 0 3)) (fun t35 =>
            some ((-3 : Int32), t35)))
          else
            l_M_X11_judge_0_146 n x13 (0 : Int32) t16)
        else
          pm_let (hs_pI t14 0 4 x15) (fun t36 =>
          some ((-2 : Int32), t36)))
      else
        pm_let (hs_pI t12 0 12 (0 : Int32)) (fun t37 =>
        some ((-1 : Int32), t37))))))))))))))
    else
      pm_gd1 (pm_ib y1 500) (
      pm_gd1 (pm_ib y1 500) (
      pm_let (hs_pA s 2 y1.toNatClampNeg (vp_nar .byte (hs_A s 1 y1.toNatClampNeg))) (fun t38 =>
      pm_let (y1 + (1 : Int32)) (fun x39 =>
      l_M_X11_judge_0_2 n x39 t38))))
set_option maxRecDepth 100000 in
set_option maxHeartbeats 400000 in
theorem wl_M_X11_judge_0_2 (d : Nat) (s1 : hp_S) (x0 : Int32)  : ∀ (n : Nat) (y1 : Int32) (s : hp_S), l_M_X11_judge_0_2 n y1 s = some (x0, s1) → hp_go sh_M me_X11_judge (d + 7) (some (.int x0)) s1 2 [(0, .ref 0), (1, .int y1)] [] s := by
  intro n
  induction n with
  | zero =>
    intro y1 s h
    cases h
  | succ n ih =>
    intro y1 s h
    rw [l_M_X11_judge_0_2.eq_2] at h
    refine hq_iload_n (pm_d rk_X11_judge 2 rfl) rfl 1 rfl ?_
    refine hq_aload_n (pm_d rk_X11_judge 3 rfl) rfl 0 rfl ?_
    refine hq_getI 1 (pm_d rk_X11_judge 4 rfl) fl_X11_127 rfl rfl ?_
    show hp_go _ _ _ _ _ 7 _ _ _
    refine hq_icmp_ge 28 (pm_d rk_X11_judge 5 rfl) (by decide) (fun hc => ?_) (fun hc => ?_)
    · rw [if_pos hc] at h
      refine hq_aload_n (pm_d rk_X11_judge 16 rfl) rfl 0 rfl ?_
      refine hq_aload_n (pm_d rk_X11_judge 17 rfl) rfl 0 rfl ?_
      refine hq_getI 1 (pm_d rk_X11_judge 18 rfl) fl_X11_127 rfl rfl ?_
      refine hq_putI 3 (pm_d rk_X11_judge 19 rfl) fl_X11_133 rfl rfl ?_
      refine pm_nm (G := fun t1 => hp_go sh_M me_X11_judge (d + 7) (some (.int x0)) s1 36 [(0, .ref 0), (1, .int y1)] [] t1) h (fun t1 h => ?_)
      refine hq_aload_n (pm_d rk_X11_judge 20 rfl) rfl 0 rfl ?_
      show hp_go _ _ _ _ _ 37 _ _ _
      refine hq_iconst (v := (0 : Int32)) (pm_d rk_X11_judge 21 rfl) (by decide) ?_
      refine hq_putI 1 (pm_d rk_X11_judge 22 rfl) fl_X11_127 rfl rfl ?_
      refine pm_nm (G := fun t2 => hp_go sh_M me_X11_judge (d + 7) (some (.int x0)) s1 41 [(0, .ref 0), (1, .int y1)] [] t2) h (fun t2 h => ?_)
      refine hq_aload_n (pm_d rk_X11_judge 23 rfl) rfl 0 rfl ?_
      refine hq_iconst (v := (0 : Int32)) (pm_d rk_X11_judge 24 rfl) (by decide) ?_
      refine hq_putI 5 (pm_d rk_X11_judge 25 rfl) fl_X11_130 rfl rfl ?_
      refine pm_nm (G := fun t3 => hp_go sh_M me_X11_judge (d + 7) (some (.int x0)) s1 46 [(0, .ref 0), (1, .int y1)] [] t3) h (fun t3 h => ?_)
      refine hq_aload_n (pm_d rk_X11_judge 26 rfl) rfl 0 rfl ?_
      show hp_go _ _ _ _ _ 47 _ _ _
      refine hq_iconst (v := (-1 : Int32)) (pm_d rk_X11_judge 27 rfl) (by decide) ?_
      refine hq_putI 4 (pm_d rk_X11_judge 28 rfl) fl_X11_16 rfl rfl ?_
      refine pm_nm (G := fun t4 => hp_go sh_M me_X11_judge (d + 7) (some (.int x0)) s1 51 [(0, .ref 0), (1, .int y1)] [] t4) h (fun t4 h => ?_)
      refine hq_aload_n (pm_d rk_X11_judge 29 rfl) rfl 0 rfl ?_
      refine hq_iconst (v := (0 : Int32)) (pm_d rk_X11_judge 30 rfl) (by decide) ?_
      refine hq_putI 11 (pm_d rk_X11_judge 31 rfl) fl_X11_183 rfl rfl ?_
      refine pm_nm (G := fun t5 => hp_go sh_M me_X11_judge (d + 7) (some (.int x0)) s1 56 [(0, .ref 0), (1, .int y1)] [] t5) h (fun t5 h => ?_)
      refine hq_aload_n (pm_d rk_X11_judge 32 rfl) rfl 0 rfl ?_
      show hp_go _ _ _ _ _ 57 _ _ _
      refine hq_iconst (v := (0 : Int32)) (pm_d rk_X11_judge 33 rfl) (by decide) ?_
      refine hq_putI 12 (pm_d rk_X11_judge 34 rfl) fl_X11_196 rfl rfl ?_
      refine pm_nm (G := fun t6 => hp_go sh_M me_X11_judge (d + 7) (some (.int x0)) s1 61 [(0, .ref 0), (1, .int y1)] [] t6) h (fun t6 h => ?_)
      refine hq_aload_n (pm_d rk_X11_judge 35 rfl) rfl 0 rfl ?_
      refine hq_iconst (v := (0 : Int32)) (pm_d rk_X11_judge 36 rfl) (by decide) ?_
      refine hq_putI 23 (pm_d rk_X11_judge 37 rfl) fl_X11_199 rfl rfl ?_
      refine pm_nm (G := fun t7 => hp_go sh_M me_X11_judge (d + 7) (some (.int x0)) s1 66 [(0, .ref 0), (1, .int y1)] [] t7) h (fun t7 h => ?_)
      refine hq_aload_n (pm_d rk_X11_judge 38 rfl) rfl 0 rfl ?_
      show hp_go _ _ _ _ _ 67 _ _ _
      refine hq_iconst (v := (0 : Int32)) (pm_d rk_X11_judge 39 rfl) (by decide) ?_
      refine hq_putI 46 (pm_d rk_X11_judge 40 rfl) fl_X11_304 rfl rfl ?_
      refine pm_nm (G := fun t8 => hp_go sh_M me_X11_judge (d + 7) (some (.int x0)) s1 71 [(0, .ref 0), (1, .int y1)] [] t8) h (fun t8 h => ?_)
      refine hq_aload_n (pm_d rk_X11_judge 41 rfl) rfl 0 rfl ?_
      refine hq_iconst (v := (0 : Int32)) (pm_d rk_X11_judge 42 rfl) (by decide) ?_
      refine hq_putI 32 (pm_d rk_X11_judge 43 rfl) fl_X11_253 rfl rfl ?_
      refine pm_nm (G := fun t9 => hp_go sh_M me_X11_judge (d + 7) (some (.int x0)) s1 76 [(0, .ref 0), (1, .int y1)] [] t9) h (fun t9 h => ?_)
      refine hq_aload_n (pm_d rk_X11_judge 44 rfl) rfl 0 rfl ?_
      show hp_go _ _ _ _ _ 77 _ _ _
      refine hq_iconst (v := (0 : Int32)) (pm_d rk_X11_judge 45 rfl) (by decide) ?_
      refine hq_putZ 49 (pm_d rk_X11_judge 46 rfl) fl_X11_340 rfl rfl rfl rfl ?_
      refine pm_nm (G := fun t10 => hp_go sh_M me_X11_judge (d + 7) (some (.int x0)) s1 81 [(0, .ref 0), (1, .int y1)] [] t10) h (fun t10 h => ?_)
      refine hq_aload_n (pm_d rk_X11_judge 47 rfl) rfl 0 rfl ?_
      obtain ⟨t11, hq, h⟩ := pm_b1_i h
      have hM := w_M_X11_look_0 (d := d + 5) (h := hq)
      refine hq_callVv (a := 0) (ci := 11) [] [] (pm_d rk_X11_judge 48 rfl) ml_X11_186 iv_X11_look rfl rfl rfl rfl rfl (Nat.le_of_ble_eq_true rfl) hM ?_
      refine hq_aload_n (pm_d rk_X11_judge 49 rfl) rfl 0 rfl ?_
      obtain ⟨x13, t12, hq, h⟩ := pm_bd_i h
      have hM := w_M_X11_parse_0 (d := d + 0) (h := hq)
      refine hq_callVi (a := 0) (ci := 11) [] [] (pm_d rk_X11_judge 50 rfl) ml_X11_343 iv_X11_parse rfl rfl rfl rfl rfl (Nat.le_of_ble_eq_true rfl) hM ?_
      show hp_go _ _ _ _ _ 89 _ _ _
      refine hq_istore_n (L1 := [(1, .int x13), (0, .ref 0)]) (pm_d rk_X11_judge 51 rfl) rfl (by decide) rfl ?_
      refine hq_aload_n (pm_d rk_X11_judge 52 rfl) rfl 1 rfl ?_
      refine hq_getI 50 (pm_d rk_X11_judge 53 rfl) fl_X11_179 rfl rfl ?_
      refine hq_if_eq 104 (pm_d rk_X11_judge 54 rfl) (by decide) (fun hc => ?_) (fun hc => ?_)
      · rw [if_pos hc] at h
        refine hq_aload_n (pm_d rk_X11_judge 60 rfl) rfl 1 rfl ?_
        obtain ⟨x15, t14, hq, h⟩ := pm_bd_i h
        have hM := w_M_X11_settle_0 (d := d + 5) (h := hq)
        refine hq_callVi (a := 0) (ci := 11) [] [] (pm_d rk_X11_judge 61 rfl) ml_X11_346 iv_X11_settle rfl rfl rfl rfl rfl (Nat.le_of_ble_eq_true rfl) hM ?_
        show hp_go _ _ _ _ _ 108 _ _ _
        refine hq_istore_n (L1 := [(2, .int x15), (1, .int x13), (0, .ref 0)]) (pm_d rk_X11_judge 62 rfl) rfl (by decide) rfl ?_
        refine hq_iload_n (pm_d rk_X11_judge 63 rfl) rfl 0 rfl ?_
        refine hq_if_lt 121 (pm_d rk_X11_judge 64 rfl) (by decide) (fun hc => ?_) (fun hc => ?_)
        · rw [if_pos hc] at h
          refine hq_aload_n (pm_d rk_X11_judge 70 rfl) rfl 2 rfl ?_
          obtain ⟨x17, t16, hq, h⟩ := pm_bd_i h
          have hM := w_M_X11_expand_0 (d := d + 3) (h := hq)
          refine hq_callVi (a := 0) (ci := 11) [] [] (pm_d rk_X11_judge 71 rfl) ml_X11_349 iv_X11_expand rfl rfl rfl rfl rfl (Nat.le_of_ble_eq_true rfl) hM ?_
          refine hq_if_ne 144 (pm_d rk_X11_judge 72 rfl) (by decide) (fun hc => ?_) (fun hc => ?_)
          · rw [if_neg hc] at h
            show hp_go _ _ _ _ _ 144 _ _ _
            refine hq_iconst (v := (0 : Int32)) (pm_d rk_X11_judge 82 rfl) (by decide) ?_
            refine hq_istore_n (L1 := [(3, .int (0 : Int32)), (2, .int x15), (1, .int x13), (0, .ref 0)]) (pm_d rk_X11_judge 83 rfl) rfl (by decide) rfl ?_
            refine hq_drop [3, 2, 0] rfl ?_
            exact wl_M_X11_judge_0_146 d _ _   _ _ _ _ h
          rw [if_pos hc] at h
          show hp_go _ _ _ _ _ 128 _ _ _
          refine hq_aload_n (pm_d rk_X11_judge 73 rfl) rfl 2 rfl ?_
          refine hq_iconst (v := (0 : Int32)) (pm_d rk_X11_judge 74 rfl) (by decide) ?_
          refine hq_putI 32 (pm_d rk_X11_judge 75 rfl) fl_X11_253 rfl rfl ?_
          refine pm_nm (G := fun t34 => hp_go sh_M me_X11_judge (d + 7) (some (.int x0)) s1 133 [(2, .int x15), (1, .int x13), (0, .ref 0)] [] t34) h (fun t34 h => ?_)
          refine hq_aload_n (pm_d rk_X11_judge 76 rfl) rfl 2 rfl ?_
          refine hq_aload_n (pm_d rk_X11_judge 77 rfl) rfl 2 rfl ?_
          refine hq_getI 3 (pm_d rk_X11_judge 78 rfl) fl_X11_133 rfl rfl ?_
          show hp_go _ _ _ _ _ 138 _ _ _
          refine hq_putI 4 (pm_d rk_X11_judge 79 rfl) fl_X11_16 rfl rfl ?_
          refine pm_nm (G := fun t35 => hp_go sh_M me_X11_judge (d + 7) (some (.int x0)) s1 141 [(2, .int x15), (1, .int x13), (0, .ref 0)] [] t35) h (fun t35 h => ?_)
          refine hq_bipush (v := (-3 : Int32)) (pm_d rk_X11_judge 80 rfl) (by decide) ?_
          exact hq_iret (pm_d rk_X11_judge 81 rfl) rfl h
        rw [if_neg hc] at h
        refine hq_aload_n (pm_d rk_X11_judge 65 rfl) rfl 2 rfl ?_
        refine hq_iload_n (pm_d rk_X11_judge 66 rfl) rfl 0 rfl ?_
        refine hq_putI 4 (pm_d rk_X11_judge 67 rfl) fl_X11_16 rfl rfl ?_
        refine pm_nm (G := fun t36 => hp_go sh_M me_X11_judge (d + 7) (some (.int x0)) s1 118 [(2, .int x15), (1, .int x13), (0, .ref 0)] [] t36) h (fun t36 h => ?_)
        show hp_go _ _ _ _ _ 118 _ _ _
        refine hq_bipush (v := (-2 : Int32)) (pm_d rk_X11_judge 68 rfl) (by decide) ?_
        exact hq_iret (pm_d rk_X11_judge 69 rfl) rfl h
      rw [if_neg hc] at h
      refine hq_aload_n (pm_d rk_X11_judge 55 rfl) rfl 1 rfl ?_
      refine hq_iconst (v := (0 : Int32)) (pm_d rk_X11_judge 56 rfl) (by decide) ?_
      refine hq_putI 12 (pm_d rk_X11_judge 57 rfl) fl_X11_196 rfl rfl ?_
      refine pm_nm (G := fun t37 => hp_go sh_M me_X11_judge (d + 7) (some (.int x0)) s1 102 [(1, .int x13), (0, .ref 0)] [] t37) h (fun t37 h => ?_)
      refine hq_iconst (v := (-1 : Int32)) (pm_d rk_X11_judge 58 rfl) (by decide) ?_
      show hp_go _ _ _ _ _ 103 _ _ _
      exact hq_iret (pm_d rk_X11_judge 59 rfl) rfl h
    rw [if_neg hc] at h
    refine hq_aload_n (pm_d rk_X11_judge 6 rfl) rfl 0 rfl ?_
    refine hq_getR (h := 2) 2 (pm_d rk_X11_judge 7 rfl) fl_X11_13 rfl rfl ?_
    refine hq_iload_n (pm_d rk_X11_judge 8 rfl) rfl 1 rfl ?_
    refine hq_aload_n (pm_d rk_X11_judge 9 rfl) rfl 0 rfl ?_
    refine hq_getR (h := 1) 0 (pm_d rk_X11_judge 10 rfl) fl_X11_7 rfl rfl ?_
    show hp_go _ _ _ _ _ 19 _ _ _
    refine hq_iload_n (pm_d rk_X11_judge 11 rfl) rfl 1 rfl ?_
    obtain ⟨hg, h⟩ := pm_gd_i h
    refine hq_baload (pm_d rk_X11_judge 12 rfl) rfl hg ?_
    obtain ⟨hg, h⟩ := pm_gd_i h
    refine hq_bastore (pm_d rk_X11_judge 13 rfl) rfl hg ?_
    refine pm_nm (G := fun t38 => hp_go sh_M me_X11_judge (d + 7) (some (.int x0)) s1 22 [(0, .ref 0), (1, .int y1)] [] t38) h (fun t38 h => ?_)
    refine hq_iinc (v := y1 + (1 : Int32)) (L1 := [(1, .int (y1 + (1 : Int32))), (0, .ref 0)]) (pm_d rk_X11_judge 14 rfl) 1 rfl (by rw [show Int32.ofInt (1) = (1 : Int32) by decide]) (by decide) rfl ?_
    refine pm_nm (G := fun x39 => hp_go sh_M me_X11_judge (d + 7) (some (.int x0)) s1 25 [(1, .int x39), (0, .ref 0)] [] t38) h (fun x39 h => ?_)
    refine hq_goto 2 (pm_d rk_X11_judge 15 rfl) (by decide) ?_
    refine hq_drop [1, 0] rfl ?_
    exact ih _ _ h
def f_M_X11_judge_0 (n : Nat) (s : hp_S) : Option (Int32 × hp_S) :=
  l_M_X11_judge_0_2 n (0 : Int32) s
set_option maxRecDepth 100000 in
set_option maxHeartbeats 400000 in
theorem w_M_X11_judge_0 (d : Nat) (n : Nat) (s s1 : hp_S) (x0 : Int32) (h : f_M_X11_judge_0 n s = some (x0, s1)) : hp_is sh_M me_X11_judge (d + 7) [.ref 0] s (some (.int x0)) s1 := by
  refine hp_ofF [(0, .ref 0)] (by decide +kernel) (Nat.le_of_ble_eq_true rfl) rfl ?_
  unfold f_M_X11_judge_0 at h
  refine hq_iconst (v := (0 : Int32)) (pm_d rk_X11_judge 0 rfl) (by decide) ?_
  refine hq_istore_n (L1 := [(1, .int (0 : Int32)), (0, .ref 0)]) (pm_d rk_X11_judge 1 rfl) rfl (by decide) rfl ?_
  refine hq_drop [1, 0] rfl ?_
  exact wl_M_X11_judge_0_2 d _ _   _ _ _ h
