/-! the reference at the end of a level -/
theorem M_ended7 {F d : Nat} {m : hp_S} {v : Int32} (h23 : hs_I m 0 23 = nI (d + 1)) (hd : d < 22) (h34 : hs_A m 34 d = nI 7) (h35 : hs_A m 35 d = v) : f_M_X11_ended_0 F m = f_M_X11_group_0 F v (hs_pI m 0 23 (nI d)) := by
  unfold f_M_X11_ended_0
  simp (disch := omega) only [↓reduceIte, z_lit, z_m1, z_gd, z_le, z_lt, z_eq, z_em, z_me, z_ml, z_mle, z_lm, z_lem, z_pos, z_sub, nI_add, nI_clamp, ib_nI, pm_let, pm_bd, pm_b1, if_true, if_false, ite_true, ite_false, Nat.not_lt_zero, Nat.zero_le, hs_I_pI, hs_I_pA, hs_A_pI, hs_A_pA, and_true, true_and, and_false, false_and, and_self, eq_self, Nat.reduceEqDiff, ↓reduceIte, h23, h34, h35, Nat.add_sub_cancel]
  cases f_M_X11_group_0 F v (hs_pI m 0 23 (nI d)) <;> simp
theorem M_ended89 {F d j w : Nat} {m m2 : hp_S} {y : Int32} (h23 : hs_I m 0 23 = nI (d + 1)) (hd : d < 22) (h34 : hs_A m 34 d = nI w) (hw : w = 8 ∨ w = 9) (h35 : hs_A m 35 d = nI j) (hj : j < 101) (ht : f_M_X11_take_0 F (nI 17) (nI j) (hs_pA (hs_pI m 0 23 (nI d)) 8 j (hs_I m 0 56)) = some (y, m2)) : f_M_X11_ended_0 F m = some (hs_pI (hs_pI m2 0 56 (nI j)) 0 55 (nI 2)) := by
  unfold f_M_X11_ended_0
  rcases hw with rfl | rfl
  · simp (disch := omega) only [↓reduceIte, z_lit, z_m1, z_gd, z_le, z_lt, z_eq, z_em, z_me, z_ml, z_mle, z_lm, z_lem, z_pos, z_sub, nI_add, nI_clamp, ib_nI, pm_let, pm_bd, pm_b1, if_true, if_false, ite_true, ite_false, Nat.not_lt_zero, Nat.zero_le, hs_I_pI, hs_I_pA, hs_A_pI, hs_A_pA, and_true, true_and, and_false, false_and, and_self, eq_self, Nat.reduceEqDiff, ↓reduceIte, h23, h34, h35, ht, Nat.add_sub_cancel]
    all_goals simp
  · simp (disch := omega) only [↓reduceIte, z_lit, z_m1, z_gd, z_le, z_lt, z_eq, z_em, z_me, z_ml, z_mle, z_lm, z_lem, z_pos, z_sub, nI_add, nI_clamp, ib_nI, pm_let, pm_bd, pm_b1, if_true, if_false, ite_true, ite_false, Nat.not_lt_zero, Nat.zero_le, hs_I_pI, hs_I_pA, hs_A_pI, hs_A_pA, and_true, true_and, and_false, false_and, and_self, eq_self, Nat.reduceEqDiff, ↓reduceIte, h23, h34, h35, ht, Nat.add_sub_cancel]
    all_goals simp
theorem M_ended1 {F d j : Nat} {m : hp_S} (h23 : hs_I m 0 23 = nI (d + 1)) (hd : d < 22) (h34 : hs_A m 34 d = nI 1) (h35 : hs_A m 35 d = nI j) (hj : j < 101) : f_M_X11_ended_0 F m = some (hs_pI (hs_pA (hs_pA (hs_pI m 0 23 (nI d)) 7 j (hs_I m 0 56)) 13 j (hs_I m 0 11)) 0 56 (nI j)) := by
  unfold f_M_X11_ended_0
  simp (disch := omega) only [↓reduceIte, z_lit, z_m1, z_gd, z_le, z_lt, z_eq, z_em, z_me, z_ml, z_mle, z_lm, z_lem, z_pos, z_sub, nI_add, nI_clamp, ib_nI, pm_let, pm_bd, pm_b1, if_true, if_false, ite_true, ite_false, Nat.not_lt_zero, Nat.zero_le, hs_I_pI, hs_I_pA, hs_A_pI, hs_A_pA, and_true, true_and, and_false, false_and, and_self, eq_self, Nat.reduceEqDiff, ↓reduceIte, h23, h34, h35, Nat.add_sub_cancel]
  all_goals simp
theorem M_ended2 {F d j : Nat} {m m2 m4 : hp_S} {y : Int32} (h23 : hs_I m 0 23 = nI (d + 1)) (hd : d < 22) (h34 : hs_A m 34 d = nI 2) (h35 : hs_A m 35 d = nI j) (hj : j < 101) (ht : f_M_X11_take_0 F (nI 5) (nI j) (hs_pA (hs_pA (hs_pI m 0 23 (nI d)) 7 j (hs_I m 0 56)) 15 j (hs_I m 0 11)) = some (y, m2)) (he : f_M_X11_enter_0 (nI 3) (nI j) (hs_pA m2 12 j (hs_I m2 0 11)) = some m4) : f_M_X11_ended_0 F m = some m4 := by
  unfold f_M_X11_ended_0
  simp (disch := omega) only [↓reduceIte, z_lit, z_m1, z_gd, z_le, z_lt, z_eq, z_em, z_me, z_ml, z_mle, z_lm, z_lem, z_pos, z_sub, nI_add, nI_clamp, ib_nI, pm_let, pm_bd, pm_b1, if_true, if_false, ite_true, ite_false, Nat.not_lt_zero, Nat.zero_le, hs_I_pI, hs_I_pA, hs_A_pI, hs_A_pA, and_true, true_and, and_false, false_and, and_self, eq_self, Nat.reduceEqDiff, ↓reduceIte, h23, h34, h35, ht, he, Nat.add_sub_cancel]
  all_goals simp
theorem M_ended3 {F d j : Nat} {m : hp_S} (h23 : hs_I m 0 23 = nI (d + 1)) (hd : d < 22) (h34 : hs_A m 34 d = nI 3) (h35 : hs_A m 35 d = nI j) (hj : j < 101) : f_M_X11_ended_0 F m = some (hs_pI (hs_pA (hs_pA (hs_pI m 0 23 (nI d)) 8 j (hs_I m 0 56)) 13 j (hs_I m 0 11)) 0 56 (nI j)) := by
  unfold f_M_X11_ended_0
  simp (disch := omega) only [↓reduceIte, z_lit, z_m1, z_gd, z_le, z_lt, z_eq, z_em, z_me, z_ml, z_mle, z_lm, z_lem, z_pos, z_sub, nI_add, nI_clamp, ib_nI, pm_let, pm_bd, pm_b1, if_true, if_false, ite_true, ite_false, Nat.not_lt_zero, Nat.zero_le, hs_I_pI, hs_I_pA, hs_A_pI, hs_A_pA, and_true, true_and, and_false, false_and, and_self, eq_self, Nat.reduceEqDiff, ↓reduceIte, h23, h34, h35, Nat.add_sub_cancel]
  all_goals simp
theorem M_ended4 {F d j : Nat} {m m2 m4 : hp_S} {y : Int32} (h23 : hs_I m 0 23 = nI (d + 1)) (hd : d < 22) (h34 : hs_A m 34 d = nI 4) (h35 : hs_A m 35 d = nI j) (hj : j < 101) (ht : f_M_X11_take_0 F (nI 7) (nI j) (hs_pA (hs_pI m 0 23 (nI d)) 7 j (hs_I m 0 56)) = some (y, m2)) (he : f_M_X11_enter_0 (nI 5) (nI j) m2 = some m4) : f_M_X11_ended_0 F m = some m4 := by
  unfold f_M_X11_ended_0
  simp (disch := omega) only [↓reduceIte, z_lit, z_m1, z_gd, z_le, z_lt, z_eq, z_em, z_me, z_ml, z_mle, z_lm, z_lem, z_pos, z_sub, nI_add, nI_clamp, ib_nI, pm_let, pm_bd, pm_b1, if_true, if_false, ite_true, ite_false, Nat.not_lt_zero, Nat.zero_le, hs_I_pI, hs_I_pA, hs_A_pI, hs_A_pA, and_true, true_and, and_false, false_and, and_self, eq_self, Nat.reduceEqDiff, ↓reduceIte, h23, h34, h35, ht, he, Nat.add_sub_cancel]
  all_goals simp
theorem M_ended5 {F d j : Nat} {m m2 m4 : hp_S} {y : Int32} (h23 : hs_I m 0 23 = nI (d + 1)) (hd : d < 22) (h34 : hs_A m 34 d = nI 5) (h35 : hs_A m 35 d = nI j) (hj : j < 101) (ht : f_M_X11_take_0 F (nI 8) (nI j) (hs_pA (hs_pI m 0 23 (nI d)) 8 j (hs_I m 0 56)) = some (y, m2)) (he : f_M_X11_enter_0 (nI 6) (nI j) m2 = some m4) : f_M_X11_ended_0 F m = some m4 := by
  unfold f_M_X11_ended_0
  simp (disch := omega) only [↓reduceIte, z_lit, z_m1, z_gd, z_le, z_lt, z_eq, z_em, z_me, z_ml, z_mle, z_lm, z_lem, z_pos, z_sub, nI_add, nI_clamp, ib_nI, pm_let, pm_bd, pm_b1, if_true, if_false, ite_true, ite_false, Nat.not_lt_zero, Nat.zero_le, hs_I_pI, hs_I_pA, hs_A_pI, hs_A_pA, and_true, true_and, and_false, false_and, and_self, eq_self, Nat.reduceEqDiff, ↓reduceIte, h23, h34, h35, ht, he, Nat.add_sub_cancel]
  all_goals simp
theorem M_ended6 {F d j : Nat} {m : hp_S} (h23 : hs_I m 0 23 = nI (d + 1)) (hd : d < 22) (h34 : hs_A m 34 d = nI 6) (h35 : hs_A m 35 d = nI j) (hj : j < 101) : f_M_X11_ended_0 F m = some (hs_pI (hs_pA (hs_pI m 0 23 (nI d)) 9 j (hs_I m 0 56)) 0 56 (nI j)) := by
  unfold f_M_X11_ended_0
  simp (disch := omega) only [↓reduceIte, z_lit, z_m1, z_gd, z_le, z_lt, z_eq, z_em, z_me, z_ml, z_mle, z_lm, z_lem, z_pos, z_sub, nI_add, nI_clamp, ib_nI, pm_let, pm_bd, pm_b1, if_true, if_false, ite_true, ite_false, Nat.not_lt_zero, Nat.zero_le, hs_I_pI, hs_I_pA, hs_A_pI, hs_A_pA, and_true, true_and, and_false, false_and, and_self, eq_self, Nat.reduceEqDiff, ↓reduceIte, h23, h34, h35, Nat.add_sub_cancel]
  all_goals simp
/-- a bracket that is no pair's -/
theorem M_group1 {F c : Nat} {m m2 : hp_S} {v y : Int32} (h6 : hs_I m 0 6 = nI c) (hc : c ≠ 18) (hc2 : c < 100) (ht : f_M_X11_take_0 F (nI 17) nM m = some (y, m2)) : f_M_X11_group_0 F v m = some (hs_pI m2 0 55 (nI 2)) := by
  unfold f_M_X11_group_0
  simp (disch := omega) only [↓reduceIte, z_lit, z_m1, z_gd, z_le, z_lt, z_eq, z_em, z_me, z_ml, z_mle, z_lm, z_lem, z_pos, z_sub, nI_add, nI_clamp, ib_nI, pm_let, pm_bd, pm_b1, if_true, if_false, ite_true, ite_false, Nat.not_lt_zero, Nat.zero_le, hs_I_pI, hs_I_pA, hs_A_pI, hs_A_pA, and_true, true_and, and_false, false_and, and_self, eq_self, Nat.reduceEqDiff, ↓reduceIte, h6, hc, ht]
  all_goals simp
/-- a pair's -/
theorem M_group2 {F o q : Nat} {m m2 m3 : hp_S} {y : Int32} (h6 : hs_I m 0 6 = nI 18) (hb : hs_I m 0 50 = nI 0) (h12 : hs_I m 0 12 = nI q) (hq : q < 100) (ho : o < 501) (hp : f_M_X11_pass_0 F (nI q) (hs_pA (hs_pA (mM m q (nI 31)) 10 q (nI o)) 5 o (nI q)) = some (y, m2)) (he : f_M_X11_enter_0 (nI 8) (nI q) (hs_pA m2 7 q (hs_I m2 0 56)) = some m3) : f_M_X11_group_0 F (nI o) m = some m3 := by
  have g : hs_I (mM m q (nI 31)) 0 50 = nI 0 := by simp only [mM, hs_I_pI, hs_I_pA, hs_A_pI, hs_A_pA, and_true, true_and, and_false, false_and, and_self, eq_self, Nat.reduceEqDiff, ↓reduceIte]; exact hb
  unfold f_M_X11_group_0
  simp (disch := omega) only [↓reduceIte, z_lit, z_m1, z_gd, z_le, z_lt, z_eq, z_em, z_me, z_ml, z_mle, z_lm, z_lem, z_pos, z_sub, nI_add, nI_clamp, ib_nI, pm_let, pm_bd, pm_b1, if_true, if_false, ite_true, ite_false, Nat.not_lt_zero, Nat.zero_le, hs_I_pI, hs_I_pA, hs_A_pI, hs_A_pA, and_true, true_and, and_false, false_and, and_self, eq_self, Nat.reduceEqDiff, ↓reduceIte, h6, M_make h12 hq, g, hp, he]
theorem M_group20 {F q : Nat} {m : hp_S} {v : Int32} (h6 : hs_I m 0 6 = nI 18) (hb : hs_I m 0 50 = nI 0) (h12 : hs_I m 0 12 = nI q) (hq : 100 ≤ q) (hq2 : q < 200) : f_M_X11_group_0 F v m = some (mB m) := by
  unfold f_M_X11_group_0
  simp (disch := omega) only [↓reduceIte, z_lit, z_m1, z_gd, z_le, z_lt, z_eq, z_em, z_me, z_ml, z_mle, z_lm, z_lem, z_pos, z_sub, nI_add, nI_clamp, ib_nI, pm_let, pm_bd, pm_b1, if_true, if_false, ite_true, ite_false, Nat.not_lt_zero, Nat.zero_le, hs_I_pI, hs_I_pA, hs_A_pI, hs_A_pA, and_true, true_and, and_false, false_and, and_self, eq_self, Nat.reduceEqDiff, ↓reduceIte, h6, M_make0 h12 hq hq2 hb, mB]
  all_goals simp
/-- begins -/
theorem M_begins0 {F c : Nat} {m : hp_S} (h6 : hs_I m 0 6 = nI c) (hc : c ≠ 3 ∧ c ≠ 4 ∧ c ≠ 6) (hc2 : c < 100) : f_M_X11_begins_0 F m = some (hs_pI m 0 55 (nI 1)) := by
  unfold f_M_X11_begins_0
  simp (disch := omega) only [↓reduceIte, z_lit, z_m1, z_gd, z_le, z_lt, z_eq, z_em, z_me, z_ml, z_mle, z_lm, z_lem, z_pos, z_sub, nI_add, nI_clamp, ib_nI, pm_let, pm_bd, pm_b1, if_true, if_false, ite_true, ite_false, Nat.not_lt_zero, Nat.zero_le, hs_I_pI, hs_I_pA, hs_A_pI, hs_A_pA, and_true, true_and, and_false, false_and, and_self, eq_self, Nat.reduceEqDiff, ↓reduceIte, h6, hc.1, hc.2.1, hc.2.2]
theorem M_beginsB {F c q : Nat} {m : hp_S} (h6 : hs_I m 0 6 = nI c) (hc : c = 3 ∨ c = 4 ∨ c = 6) (hb : hs_I m 0 50 = nI 0) (h12 : hs_I m 0 12 = nI q) (hq : 100 ≤ q) (hq2 : q < 200) : f_M_X11_begins_0 F m = some (mB m) := by
  unfold f_M_X11_begins_0
  rcases hc with rfl | rfl | rfl
  · simp (disch := omega) only [↓reduceIte, z_lit, z_m1, z_gd, z_le, z_lt, z_eq, z_em, z_me, z_ml, z_mle, z_lm, z_lem, z_pos, z_sub, nI_add, nI_clamp, ib_nI, pm_let, pm_bd, pm_b1, if_true, if_false, ite_true, ite_false, Nat.not_lt_zero, Nat.zero_le, hs_I_pI, hs_I_pA, hs_A_pI, hs_A_pA, and_true, true_and, and_false, false_and, and_self, eq_self, Nat.reduceEqDiff, ↓reduceIte, h6, M_make0 h12 hq hq2 hb, mB]
    all_goals simp
  · simp (disch := omega) only [↓reduceIte, z_lit, z_m1, z_gd, z_le, z_lt, z_eq, z_em, z_me, z_ml, z_mle, z_lm, z_lem, z_pos, z_sub, nI_add, nI_clamp, ib_nI, pm_let, pm_bd, pm_b1, if_true, if_false, ite_true, ite_false, Nat.not_lt_zero, Nat.zero_le, hs_I_pI, hs_I_pA, hs_A_pI, hs_A_pA, and_true, true_and, and_false, false_and, and_self, eq_self, Nat.reduceEqDiff, ↓reduceIte, h6, M_make0 h12 hq hq2 hb, mB]
    all_goals simp
  · simp (disch := omega) only [↓reduceIte, z_lit, z_m1, z_gd, z_le, z_lt, z_eq, z_em, z_me, z_ml, z_mle, z_lm, z_lem, z_pos, z_sub, nI_add, nI_clamp, ib_nI, pm_let, pm_bd, pm_b1, if_true, if_false, ite_true, ite_false, Nat.not_lt_zero, Nat.zero_le, hs_I_pI, hs_I_pA, hs_A_pI, hs_A_pA, and_true, true_and, and_false, false_and, and_self, eq_self, Nat.reduceEqDiff, ↓reduceIte, h6, M_make0 h12 hq hq2 hb, mB]
    all_goals simp
theorem M_begins6 {F p q : Nat} {m m2 m3 : hp_S} (h6 : hs_I m 0 6 = nI 6) (hb : hs_I m 0 50 = nI 0) (h12 : hs_I m 0 12 = nI q) (hq : q < 100) (hp : f_M_X11_pass_0 F (nI q) (mM m q (nI 6)) = some (nI p, m2)) (he : f_M_X11_enter_0 (nI 4) (nI q) (hs_pA m2 10 q (nI p)) = some m3) : f_M_X11_begins_0 F m = some m3 := by
  have g : hs_I (mM m q (nI 6)) 0 50 = nI 0 := by simp only [mM, hs_I_pI, hs_I_pA, hs_A_pI, hs_A_pA, and_true, true_and, and_false, false_and, and_self, eq_self, Nat.reduceEqDiff, ↓reduceIte]; exact hb
  unfold f_M_X11_begins_0
  simp (disch := omega) only [↓reduceIte, z_lit, z_m1, z_gd, z_le, z_lt, z_eq, z_em, z_me, z_ml, z_mle, z_lm, z_lem, z_pos, z_sub, nI_add, nI_clamp, ib_nI, pm_let, pm_bd, pm_b1, if_true, if_false, ite_true, ite_false, Nat.not_lt_zero, Nat.zero_le, hs_I_pI, hs_I_pA, hs_A_pI, hs_A_pA, and_true, true_and, and_false, false_and, and_self, eq_self, Nat.reduceEqDiff, ↓reduceIte, h6, M_make h12 hq, g, hp, he]
/-- a fn or let whose name is none -/
theorem M_begins34a {F c p q : Nat} {m m2 m3 : hp_S} {y : Int32} (h6 : hs_I m 0 6 = nI c) (hc : c = 3 ∨ c = 4) (hb : hs_I m 0 50 = nI 0) (h12 : hs_I m 0 12 = nI q) (hq : q < 100) (hp : f_M_X11_pass_0 F (nI q) (mM m q (nI c)) = some (nI p, m2)) (ht : f_M_X11_take_0 F (nI 1) (nI q) (hs_pA m2 10 q (nI p)) = some (y, m3)) (h3 : hs_I m3 0 50 = nI 1) : f_M_X11_begins_0 F m = some (hs_pA m3 11 q y) := by
  have g : hs_I (mM m q (nI c)) 0 50 = nI 0 := by simp only [mM, hs_I_pI, hs_I_pA, hs_A_pI, hs_A_pA, and_true, true_and, and_false, false_and, and_self, eq_self, Nat.reduceEqDiff, ↓reduceIte]; exact hb
  unfold f_M_X11_begins_0
  rcases hc with rfl | rfl
  · simp (disch := omega) only [↓reduceIte, z_lit, z_m1, z_gd, z_le, z_lt, z_eq, z_em, z_me, z_ml, z_mle, z_lm, z_lem, z_pos, z_sub, nI_add, nI_clamp, ib_nI, pm_let, pm_bd, pm_b1, if_true, if_false, ite_true, ite_false, Nat.not_lt_zero, Nat.zero_le, hs_I_pI, hs_I_pA, hs_A_pI, hs_A_pA, and_true, true_and, and_false, false_and, and_self, eq_self, Nat.reduceEqDiff, ↓reduceIte, h6, M_make h12 hq, g, hp, ht, h3]
    all_goals simp
  · simp (disch := omega) only [↓reduceIte, z_lit, z_m1, z_gd, z_le, z_lt, z_eq, z_em, z_me, z_ml, z_mle, z_lm, z_lem, z_pos, z_sub, nI_add, nI_clamp, ib_nI, pm_let, pm_bd, pm_b1, if_true, if_false, ite_true, ite_false, Nat.not_lt_zero, Nat.zero_le, hs_I_pI, hs_I_pA, hs_A_pI, hs_A_pA, and_true, true_and, and_false, false_and, and_self, eq_self, Nat.reduceEqDiff, ↓reduceIte, h6, M_make h12 hq, g, hp, ht, h3]
    all_goals simp
theorem M_begins3b {F p q : Nat} {m m2 m3 m4 : hp_S} {y y4 : Int32} (h6 : hs_I m 0 6 = nI 3) (hb : hs_I m 0 50 = nI 0) (h12 : hs_I m 0 12 = nI q) (hq : q < 100) (hp : f_M_X11_pass_0 F (nI q) (mM m q (nI 3)) = some (nI p, m2)) (ht : f_M_X11_take_0 F (nI 1) (nI q) (hs_pA m2 10 q (nI p)) = some (y, m3)) (h3 : hs_I m3 0 50 = nI 0) (ht4 : f_M_X11_take_0 F (nI 14) (nI q) (hs_pA m3 11 q y) = some (y4, m4)) (h4 : hs_I m4 0 50 = nI 1) : f_M_X11_begins_0 F m = some m4 := by
  have g : hs_I (mM m q (nI 3)) 0 50 = nI 0 := by simp only [mM, hs_I_pI, hs_I_pA, hs_A_pI, hs_A_pA, and_true, true_and, and_false, false_and, and_self, eq_self, Nat.reduceEqDiff, ↓reduceIte]; exact hb
  unfold f_M_X11_begins_0
  simp (disch := omega) only [↓reduceIte, z_lit, z_m1, z_gd, z_le, z_lt, z_eq, z_em, z_me, z_ml, z_mle, z_lm, z_lem, z_pos, z_sub, nI_add, nI_clamp, ib_nI, pm_let, pm_bd, pm_b1, if_true, if_false, ite_true, ite_false, Nat.not_lt_zero, Nat.zero_le, hs_I_pI, hs_I_pA, hs_A_pI, hs_A_pA, and_true, true_and, and_false, false_and, and_self, eq_self, Nat.reduceEqDiff, ↓reduceIte, h6, M_make h12 hq, g, hp, ht, h3, ht4, h4]
  all_goals simp
theorem M_begins3c {F p q : Nat} {m m2 m3 m4 m5 : hp_S} {y y4 : Int32} (h6 : hs_I m 0 6 = nI 3) (hb : hs_I m 0 50 = nI 0) (h12 : hs_I m 0 12 = nI q) (hq : q < 100) (hp : f_M_X11_pass_0 F (nI q) (mM m q (nI 3)) = some (nI p, m2)) (ht : f_M_X11_take_0 F (nI 1) (nI q) (hs_pA m2 10 q (nI p)) = some (y, m3)) (h3 : hs_I m3 0 50 = nI 0) (ht4 : f_M_X11_take_0 F (nI 14) (nI q) (hs_pA m3 11 q y) = some (y4, m4)) (h4 : hs_I m4 0 50 = nI 0) (he : f_M_X11_enter_0 (nI 1) (nI q) (hs_pA m4 12 q (hs_I m4 0 11)) = some m5) : f_M_X11_begins_0 F m = some m5 := by
  have g : hs_I (mM m q (nI 3)) 0 50 = nI 0 := by simp only [mM, hs_I_pI, hs_I_pA, hs_A_pI, hs_A_pA, and_true, true_and, and_false, false_and, and_self, eq_self, Nat.reduceEqDiff, ↓reduceIte]; exact hb
  unfold f_M_X11_begins_0
  simp (disch := omega) only [↓reduceIte, z_lit, z_m1, z_gd, z_le, z_lt, z_eq, z_em, z_me, z_ml, z_mle, z_lm, z_lem, z_pos, z_sub, nI_add, nI_clamp, ib_nI, pm_let, pm_bd, pm_b1, if_true, if_false, ite_true, ite_false, Nat.not_lt_zero, Nat.zero_le, hs_I_pI, hs_I_pA, hs_A_pI, hs_A_pA, and_true, true_and, and_false, false_and, and_self, eq_self, Nat.reduceEqDiff, ↓reduceIte, h6, M_make h12 hq, g, hp, ht, h3, ht4, h4, he]
theorem M_begins4b {F p q : Nat} {m m2 m3 m4 : hp_S} {y y4 : Int32} (h6 : hs_I m 0 6 = nI 4) (hb : hs_I m 0 50 = nI 0) (h12 : hs_I m 0 12 = nI q) (hq : q < 100) (hp : f_M_X11_pass_0 F (nI q) (mM m q (nI 4)) = some (nI p, m2)) (ht : f_M_X11_take_0 F (nI 1) (nI q) (hs_pA m2 10 q (nI p)) = some (y, m3)) (h3 : hs_I m3 0 50 = nI 0) (ht4 : f_M_X11_take_0 F (nI 15) (nI q) (hs_pA m3 11 q y) = some (y4, m4)) (h4 : hs_I m4 0 50 = nI 1) : f_M_X11_begins_0 F m = some m4 := by
  have g : hs_I (mM m q (nI 4)) 0 50 = nI 0 := by simp only [mM, hs_I_pI, hs_I_pA, hs_A_pI, hs_A_pA, and_true, true_and, and_false, false_and, and_self, eq_self, Nat.reduceEqDiff, ↓reduceIte]; exact hb
  unfold f_M_X11_begins_0
  simp (disch := omega) only [↓reduceIte, z_lit, z_m1, z_gd, z_le, z_lt, z_eq, z_em, z_me, z_ml, z_mle, z_lm, z_lem, z_pos, z_sub, nI_add, nI_clamp, ib_nI, pm_let, pm_bd, pm_b1, if_true, if_false, ite_true, ite_false, Nat.not_lt_zero, Nat.zero_le, hs_I_pI, hs_I_pA, hs_A_pI, hs_A_pA, and_true, true_and, and_false, false_and, and_self, eq_self, Nat.reduceEqDiff, ↓reduceIte, h6, M_make h12 hq, g, hp, ht, h3, ht4, h4]
  all_goals simp
theorem M_begins4c {F p q : Nat} {m m2 m3 m4 m5 : hp_S} {y y4 : Int32} (h6 : hs_I m 0 6 = nI 4) (hb : hs_I m 0 50 = nI 0) (h12 : hs_I m 0 12 = nI q) (hq : q < 100) (hp : f_M_X11_pass_0 F (nI q) (mM m q (nI 4)) = some (nI p, m2)) (ht : f_M_X11_take_0 F (nI 1) (nI q) (hs_pA m2 10 q (nI p)) = some (y, m3)) (h3 : hs_I m3 0 50 = nI 0) (ht4 : f_M_X11_take_0 F (nI 15) (nI q) (hs_pA m3 11 q y) = some (y4, m4)) (h4 : hs_I m4 0 50 = nI 0) (he : f_M_X11_enter_0 (nI 2) (nI q) (hs_pA m4 14 q (hs_I m4 0 11)) = some m5) : f_M_X11_begins_0 F m = some m5 := by
  have g : hs_I (mM m q (nI 4)) 0 50 = nI 0 := by simp only [mM, hs_I_pI, hs_I_pA, hs_A_pI, hs_A_pA, and_true, true_and, and_false, false_and, and_self, eq_self, Nat.reduceEqDiff, ↓reduceIte]; exact hb
  unfold f_M_X11_begins_0
  simp (disch := omega) only [↓reduceIte, z_lit, z_m1, z_gd, z_le, z_lt, z_eq, z_em, z_me, z_ml, z_mle, z_lm, z_lem, z_pos, z_sub, nI_add, nI_clamp, ib_nI, pm_let, pm_bd, pm_b1, if_true, if_false, ite_true, ite_false, Nat.not_lt_zero, Nat.zero_le, hs_I_pI, hs_I_pA, hs_A_pI, hs_A_pA, and_true, true_and, and_false, false_and, and_self, eq_self, Nat.reduceEqDiff, ↓reduceIte, h6, M_make h12 hq, g, hp, ht, h3, ht4, h4, he]
/-- atom -/
theorem M_atomO {F p : Nat} {m m2 m3 : hp_S} (h6 : hs_I m 0 6 = nI 16) (hp : f_M_X11_pass_0 F nM m = some (nI p, m2)) (he : f_M_X11_enter_0 (nI 7) (nI p) m2 = some m3) : f_M_X11_atom_0 F m = some m3 := by
  unfold f_M_X11_atom_0
  simp (disch := omega) only [↓reduceIte, z_lit, z_m1, z_gd, z_le, z_lt, z_eq, z_em, z_me, z_ml, z_mle, z_lm, z_lem, z_pos, z_sub, nI_add, nI_clamp, ib_nI, pm_let, pm_bd, pm_b1, if_true, if_false, ite_true, ite_false, Nat.not_lt_zero, Nat.zero_le, hs_I_pI, hs_I_pA, hs_A_pI, hs_A_pA, and_true, true_and, and_false, false_and, and_self, eq_self, Nat.reduceEqDiff, ↓reduceIte, h6, hp, he]
theorem M_atomX {F c : Nat} {m : hp_S} (h6 : hs_I m 0 6 = nI c) (hc : c ∉ [1, 2, 9, 10, 11, 12, 13, 16]) (hc2 : c < 100) (hb : hs_I m 0 50 = nI 0) : f_M_X11_atom_0 F m = some (mB m) := by
  simp only [List.mem_cons, List.not_mem_nil, or_false, not_or] at hc
  obtain ⟨c1, c2, c3, c4, c5, c6, c7, c8⟩ := hc
  unfold f_M_X11_atom_0
  simp (disch := omega) only [↓reduceIte, z_lit, z_m1, z_gd, z_le, z_lt, z_eq, z_em, z_me, z_ml, z_mle, z_lm, z_lem, z_pos, z_sub, nI_add, nI_clamp, ib_nI, pm_let, pm_bd, pm_b1, if_true, if_false, ite_true, ite_false, Nat.not_lt_zero, Nat.zero_le, hs_I_pI, hs_I_pA, hs_A_pI, hs_A_pA, and_true, true_and, and_false, false_and, and_self, eq_self, Nat.reduceEqDiff, ↓reduceIte, h6, c1, c2, c3, c4, c5, c6, c7, c8, M_need0 hb]
