/-! once a token is refused: every rule comes to its end, and what was refused stays -/
theorem C_begin_any (a k : Int32) (s : hp_S) : ∃ u, f_C_X2_begin_8 a k s = some u ∧ hs_fr [] [9, 10, 11, 12, 13] s u := by
  rcases C_holds8 a s with ⟨h, -⟩ | ⟨h, j, hj, rfl⟩
  · unfold f_C_X2_begin_8
    rw [h]
    exact ⟨s, by simp [pm_bd], hs_fr.rf⟩
  · rw [C_begin hj]
    exact ⟨_, rfl, ((((hs_fr_pA (by decide)).cons (hs_fr_pA (by decide))).cons (hs_fr_pA (by decide))).cons (hs_fr_pA (by decide))).cons (hs_fr_pA (by decide))⟩
theorem C_setFirst_any (a k : Int32) (s : hp_S) : ∃ u, f_C_X2_setFirst_8 a k s = some u ∧ hs_fr [] [9, 10, 11, 12, 13] s u := by
  rcases C_holds8 a s with ⟨h, -⟩ | ⟨h, j, hj, rfl⟩
  · unfold f_C_X2_setFirst_8
    rw [h]
    exact ⟨s, by simp [pm_bd], hs_fr.rf⟩
  · rw [C_setFirst hj]
    exact ⟨_, rfl, hs_fr_pA (by decide)⟩
theorem C_setSecond_any (a k : Int32) (s : hp_S) : ∃ u, f_C_X2_setSecond_8 a k s = some u ∧ hs_fr [] [9, 10, 11, 12, 13] s u := by
  rcases C_holds8 a s with ⟨h, -⟩ | ⟨h, j, hj, rfl⟩
  · unfold f_C_X2_setSecond_8
    rw [h]
    exact ⟨s, by simp [pm_bd], hs_fr.rf⟩
  · rw [C_setSecond hj]
    exact ⟨_, rfl, hs_fr_pA (by decide)⟩
theorem C_setThird_any (a k : Int32) (s : hp_S) : ∃ u, f_C_X2_setThird_8 a k s = some u ∧ hs_fr [] [9, 10, 11, 12, 13] s u := by
  rcases C_holds8 a s with ⟨h, -⟩ | ⟨h, j, hj, rfl⟩
  · unfold f_C_X2_setThird_8
    rw [h]
    exact ⟨s, by simp [pm_bd], hs_fr.rf⟩
  · rw [C_setThird hj]
    exact ⟨_, rfl, hs_fr_pA (by decide)⟩
theorem C_setMeaning_any (a k : Int32) (s : hp_S) : ∃ u, f_C_X2_setMeaning_8 a k s = some u ∧ hs_fr [] [9, 10, 11, 12, 13] s u := by
  rcases C_holds8 a s with ⟨h, -⟩ | ⟨h, j, hj, rfl⟩
  · unfold f_C_X2_setMeaning_8
    rw [h]
    exact ⟨s, by simp [pm_bd], hs_fr.rf⟩
  · rw [C_setMeaning hj]
    exact ⟨_, rfl, hs_fr_pA (by decide)⟩
def cP : List (Nat × Nat) := [(7, 4), (7, 5), (7, 6), (7, 7), (7, 8), (7, 9)]
def cA : List Nat := [9, 10, 11, 12, 13, 14, 15]
def Dr (s u : hp_S) : Prop := hs_fr cP cA s u ∧ hs_I u 7 7 = hs_I s 7 7 ∧ hs_I u 7 4 = hs_I s 7 4
def Dd (s : hp_S) : Prop := hs_I s 7 7 ≠ nM ∧ ∃ z, z ≤ 20 ∧ hs_I s 7 4 = nI z
theorem Dr.rf {s : hp_S} : Dr s s := ⟨hs_fr.rf, rfl, rfl⟩
theorem Dr.tr {s t u : hp_S} (h : Dr s t) (g : Dr t u) : Dr s u := ⟨h.1.cons g.1, g.2.1.trans h.2.1, g.2.2.trans h.2.2⟩
theorem Dd.go {s u : hp_S} (h : Dd s) (g : Dr s u) : Dd u := ⟨by rw [g.2.1]; exact h.1, by rw [g.2.2]; exact h.2⟩
theorem Dr.of {s u : hp_S} (h : hs_fr [] [9, 10, 11, 12, 13] s u) : Dr s u := ⟨h.mono (by decide) (by decide), h.1 _ _ (by decide), h.1 _ _ (by decide)⟩
theorem D_expect {s : hp_S} {k : Nat} {a : Int32} (h : Dd s) (hk : 0 < k) (hk2 : k < 100) : f_C_X4_expect_7 (nI k) a s = some s := by
  unfold f_C_X4_expect_7
  have : ¬ 0 = k := by omega
  simp (disch := omega) only [↓reduceIte, z_lit, z_m1, z_gd, z_le, z_lt, z_eq, z_em, z_me, z_ml, z_mle, z_lm, z_lem, z_pos, z_sub, nI_add, nI_clamp, ib_nI, pm_let, pm_bd, pm_b1, if_true, if_false, ite_true, ite_false, Nat.not_lt_zero, Nat.zero_le, C_cur0 h.1, C_ref0 h.1, this]
theorem D_count {s : hp_S} (h : Dd s) : ∃ u, f_C_X4_countNode_7 s = some u ∧ Dr s u := by
  unfold f_C_X4_countNode_7
  split
  · exact ⟨s, by simp only [pm_b1, C_ref0 h.1], Dr.rf⟩
  · exact ⟨_, rfl, hs_fr_pI (by decide), by simp only [hs_I_pI, hs_I_pA, hs_A_pI, hs_A_pA, and_true, true_and, and_false, false_and, and_self, eq_self, Nat.reduceEqDiff, ↓reduceIte], by simp only [hs_I_pI, hs_I_pA, hs_A_pI, hs_A_pA, and_true, true_and, and_false, false_and, and_self, eq_self, Nat.reduceEqDiff, ↓reduceIte]⟩
theorem D_beginNode {s : hp_S} (h : Dd s) (k f : Int32) : ∃ u, f_C_X4_beginNode_7 k f s = some (hs_I s 7 5, u) ∧ Dr s u := by
  unfold f_C_X4_beginNode_7
  obtain ⟨u1, e1, d1⟩ := D_count h
  obtain ⟨u2, e2, d2⟩ := C_begin_any (hs_I s 7 5) k u1
  obtain ⟨u3, e3, d3⟩ := C_setFirst_any (hs_I s 7 5) f u2
  have hd := ((h.go d1).go (Dr.of d2)).go (Dr.of d3)
  exact ⟨u3, by simp only [pm_let, pm_b1, e1, e2, e3, C_take0 hd.1], (d1.tr (Dr.of d2)).tr (Dr.of d3)⟩
/-- the rules in their dead form: rec answers at so many levels -/
def Dl (R : Nat → Int32 → Int32 → Int32 → hp_S → Option (Int32 × hp_S)) (k : Nat) : Prop := ∀ s a b c, Dd s → ∃ x u, R k a b c s = some (x, u) ∧ Dr s u
theorem D_8 (n N : Nat) : Dl (f_C_rec n (N + 1)) 8 := by
  intro s a b c h
  rw [f_C_rec.eq_2]
  simp only [Nat.reduceEqDiff, if_false, if_true, f_C_X4_atom_7, C_cur0 h.1, pm_bd]
  refine ⟨nM, s, ?_, Dr.rf⟩
  repeat rw [if_neg (by decide)]
  simp only [C_ref0 h.1, pm_b1]
  rfl
theorem D_7 (n N : Nat) (hn : 1 ≤ n) : Dl (f_C_rec n (N + 2)) 7 := by
  intro s a b c h
  obtain ⟨x, u, e, d⟩ := D_8 n N s a 0 0 h
  have hu := h.go d
  obtain ⟨n, rfl⟩ : ∃ z, n = z + 1 := ⟨n - 1, by omega⟩
  rw [f_C_rec.eq_2]
  simp only [Nat.reduceEqDiff, if_false, if_true, f_C_X4_call_7, e, pm_bd, l_C_X4_call_7_8.eq_2, C_cur0 hu.1]
  exact ⟨x, u, by simp (disch := omega) only [↓reduceIte, z_lit, z_m1, z_gd, z_le, z_lt, z_eq, z_em, z_me, z_ml, z_mle, z_lm, z_lem, z_pos, z_sub, nI_add, nI_clamp, ib_nI, pm_let, pm_bd, pm_b1, if_true, if_false, ite_true, ite_false, Nat.not_lt_zero, Nat.zero_le]; simp, d⟩
theorem D_6 (n N : Nat) (hn : 1 ≤ n) : Dl (f_C_rec n (N + 3)) 6 := by
  intro s a b c h
  obtain ⟨x, u, e, d⟩ := D_7 n N hn s a 0 0 h
  have hu := h.go d
  obtain ⟨n, rfl⟩ : ∃ z, n = z + 1 := ⟨n - 1, by omega⟩
  rw [f_C_rec.eq_2]
  simp only [Nat.reduceEqDiff, if_false, if_true, f_C_X4_sum_7, e, pm_bd, l_C_X4_sum_7_8.eq_2, C_cur0 hu.1]
  exact ⟨x, u, by simp (disch := omega) only [↓reduceIte, z_lit, z_m1, z_gd, z_le, z_lt, z_eq, z_em, z_me, z_ml, z_mle, z_lm, z_lem, z_pos, z_sub, nI_add, nI_clamp, ib_nI, pm_let, pm_bd, pm_b1, if_true, if_false, ite_true, ite_false, Nat.not_lt_zero, Nat.zero_le]; simp, d⟩
theorem D_5 (n N : Nat) (hn : 1 ≤ n) : Dl (f_C_rec n (N + 4)) 5 := by
  intro s a b c h
  obtain ⟨x, u, e, d⟩ := D_6 n N hn s a 0 0 h
  have hu := h.go d
  rw [f_C_rec.eq_2]
  simp only [Nat.reduceEqDiff, if_false, if_true, f_C_X4_comparison_7, e, pm_bd, C_cur0 hu.1]
  exact ⟨x, u, by simp (disch := omega) only [↓reduceIte, z_lit, z_m1, z_gd, z_le, z_lt, z_eq, z_em, z_me, z_ml, z_mle, z_lm, z_lem, z_pos, z_sub, nI_add, nI_clamp, ib_nI, pm_let, pm_bd, pm_b1, if_true, if_false, ite_true, ite_false, Nat.not_lt_zero, Nat.zero_le]; simp, d⟩
theorem D_0 (n N : Nat) (hn : 1 ≤ n) : Dl (f_C_rec n (N + 5)) 0 := by
  intro s a b c h
  obtain ⟨x, u, e, d⟩ := D_5 n N hn s a 0 0 h
  rw [f_C_rec.eq_2]
  simp only [if_true, f_C_X4_expression_7]
  by_cases c1 : a ≤ 20
  · rw [if_pos c1]
    simp only [C_cur0 h.1, pm_bd, e]
    exact ⟨x, u, by simp (disch := omega) only [↓reduceIte, z_lit, z_m1, z_gd, z_le, z_lt, z_eq, z_em, z_me, z_ml, z_mle, z_lm, z_lem, z_pos, z_sub, nI_add, nI_clamp, ib_nI, pm_let, pm_bd, pm_b1, if_true, if_false, ite_true, ite_false, Nat.not_lt_zero, Nat.zero_le]; simp, d⟩
  · rw [if_neg c1]
    simp only [C_ref0 h.1, pm_b1]
    exact ⟨_, _, rfl, Dr.rf⟩
theorem D_3 (n N : Nat) (hn : 1 ≤ n) : Dl (f_C_rec n (N + 6)) 3 := by
  intro s a b c h
  obtain ⟨hr, z, hz, hz4⟩ := id h
  rw [f_C_rec.eq_2]
  simp only [Nat.reduceEqDiff, if_false, if_true, f_C_X4_expressionInScope_7, hz4]
  by_cases c1 : z < 20
  · have h2 : Dd (hs_pI (hs_pA s 15 z a) 7 4 (nI (z + 1))) := ⟨by simp only [hs_I_pI, hs_I_pA, hs_A_pI, hs_A_pA, and_true, true_and, and_false, false_and, and_self, eq_self, Nat.reduceEqDiff, ↓reduceIte]; exact hr, z + 1, by omega, by simp only [hs_I_pI, hs_I_pA, hs_A_pI, hs_A_pA, and_true, true_and, and_false, false_and, and_self, eq_self, Nat.reduceEqDiff, ↓reduceIte]⟩
    obtain ⟨x, u, e, d⟩ := D_0 n N hn _ (b + nI 1) (nI 0) (nI 0) h2
    have d4 : hs_I u 7 4 = nI (z + 1) := by rw [d.2.2]; simp only [hs_I_pI, hs_I_pA, hs_A_pI, hs_A_pA, and_true, true_and, and_false, false_and, and_self, eq_self, Nat.reduceEqDiff, ↓reduceIte]
    refine ⟨x, hs_pI u 7 4 (nI z), ?_, ?_, ?_, ?_⟩
    · simp (disch := omega) only [↓reduceIte, z_lit, z_m1, z_gd, z_le, z_lt, z_eq, z_em, z_me, z_ml, z_mle, z_lm, z_lem, z_pos, z_sub, nI_add, nI_clamp, ib_nI, pm_let, pm_bd, pm_b1, if_true, if_false, ite_true, ite_false, Nat.not_lt_zero, Nat.zero_le, hs_I_pI, hs_I_pA, hs_A_pI, hs_A_pA, and_true, true_and, and_false, false_and, and_self, eq_self, Nat.reduceEqDiff, ↓reduceIte, hz4, c1, e, d4]
      simp
    · exact ((hs_fr_pA (by decide)).cons (hs_fr_pI (by decide))).cons (d.1.cons (hs_fr_pI (by decide)))
    · simp only [hs_I_pI, hs_I_pA, hs_A_pI, hs_A_pA, and_true, true_and, and_false, false_and, and_self, eq_self, Nat.reduceEqDiff, ↓reduceIte]; rw [d.2.1]; simp only [hs_I_pI, hs_I_pA, hs_A_pI, hs_A_pA, and_true, true_and, and_false, false_and, and_self, eq_self, Nat.reduceEqDiff, ↓reduceIte]
    · simp only [hs_I_pI, hs_I_pA, hs_A_pI, hs_A_pA, and_true, true_and, and_false, false_and, and_self, eq_self, Nat.reduceEqDiff, ↓reduceIte]; rw [hz4]
  · exact ⟨nM, s, by simp (disch := omega) only [↓reduceIte, z_lit, z_m1, z_gd, z_le, z_lt, z_eq, z_em, z_me, z_ml, z_mle, z_lm, z_lem, z_pos, z_sub, nI_add, nI_clamp, ib_nI, pm_let, pm_bd, pm_b1, if_true, if_false, ite_true, ite_false, Nat.not_lt_zero, Nat.zero_le, c1, C_ref0 h.1], Dr.rf⟩
