theorem M_take {T : Nat → Nat} {n K p : Nat} {m : hp_S} {a : Int32} {kd : Nat} (hT : TK T n K) (h : M_tx m T n) (hp : p < K) (h6 : hs_I m 0 6 = nI kd) (h5 : hs_I m 0 5 = nI (tk_e T n p)) (h7 : hs_I m 0 7 = nI (tk_p T n p)) (h11 : hs_I m 0 11 = nI p) : ∃ x, (∀ k, 1100 ≤ k → f_M_X11_take_0 k (nI kd) a m = some (nI p, mP T n K m p a x)) ∧ (tk_K T n K (p + 1) ≠ 1 → p + 1 < K → x = nI (tk_e T n (p + 1))) := by
  obtain ⟨x, e1, e2⟩ := M_pass (a := a) hT h hp h5 h7 h11
  refine ⟨x, fun k hk => ?_, e2⟩
  have e1 := e1 k hk
  unfold f_M_X11_take_0
  simp (disch := omega) only [↓reduceIte, z_lit, z_m1, z_gd, z_le, z_lt, z_eq, z_em, z_me, z_ml, z_mle, z_lm, z_lem, z_pos, z_sub, nI_add, nI_clamp, ib_nI, pm_let, pm_bd, pm_b1, if_true, if_false, ite_true, ite_false, Nat.not_lt_zero, Nat.zero_le, h6, M_need1, e1]
  all_goals simp
theorem M_take0 {k : Nat} {m : hp_S} {a : Int32} {kd c : Nat} (h6 : hs_I m 0 6 = nI c) (hc : c ≠ kd) (hb : hs_I m 0 50 = nI 0) (hc2 : c < 100) (hkd : kd < 100) : f_M_X11_take_0 k (nI kd) a m = some (nI 0, mB m) := by
  unfold f_M_X11_take_0
  simp (disch := omega) only [↓reduceIte, z_lit, z_m1, z_gd, z_le, z_lt, z_eq, z_em, z_me, z_ml, z_mle, z_lm, z_lem, z_pos, z_sub, nI_add, nI_clamp, ib_nI, pm_let, pm_bd, pm_b1, if_true, if_false, ite_true, ite_false, Nat.not_lt_zero, Nat.zero_le, h6, hc, M_need0 hb]
/-- a level is entered -/
def mE (m : hp_S) (d : Nat) (w v : Int32) : hp_S := hs_pI (hs_pI (hs_pA (hs_pA (hs_pA (hs_pA m 34 d w) 35 d v) 36 d nM) 37 d nM) 0 23 (nI (d + 1))) 0 55 (nI 0)
theorem M_enter {m : hp_S} {d : Nat} {w v : Int32} (h : hs_I m 0 23 = nI d) (hd : d < 20) : f_M_X11_enter_0 w v m = some (mE m d w v) := by
  unfold f_M_X11_enter_0
  have c : ¬ 20 ≤ d := by omega
  simp (disch := omega) only [↓reduceIte, z_lit, z_m1, z_gd, z_le, z_lt, z_eq, z_em, z_me, z_ml, z_mle, z_lm, z_lem, z_pos, z_sub, nI_add, nI_clamp, ib_nI, pm_let, pm_bd, pm_b1, if_true, if_false, ite_true, ite_false, Nat.not_lt_zero, Nat.zero_le, h, c, M_need1, hs_I_pI, hs_I_pA, hs_A_pI, hs_A_pA, and_true, true_and, and_false, false_and, and_self, eq_self, Nat.reduceEqDiff, ↓reduceIte, mE]
  all_goals simp
theorem M_enter0 {m : hp_S} {d : Nat} {w v : Int32} (h : hs_I m 0 23 = nI d) (hd : 20 ≤ d) (hd2 : d < 100) (hb : hs_I m 0 50 = nI 0) : f_M_X11_enter_0 w v m = some (mB m) := by
  unfold f_M_X11_enter_0
  simp (disch := omega) only [↓reduceIte, z_lit, z_m1, z_gd, z_le, z_lt, z_eq, z_em, z_me, z_ml, z_mle, z_lm, z_lem, z_pos, z_sub, nI_add, nI_clamp, ib_nI, pm_let, pm_bd, pm_b1, if_true, if_false, ite_true, ite_false, Nat.not_lt_zero, Nat.zero_le, h, hd, M_need0 hb]
/-- a node is made -/
def mM (m : hp_S) (q : Nat) (k : Int32) : hp_S := hs_pI (hs_pA (hs_pA (hs_pA (hs_pA (hs_pA m 6 q k) 7 q nM) 8 q nM) 9 q nM) 11 q nM) 0 12 (nI (q + 1))
theorem M_make {m : hp_S} {q : Nat} {k : Int32} (h : hs_I m 0 12 = nI q) (hq : q < 100) : f_M_X11_make_0 k m = some (nI q, mM m q k) := by
  unfold f_M_X11_make_0
  have c : ¬ 100 ≤ q := by omega
  simp (disch := omega) only [↓reduceIte, z_lit, z_m1, z_gd, z_le, z_lt, z_eq, z_em, z_me, z_ml, z_mle, z_lm, z_lem, z_pos, z_sub, nI_add, nI_clamp, ib_nI, pm_let, pm_bd, pm_b1, if_true, if_false, ite_true, ite_false, Nat.not_lt_zero, Nat.zero_le, h, c, M_need1, hs_I_pI, hs_I_pA, hs_A_pI, hs_A_pA, and_true, true_and, and_false, false_and, and_self, eq_self, Nat.reduceEqDiff, ↓reduceIte, mM]
  all_goals simp
theorem M_make0 {m : hp_S} {q : Nat} {k : Int32} (h : hs_I m 0 12 = nI q) (hq : 100 ≤ q) (hq2 : q < 200) (hb : hs_I m 0 50 = nI 0) : f_M_X11_make_0 k m = some (nI 100, mB m) := by
  unfold f_M_X11_make_0
  simp (disch := omega) only [↓reduceIte, z_lit, z_m1, z_gd, z_le, z_lt, z_eq, z_em, z_me, z_ml, z_mle, z_lm, z_lem, z_pos, z_sub, nI_add, nI_clamp, ib_nI, pm_let, pm_bd, pm_b1, if_true, if_false, ite_true, ite_false, Nat.not_lt_zero, Nat.zero_le, h, hq, M_need0 hb]
/-- a node of one token -/
def mS (T : Nat → Nat) (n K : Nat) (m : hp_S) (p q : Nat) (k x : Int32) : hp_S := hs_pA (hs_pA (mP T n K (mM m q k) p (nI q) x) 10 q (nI p)) 11 q (nI p)
theorem M_single {T : Nat → Nat} {n K p q : Nat} {m : hp_S} {kd : Int32} (hT : TK T n K) (h : M_tx m T n) (hp : p < K) (h5 : hs_I m 0 5 = nI (tk_e T n p)) (h7 : hs_I m 0 7 = nI (tk_p T n p)) (h11 : hs_I m 0 11 = nI p) (h12 : hs_I m 0 12 = nI q) (hb : hs_I m 0 50 = nI 0) (hq : q < 100) : ∃ x, (∀ k, 1100 ≤ k → f_M_X11_single_0 k kd m = some (nI q, mS T n K m p q kd x)) ∧ (tk_K T n K (p + 1) ≠ 1 → p + 1 < K → x = nI (tk_e T n (p + 1))) := by
  have hm : M_tx (mM m q kd) T n := M_tx_fr (P := [(0, 12)]) (A := [6, 7, 8, 9, 11]) h (((((hs_fr_pA (by decide)).cons (hs_fr_pA (by decide))).cons (hs_fr_pA (by decide))).cons (hs_fr_pA (by decide))).cons ((hs_fr_pA (by decide)).cons (hs_fr_pI (by decide)))) (by decide)
  have g : ∀ j, j ≠ 12 → hs_I (mM m q kd) 0 j = hs_I m 0 j := by intro j hj; simp only [mM, hs_I_pI, hs_I_pA, hs_A_pI, hs_A_pA, and_true, true_and, and_false, false_and, and_self, eq_self, Nat.reduceEqDiff, ↓reduceIte, hj]
  obtain ⟨x, e1, e2⟩ := M_pass (a := nI q) hT hm hp (by rw [g 5 (by decide)]; exact h5) (by rw [g 7 (by decide)]; exact h7) (by rw [g 11 (by decide)]; exact h11)
  refine ⟨x, fun k hk => ?_, e2⟩
  have e1 := e1 k hk
  unfold f_M_X11_single_0
  simp (disch := omega) only [↓reduceIte, z_lit, z_m1, z_gd, z_le, z_lt, z_eq, z_em, z_me, z_ml, z_mle, z_lm, z_lem, z_pos, z_sub, nI_add, nI_clamp, ib_nI, pm_let, pm_bd, pm_b1, if_true, if_false, ite_true, ite_false, Nat.not_lt_zero, Nat.zero_le, M_make h12 hq, g 50, hb, e1, hs_I_pI, hs_I_pA, hs_A_pI, hs_A_pA, and_true, true_and, and_false, false_and, and_self, eq_self, Nat.reduceEqDiff, ↓reduceIte, mS]
  all_goals simp
theorem M_single0 {q k : Nat} {m : hp_S} {kd : Int32} (h12 : hs_I m 0 12 = nI q) (hq : 100 ≤ q) (hq2 : q < 200) (hb : hs_I m 0 50 = nI 0) : f_M_X11_single_0 k kd m = some (nI 100, mB m) := by
  unfold f_M_X11_single_0
  simp (disch := omega) only [↓reduceIte, z_lit, z_m1, z_gd, z_le, z_lt, z_eq, z_em, z_me, z_ml, z_mle, z_lm, z_lem, z_pos, z_sub, nI_add, nI_clamp, ib_nI, pm_let, pm_bd, pm_b1, if_true, if_false, ite_true, ite_false, Nat.not_lt_zero, Nat.zero_le, M_make0 h12 hq hq2 hb, mB, hs_I_pI, hs_I_pA, hs_A_pI, hs_A_pA, and_true, true_and, and_false, false_and, and_self, eq_self, Nat.reduceEqDiff, ↓reduceIte]
  all_goals simp
/-! the class's steps while nothing is refused -/
def cT (s : hp_S) (p : Nat) (a : Int32) : hp_S := hs_pI (hs_pA s 14 p a) 7 5 (nI (p + 1))
def cR (s : hp_S) (p : Nat) : hp_S := hs_pI s 7 7 (nI p)
def cN (s : hp_S) (p q : Nat) (k f : Int32) : hp_S := cT (hs_pA (hs_pA (hs_pA (hs_pA (hs_pA (hs_pA (hs_pI s 7 6 (nI (q + 1))) 9 p k) 10 p nM) 11 p nM) 12 p nM) 13 p nM) 10 p f) p (nI p)
theorem C_expect {s : hp_S} {T : Nat → Nat} {n K p k : Nat} {a : Int32} (h : C_T s T n K) (hc : hs_I s 7 5 = nI p) (ha : hs_I s 7 7 = nM) (hp : p < K) (hk : tk_K T n K p = k) : f_C_X4_expect_7 (nI k) a s = some (cT s p a) := by
  have h5 := h.2.2.1
  unfold f_C_X4_expect_7
  simp (disch := omega) only [↓reduceIte, z_lit, z_m1, z_gd, z_le, z_lt, z_eq, z_em, z_me, z_ml, z_mle, z_lm, z_lem, z_pos, z_sub, nI_add, nI_clamp, ib_nI, pm_let, pm_bd, pm_b1, if_true, if_false, ite_true, ite_false, Nat.not_lt_zero, Nat.zero_le, C_cur h (show p < 2 ^ 20 by omega) hc ha, hk, C_take hc ha h.2.1.1 h5 hp, cT]
theorem C_expect0 {s : hp_S} {T : Nat → Nat} {n K p k : Nat} {a : Int32} (h : C_T s T n K) (hc : hs_I s 7 5 = nI p) (ha : hs_I s 7 7 = nM) (hp : p ≤ K) (hk : tk_K T n K p ≠ k) (hk2 : k < 100) : f_C_X4_expect_7 (nI k) a s = some (cR s p) := by
  have h5 := h.2.2.1
  have hl := tk_K_lt T n K p
  unfold f_C_X4_expect_7
  simp (disch := omega) only [↓reduceIte, z_lit, z_m1, z_gd, z_le, z_lt, z_eq, z_em, z_me, z_ml, z_mle, z_lm, z_lem, z_pos, z_sub, nI_add, nI_clamp, ib_nI, pm_let, pm_bd, pm_b1, if_true, if_false, ite_true, ite_false, Nat.not_lt_zero, Nat.zero_le, C_cur h (show p < 2 ^ 20 by omega) hc ha, hk, C_ref ha, hc, cR]
theorem C_beginNode {s : hp_S} {T : Nat → Nat} {n K p q : Nat} {k f : Int32} (h : C_T s T n K) (hc : hs_I s 7 5 = nI p) (ha : hs_I s 7 7 = nM) (hp : p < K) (h6 : hs_I s 7 6 = nI q) (hq : q < 100) : f_C_X4_beginNode_7 k f s = some (nI p, cN s p q k f) := by
  have h5 := h.2.2.1
  have c : ¬ 100 ≤ q := by omega
  unfold f_C_X4_beginNode_7 f_C_X4_countNode_7
  simp (disch := omega) only [↓reduceIte, z_lit, z_m1, z_gd, z_le, z_lt, z_eq, z_em, z_me, z_ml, z_mle, z_lm, z_lem, z_pos, z_sub, nI_add, nI_clamp, ib_nI, pm_let, pm_bd, pm_b1, if_true, if_false, ite_true, ite_false, Nat.not_lt_zero, Nat.zero_le, hc, h6, c, C_begin (show p < 501 by omega), C_setFirst (show p < 501 by omega)]
  rw [C_take (p := p) (K := K) (by simp only [hs_I_pI, hs_I_pA, hs_A_pI, hs_A_pA, and_true, true_and, and_false, false_and, and_self, eq_self, Nat.reduceEqDiff, ↓reduceIte]; exact hc) (by simp only [hs_I_pI, hs_I_pA, hs_A_pI, hs_A_pA, and_true, true_and, and_false, false_and, and_self, eq_self, Nat.reduceEqDiff, ↓reduceIte]; exact ha) (by simp only [hs_I_pI, hs_I_pA, hs_A_pI, hs_A_pA, and_true, true_and, and_false, false_and, and_self, eq_self, Nat.reduceEqDiff, ↓reduceIte]; exact h.2.1.1) h5 hp]
  rfl
/-- too many nodes: refused at this token -/
theorem C_beginNode0 {s : hp_S} {T : Nat → Nat} {n K p q : Nat} {k f : Int32} (h : C_T s T n K) (hc : hs_I s 7 5 = nI p) (ha : hs_I s 7 7 = nM) (hp : p ≤ K) (h6 : hs_I s 7 6 = nI q) (hq : 100 ≤ q) (hq2 : q < 200) : ∃ u, f_C_X4_beginNode_7 k f s = some (nI p, u) ∧ hs_I u 7 7 = nI p ∧ hs_I u 7 4 = hs_I s 7 4 ∧ hs_fr cP cA s u ∧ (∀ i, hs_A u 15 i = hs_A s 15 i) := by
  have h5 := h.2.2.1
  have e : hs_I (cR s p) 7 7 ≠ nM := by
    simp only [cR, hs_I_pI, hs_I_pA, hs_A_pI, hs_A_pA, and_true, true_and, and_false, false_and, and_self, eq_self, Nat.reduceEqDiff, ↓reduceIte]
    intro q
    rw [z_em (by omega)] at q
    exact q
  obtain ⟨u2, e2, d2⟩ := C_begin_any (nI p) k (cR s p)
  obtain ⟨u3, e3, d3⟩ := C_setFirst_any (nI p) f u2
  have hd : hs_I u3 7 7 = nI p := by
    rw [d3.1 _ _ (by decide), d2.1 _ _ (by decide)]
    simp only [cR, hs_I_pI, hs_I_pA, hs_A_pI, hs_A_pA, and_true, true_and, and_false, false_and, and_self, eq_self, Nat.reduceEqDiff, ↓reduceIte]
  refine ⟨u3, ?_, hd, ?_, ?_, ?_⟩
  · unfold f_C_X4_beginNode_7 f_C_X4_countNode_7
    simp (disch := omega) only [↓reduceIte, z_lit, z_m1, z_gd, z_le, z_lt, z_eq, z_em, z_me, z_ml, z_mle, z_lm, z_lem, z_pos, z_sub, nI_add, nI_clamp, ib_nI, pm_let, pm_bd, pm_b1, if_true, if_false, ite_true, ite_false, Nat.not_lt_zero, Nat.zero_le, hc, h6, hq, C_ref ha]
    change pm_b1 (f_C_X2_begin_8 (nI p) k (cR s p)) _ = _
    simp only [e2, e3, pm_b1]
    rw [C_take0 (by rw [hd]; intro q; rw [z_em (by omega)] at q; exact q)]
  · rw [d3.1 _ _ (by decide), d2.1 _ _ (by decide)]
    simp only [cR, hs_I_pI, hs_I_pA, hs_A_pI, hs_A_pA, and_true, true_and, and_false, false_and, and_self, eq_self, Nat.reduceEqDiff, ↓reduceIte]
  · exact ((hs_fr_pI (by decide) : hs_fr cP cA s (cR s p)).cons (d2.mono (by decide) (by decide))).cons (d3.mono (by decide) (by decide))
  · intro i
    rw [d3.2 _ (by decide), d2.2 _ (by decide)]
    simp only [cR, hs_I_pI, hs_I_pA, hs_A_pI, hs_A_pA, and_true, true_and, and_false, false_and, and_self, eq_self, Nat.reduceEqDiff, ↓reduceIte]
