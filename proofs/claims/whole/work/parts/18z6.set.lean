/-! SETTLE: numbers -/
theorem sb_inj {a b : Nat} (ha : a < 256) (hb : b < 256) : (sb_b a = sb_b b) = (a = b) := by
  refine propext ⟨fun h => ?_, fun h => by rw [h]⟩
  have h1 := (byte_all a ha).1
  have h2 := (byte_all b hb).1
  rw [h, h2, nI_eq (by omega) (by omega)] at h1
  exact h1.symm
theorem z_bl1 : pm_bl (nI 1) = true := by decide
theorem z_bl0 : pm_bl (nI 0) = true := by decide
theorem hs_pA_pA (s : hp_S) (a i : Nat) (x y : Int32) : hs_pA (hs_pA s a i x) a i y = hs_pA s a i y := by
  refine hs_ext (fun _ _ => rfl) (fun b j => ?_)
  simp only [hs_A_pA]
  by_cases c : b = a ∧ j = i
  · rw [if_pos c, if_pos c]
  · rw [if_neg c, if_neg c, if_neg c]
theorem hs_pA_self (s : hp_S) (a i : Nat) (x : Int32) (h : hs_A s a i = x) : hs_pA s a i x = s := by
  refine hs_ext (fun _ _ => rfl) (fun b j => ?_)
  simp only [hs_A_pA]
  by_cases c : b = a ∧ j = i
  · rw [if_pos c, c.1, c.2, h]
  · rw [if_neg c]
/-- a token's place in the reference -/
def m34 (T : Nat → Nat) (n : Nat) (m : hp_S) (t : Nat) : Prop := hs_A m 3 t = nI (tk_p T n t) ∧ hs_A m 4 t = nI (tk_e T n t)
theorem M_same0 {T : Nat → Nat} {n K a : Nat} {m : hp_S} {b i : Int32} (hT : TK T n K) (ha : a < K) (k : Nat) : l_M_X11_sameName_0_38 (k + 1) (nI a) b (nI 0) i m = some (nI 0, m) := by
  have hK := hT.2.1
  rw [l_M_X11_sameName_0_38.eq_2]
  simp (disch := omega) only [↓reduceIte, z_lit, z_m1, z_gd, z_le, z_lt, z_eq, z_em, z_me, z_ml, z_mle, z_lm, z_lem, z_pos, z_sub, nI_add, nI_clamp, ib_nI, pm_let, pm_bd, pm_b1, if_true, if_false, ite_true, ite_false, Nat.not_lt_zero, Nat.zero_le, z_bl0]
  split <;> rfl
theorem M_sameLoop {T : Nat → Nat} {n K a b : Nat} {m : hp_S} (hT : TK T n K) (hm : M_tx m T n) (ha : a < K) (hb : b < K) (ma : m34 T n m a) (mb : m34 T n m b) (hl : tk_e T n a - tk_p T n a = tk_e T n b - tk_p T n b) : ∀ (d i k : Nat), i + d = tk_e T n a - tk_p T n a → d + 2 ≤ k → l_M_X11_sameName_0_38 k (nI a) (nI b) (nI 1) (nI i) m = some (b_i (eqs T (tk_p T n a) (tk_p T n b) d i), m) := by
  have hK := hT.2.1
  have hn := hT.1
  obtain ⟨ea1, ea2⟩ := hT.e ha
  obtain ⟨eb1, eb2⟩ := hT.e hb
  intro d
  induction d with
  | zero =>
    intro i k hi hk
    obtain ⟨k, rfl⟩ : ∃ z, k = z + 1 := ⟨k - 1, by omega⟩
    rw [l_M_X11_sameName_0_38.eq_2]
    have c : tk_e T n a ≤ tk_p T n a + i := by omega
    simp (disch := omega) only [↓reduceIte, z_lit, z_m1, z_gd, z_le, z_lt, z_eq, z_em, z_me, z_ml, z_mle, z_lm, z_lem, z_pos, z_sub, nI_add, nI_clamp, ib_nI, pm_let, pm_bd, pm_b1, if_true, if_false, ite_true, ite_false, Nat.not_lt_zero, Nat.zero_le, ma.1, ma.2, c, z_bl1, eqs, b_i]
  | succ d ih =>
    intro i k hi hk
    obtain ⟨k, rfl⟩ : ∃ z, k = z + 2 := ⟨k - 2, by omega⟩
    rw [l_M_X11_sameName_0_38.eq_2]
    have c : ¬ tk_e T n a ≤ tk_p T n a + i := by omega
    have c1 : tk_p T n a + i < n := by omega
    have c2 : tk_p T n b + i < n := by omega
    obtain ⟨t1, t2⟩ := hm.2.2 _ c1
    obtain ⟨t3, t4⟩ := hm.2.2 _ c2
    have t5 := sb_inj t1 t3
    have ih' := ih (i + 1) (k + 1) (by omega) (by omega)
    by_cases e : T (tk_p T n a + i) = T (tk_p T n b + i)
    · simp (disch := omega) only [↓reduceIte, z_lit, z_m1, z_gd, z_le, z_lt, z_eq, z_em, z_me, z_ml, z_mle, z_lm, z_lem, z_pos, z_sub, nI_add, nI_clamp, ib_nI, pm_let, pm_bd, pm_b1, if_true, if_false, ite_true, ite_false, Nat.not_lt_zero, Nat.zero_le, ma.1, ma.2, mb.1, mb.2, c, t2, t4, e, ih', eqs]
      simp
    · simp (disch := omega) only [↓reduceIte, z_lit, z_m1, z_gd, z_le, z_lt, z_eq, z_em, z_me, z_ml, z_mle, z_lm, z_lem, z_pos, z_sub, nI_add, nI_clamp, ib_nI, pm_let, pm_bd, pm_b1, if_true, if_false, ite_true, ite_false, Nat.not_lt_zero, Nat.zero_le, ma.1, ma.2, mb.1, mb.2, c, t2, t4, t5, e, M_same0 hT ha, eqs]
      simp [b_i]
      rfl
theorem M_sameName {T : Nat → Nat} {n K a b : Nat} {m : hp_S} (hT : TK T n K) (hm : M_tx m T n) (ha : a < K) (hb : b < K) (ma : m34 T n m a) (mb : m34 T n m b) (k : Nat) (hk : 510 ≤ k) : f_M_X11_sameName_0 k (nI a) (nI b) m = some (b_i (tk_sm T n a b), m) := by
  have hK := hT.2.1
  have hn := hT.1
  obtain ⟨ea1, ea2⟩ := hT.e ha
  obtain ⟨eb1, eb2⟩ := hT.e hb
  unfold f_M_X11_sameName_0 tk_sm
  obtain ⟨k, rfl⟩ : ∃ z, k = z + 1 := ⟨k - 1, by omega⟩
  by_cases e : tk_e T n a - tk_p T n a = tk_e T n b - tk_p T n b
  · have h1 := M_sameLoop hT hm ha hb ma mb e (tk_e T n a - tk_p T n a) 0 (k + 1) (by omega) (by omega)
    simp (disch := omega) only [↓reduceIte, z_lit, z_m1, z_gd, z_le, z_lt, z_eq, z_em, z_me, z_ml, z_mle, z_lm, z_lem, z_pos, z_sub, nI_add, nI_clamp, ib_nI, pm_let, pm_bd, pm_b1, if_true, if_false, ite_true, ite_false, Nat.not_lt_zero, Nat.zero_le, ma.1, ma.2, mb.1, mb.2, e]
    rw [e] at h1
    rw [h1]
    simp
  · simp (disch := omega) only [↓reduceIte, z_lit, z_m1, z_gd, z_le, z_lt, z_eq, z_em, z_me, z_ml, z_mle, z_lm, z_lem, z_pos, z_sub, nI_add, nI_clamp, ib_nI, pm_let, pm_bd, pm_b1, if_true, if_false, ite_true, ite_false, Nat.not_lt_zero, Nat.zero_le, ma.1, ma.2, mb.1, mb.2, e, M_same0 hT ha]
    simp [b_i]
    rfl
theorem eqs_symm (T : Nat → Nat) (p q : Nat) : ∀ d i, eqs T p q d i = eqs T q p d i
  | 0, _ => rfl
  | d + 1, i => by
    simp only [eqs, eqs_symm T p q d (i + 1)]
    congr 1
    exact decide_eq_decide.mpr ⟨Eq.symm, Eq.symm⟩
theorem tk_sm_symm (T : Nat → Nat) (n a b : Nat) : tk_sm T n a b = tk_sm T n b a := by
  unfold tk_sm
  by_cases e : tk_e T n a - tk_p T n a = tk_e T n b - tk_p T n b
  · rw [e, eqs_symm]
  · rw [decide_eq_false e, decide_eq_false (fun h => e h.symm)]
    rfl
/-- while the first loop counts -/
theorem S_cnt {m : hp_S} {q a : Nat} (hq : q ≤ 100) (ha : a < q) (hf : ∀ j, j < q → hs_A m 10 j = nI (fj m j) ∧ fj m j < 501) : ∀ (d y : Nat) (s : hp_S), y + d = q → hs_I s 0 12 = nI q → (∀ j, hs_A s 10 j = hs_A m 10 j) → hs_A s 16 a = nI (bl m (fj m a) y) → ∀ k2 F, d + 1 ≤ F → l_M_X11_settle_0_19 k2 F (nI a) (nI y) s = k2 (nI (a + 1)) (hs_pA (hs_pA s 16 a (nI (nu m q a))) 17 (nu m q a) (nI a)) := by
  intro d
  induction d with
  | zero =>
    intro y s e h12 h10 h16 k2 F hF
    obtain rfl : y = q := by omega
    obtain ⟨F, rfl⟩ : ∃ z, F = z + 1 := ⟨F - 1, by omega⟩
    have hl := nu_lt (m := m) ha
    rw [l_M_X11_settle_0_19.eq_2]
    have c : y ≤ y := Nat.le_refl _
    change hs_A s 16 a = nI (nu m y a) at h16
    simp (disch := omega) only [↓reduceIte, z_lit, z_m1, z_gd, z_le, z_lt, z_eq, z_em, z_me, z_ml, z_mle, z_lm, z_lem, z_pos, z_sub, nI_add, nI_clamp, ib_nI, pm_let, pm_bd, pm_b1, if_true, if_false, ite_true, ite_false, Nat.not_lt_zero, Nat.zero_le, h12, c, h16]
    rw [hs_pA_self s 16 a _ h16]
  | succ d ih =>
    intro y s e h12 h10 h16 k2 F hF
    obtain ⟨F, rfl⟩ : ∃ z, F = z + 1 := ⟨F - 1, by omega⟩
    have c : ¬ q ≤ y := by omega
    obtain ⟨a1, a2⟩ := hf a ha
    obtain ⟨y1, y2⟩ := hf y (by omega)
    have bb := bl_le m (fj m a) y
    obtain ⟨x, hx⟩ : ∃ x, x = bl m (fj m a) (y + 1) := ⟨_, rfl⟩
    have st : l_M_X11_settle_0_19 k2 (F + 1) (nI a) (nI y) s = l_M_X11_settle_0_19 k2 F (nI a) (nI (y + 1)) (hs_pA s 16 a (nI x)) := by
      rw [l_M_X11_settle_0_19.eq_2]
      by_cases c2 : fj m a ≤ fj m y
      · have e1 : x = bl m (fj m a) y + 0 := by rw [hx]; simp only [bl]; rw [if_neg (by omega)]
        simp (disch := omega) only [↓reduceIte, z_lit, z_m1, z_gd, z_le, z_lt, z_eq, z_em, z_me, z_ml, z_mle, z_lm, z_lem, z_pos, z_sub, nI_add, nI_clamp, ib_nI, pm_let, pm_bd, pm_b1, if_true, if_false, ite_true, ite_false, Nat.not_lt_zero, Nat.zero_le, h12, c, h10, a1, y1, c2, h16, e1]
      · have e1 : x = bl m (fj m a) y + 1 := by rw [hx]; simp only [bl]; rw [if_pos (by omega)]
        simp (disch := omega) only [↓reduceIte, z_lit, z_m1, z_gd, z_le, z_lt, z_eq, z_em, z_me, z_ml, z_mle, z_lm, z_lem, z_pos, z_sub, nI_add, nI_clamp, ib_nI, pm_let, pm_bd, pm_b1, if_true, if_false, ite_true, ite_false, Nat.not_lt_zero, Nat.zero_le, h12, c, h10, a1, y1, c2, h16, e1]
    rw [st, ih (y + 1) (hs_pA s 16 a (nI x)) (by omega) (by simp only [hs_I_pI, hs_I_pA, hs_A_pI, hs_A_pA, and_true, true_and, and_false, false_and, and_self, eq_self, Nat.reduceEqDiff, ↓reduceIte]; exact h12) (fun j => by simp only [hs_I_pI, hs_I_pA, hs_A_pI, hs_A_pA, and_true, true_and, and_false, false_and, and_self, eq_self, Nat.reduceEqDiff, ↓reduceIte]; exact h10 j) (by simp only [hs_I_pI, hs_I_pA, hs_A_pI, hs_A_pA, and_true, true_and, and_false, false_and, and_self, eq_self, Nat.reduceEqDiff, ↓reduceIte]; rw [hx]) k2 F (by omega), hs_pA_pA]
theorem S_num {m : hp_S} {q : Nat} (hq : q ≤ 100) (hI : inj m q) (hf : ∀ j, j < q → hs_A m 10 j = nI (fj m j) ∧ fj m j < 501) : ∀ (d a : Nat) (s : hp_S), a + d = q → hs_I s 0 12 = nI q → hs_fr [] [16, 17] m s → (∀ j, j < a → hs_A s 16 j = nI (nu m q j) ∧ hs_A s 17 (nu m q j) = nI j) → ∃ s', (∀ F, 102 ≤ F → l_M_X11_settle_0_2 (F + 1 + d) (nI a) s = l_M_X11_settle_0_84 F nM (nI 0) s') ∧ hs_fr [] [16, 17] m s' ∧ ∀ j, j < q → hs_A s' 16 j = nI (nu m q j) ∧ hs_A s' 17 (nu m q j) = nI j := by
  intro d
  induction d with
  | zero =>
    intro a s e h12 hfr h
    obtain rfl : a = q := by omega
    refine ⟨s, fun F hF => ?_, hfr, h⟩
    rw [Nat.add_zero, l_M_X11_settle_0_2.eq_2, h12, if_pos (Int32.le_refl _)]
    rfl
  | succ d ih =>
    intro a s e h12 hfr h
    have c : ¬ q ≤ a := by omega
    obtain ⟨s1, hs1⟩ : ∃ s1, s1 = hs_pA (hs_pA (hs_pA s 16 a (nI 0)) 16 a (nI (nu m q a))) 17 (nu m q a) (nI a) := ⟨_, rfl⟩
    have st : ∀ F, 102 ≤ F → l_M_X11_settle_0_2 (F + 1) (nI a) s = l_M_X11_settle_0_2 F (nI (a + 1)) s1 := by
      intro F hF
      rw [l_M_X11_settle_0_2.eq_2]
      have := S_cnt hq (show a < q by omega) hf q 0 (hs_pA s 16 a (nI 0)) (by omega) (by simp only [hs_I_pI, hs_I_pA, hs_A_pI, hs_A_pA, and_true, true_and, and_false, false_and, and_self, eq_self, Nat.reduceEqDiff, ↓reduceIte]; exact h12) (fun j => by simp only [hs_I_pI, hs_I_pA, hs_A_pI, hs_A_pA, and_true, true_and, and_false, false_and, and_self, eq_self, Nat.reduceEqDiff, ↓reduceIte]; exact hfr.2 10 (by decide) j) (by simp only [hs_I_pI, hs_I_pA, hs_A_pI, hs_A_pA, and_true, true_and, and_false, false_and, and_self, eq_self, Nat.reduceEqDiff, ↓reduceIte, bl]) (l_M_X11_settle_0_2 F) F (by omega)
      simp (disch := omega) only [↓reduceIte, z_lit, z_m1, z_gd, z_le, z_lt, z_eq, z_em, z_me, z_ml, z_mle, z_lm, z_lem, z_pos, z_sub, nI_add, nI_clamp, ib_nI, pm_let, pm_bd, pm_b1, if_true, if_false, ite_true, ite_false, Nat.not_lt_zero, Nat.zero_le, h12, c, this, hs1]
    obtain ⟨s', f1, f2, f3⟩ := ih (a + 1) s1 (by omega) (by rw [hs1]; simp only [hs_I_pI, hs_I_pA, hs_A_pI, hs_A_pA, and_true, true_and, and_false, false_and, and_self, eq_self, Nat.reduceEqDiff, ↓reduceIte]; exact h12) (by
      rw [hs1]
      exact ((hfr.cons (hs_fr_pA (by decide))).cons (hs_fr_pA (by decide))).cons (hs_fr_pA (by decide))) (fun j hj => by
      rw [hs1]
      by_cases c2 : j = a
      · subst c2
        simp only [hs_I_pI, hs_I_pA, hs_A_pI, hs_A_pA, and_true, true_and, and_false, false_and, and_self, eq_self, Nat.reduceEqDiff, ↓reduceIte]
      · have c3 : ¬ nu m q j = nu m q a := fun e => c2 (nu_inj hI (by omega) (by omega) e)
        simp only [hs_I_pI, hs_I_pA, hs_A_pI, hs_A_pA, and_true, true_and, and_false, false_and, and_self, eq_self, Nat.reduceEqDiff, ↓reduceIte, c2, c3]
        exact h j (by omega))
    refine ⟨s', fun F hF => ?_, f2, f3⟩
    rw [← Nat.add_assoc, st (F + 1 + d) (by omega)]
    exact f1 F hF
/-! SETTLE: what names mean -/
def MB (T : Nat → Nat) (n : Nat) (m : hp_S) (t y : Nat) (x : Int32) : Prop := (x = nM ∧ ∀ c, c < y → ¬ bnd T n m c t) ∨ ∃ b, b < y ∧ x = nI b ∧ bnd T n m b t ∧ ∀ c, c < y → bnd T n m c t → sf m c ≤ sf m b
/-- what the loops know of the reader's end -/
def SQ (T : Nat → Nat) (n K : Nat) (m : hp_S) (q : Nat) : Prop := TK T n K ∧ M_tx m T n ∧ q ≤ 100 ∧ (∀ j, j < q → hs_A m 10 j = nI (fj m j) ∧ fj m j < K) ∧ (∀ t, t < K → m34 T n m t) ∧ (∀ j, j < q → isB m j → ∃ a b, hs_A m 12 j = nI a ∧ hs_A m 13 j = nI b ∧ a ≤ 500 ∧ b ≤ 500 ∧ hs_A m 11 j = nI (fj m j + 1) ∧ fj m j + 1 < K ∧ hs_A m 5 (a - 1) = nI j) ∧ ∀ j, j < q → ∃ k, k < 40 ∧ hs_A m 6 j = nI k
theorem SQ_of {T : Nat → Nat} {n K : Nat} {s m : hp_S} {q v : Nat} (h : RD T n K s m q v) : SQ T n K m q := by
  obtain ⟨hP, hU, hS, hN, hv, h9, h56⟩ := h
  have hK := hP.1.2.2.1
  refine ⟨TK_of hP.1, hP.2.1, hP.2.2.2.1, fun j hj => ⟨(hP.2.2.2.2.2.2.1 j hj).1, (hP.2.2.2.2.2.2.1 j hj).2.1⟩, fun t ht => ⟨(hP.2.2.2.2.2.2.2 t ht).2.1, (hP.2.2.2.2.2.2.2 t ht).2.2.1⟩, fun j hj hb => ?_, fun j hj => ?_⟩
  · obtain ⟨-, -, -, -, x5⟩ := hS.2.2.2.2.1 j (by omega) hj
    obtain ⟨a, b, b1, b2, b3, b4, b5, b6, b7⟩ := x5 hb
    exact ⟨a, b, b1, b2, by omega, by omega, b6, by omega, b7⟩
  · obtain ⟨-, -, -, ⟨k, k1, -, k3⟩, -⟩ := hP.2.2.2.2.2.2.1 j hj
    refine ⟨kn k, ?_, k3⟩
    simp only [nk, List.mem_cons, List.not_mem_nil, or_false] at k1
    rcases k1 with rfl | rfl | rfl | rfl | rfl | rfl | rfl | rfl | rfl | rfl | rfl | rfl | rfl | rfl <;> decide
