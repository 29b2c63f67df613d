/-! JUDGE: its beginning -/
def cFin (x : Option (Int32 × hp_S)) : Option (Int32 × hp_S) := pm_bd x (fun x4 t3 => pm_b1 (f_C_X5_clear_1 t3) (fun t5 => some (x4, t5)))
def mRest (n : Nat) (t11 : hp_S) : Option (Int32 × hp_S) :=
  pm_bd (f_M_X11_parse_0 n t11) (fun x13 t12 =>
      if (hs_I t12 0 50) = 0 then
        pm_bd (f_M_X11_settle_0 n t12) (fun x15 t14 =>
        if x15 < 0 then
          pm_bd (f_M_X11_expand_0 n t14) (fun x17 t16 =>
          if x17 = 0 then
            pm_let (hs_pI t16 0 32 (0 : Int32)) (fun t34 =>
            pm_let (hs_pI t34 0 4 (hs_I t34 0 3)) (fun t35 =>
            some ((-3 : Int32), t35)))
          else
            l_M_X11_judge_0_146 n x13 (0 : Int32) t16)
        else
          pm_let (hs_pI t14 0 4 x15) (fun t36 =>
          some ((-2 : Int32), t36)))
      else
        pm_let (hs_pI t12 0 12 (0 : Int32)) (fun t37 =>
        some ((-1 : Int32), t37)))
def bP : List (Nat × Nat) := [(0, 10), (0, 11), (0, 12), (0, 13), (39, 1), (39, 2)]
theorem C_frg : ∀ (d k : Nat) (s : hp_S), k + d = 100 → (∀ j, j < k → hs_A s 42 j = nI 0) → ∃ s', (∀ G, d + 1 ≤ G → l_C_X10_forgetLastText_0_22 G (nI k) s = some s') ∧ hs_fr [(39, 1), (39, 2)] [42] s s' ∧ hs_I s' 39 1 = nI 0 ∧ hs_I s' 39 2 = nI 0 ∧ ∀ j, j < 100 → hs_A s' 42 j = nI 0 := by
  intro d
  induction d with
  | zero =>
    intro k s hk h
    have : k = 100 := by omega
    subst this
    refine ⟨hs_pI (hs_pI s 39 1 (nI 0)) 39 2 (nI 0), fun G hG => ?_, (hs_fr_pI (by decide)).cons (hs_fr_pI (by decide)), by simp only [hs_I_pI, hs_I_pA, hs_A_pI, hs_A_pA, and_true, true_and, and_false, false_and, and_self, eq_self, Nat.reduceEqDiff, ↓reduceIte], by simp only [hs_I_pI, hs_I_pA, hs_A_pI, hs_A_pA, and_true, true_and, and_false, false_and, and_self, eq_self, Nat.reduceEqDiff, ↓reduceIte], fun j hj => by simp only [hs_I_pI, hs_I_pA, hs_A_pI, hs_A_pA, and_true, true_and, and_false, false_and, and_self, eq_self, Nat.reduceEqDiff, ↓reduceIte]; exact h j hj⟩
    obtain ⟨G, rfl⟩ : ∃ z, G = z + 1 := ⟨G - 1, by omega⟩
    rw [l_C_X10_forgetLastText_0_22.eq_2, if_pos (by decide)]
    rfl
  | succ d ih =>
    intro k s hk h
    have f : hs_fr [(39, 1), (39, 2)] [42] s (hs_pA s 42 k (nI 0)) := hs_fr_pA (by decide)
    obtain ⟨s', a1, a2, a3⟩ := ih (k + 1) (hs_pA s 42 k (nI 0)) (by omega) (by
      intro j hj
      by_cases e : j = k
      · subst e; simp only [hs_I_pI, hs_I_pA, hs_A_pI, hs_A_pA, and_true, true_and, and_false, false_and, and_self, eq_self, Nat.reduceEqDiff, ↓reduceIte]
      · simp only [hs_I_pI, hs_I_pA, hs_A_pI, hs_A_pA, and_true, true_and, and_false, false_and, and_self, eq_self, Nat.reduceEqDiff, ↓reduceIte, e]; exact h j (by omega))
    refine ⟨s', fun G hG => ?_, f.cons a2, a3⟩
    obtain ⟨G, rfl⟩ : ∃ z, G = z + 1 := ⟨G - 1, by omega⟩
    have e1 : nI k + (1 : Int32) = nI (k + 1) := by simp (disch := omega) only [↓reduceIte, z_lit, z_m1, z_gd, z_le, z_lt, z_eq, z_em, z_me, z_ml, z_mle, z_lm, z_lem, z_pos, z_sub, nI_add, nI_clamp, ib_nI, pm_let, pm_bd, pm_b1, if_true, if_false, ite_true, ite_false, Nat.not_lt_zero, Nat.zero_le]
    rw [l_C_X10_forgetLastText_0_22.eq_2, if_neg (show ¬ (100 : Int32) ≤ nI k by rw [show (100 : Int32) = nI 100 from rfl, z_le (by omega) (by omega)]; omega), show pm_ib (nI k) 100 = true from ib_nI (by omega) (by omega), z_gd, nI_clamp (by omega), pl_u, pl_u, e1]
    exact a1 G (by omega)
theorem C_forget {s : hp_S} {G : Nat} (hG : 200 ≤ G) : ∃ s', f_C_X10_forgetLastText_0 G s = some s' ∧ hs_fr bP [42] s s' ∧ hs_I s' 0 10 = nM ∧ hs_I s' 0 11 = nI 0 ∧ hs_I s' 0 12 = nI 0 ∧ hs_I s' 0 13 = nI 0 ∧ hs_I s' 39 1 = nI 0 ∧ hs_I s' 39 2 = nI 0 ∧ ∀ j, j < 100 → hs_A s' 42 j = nI 0 := by
  obtain ⟨s1, hs1⟩ : ∃ s1, s1 = hs_pI (hs_pI (hs_pI (hs_pI s 0 10 nM) 0 11 (nI 0)) 0 12 (nI 0)) 0 13 (nI 0) := ⟨_, rfl⟩
  have f : hs_fr bP [42] s s1 := by rw [hs1]; exact (((hs_fr_pI (by decide)).cons (hs_fr_pI (by decide))).cons (hs_fr_pI (by decide))).cons (hs_fr_pI (by decide))
  obtain ⟨s', a1, a2, a3, a4, a5⟩ := C_frg 100 0 s1 (by omega) (fun j hj => by omega)
  refine ⟨s', ?_, f.cons (a2.mono (by decide) (by decide)), ?_, ?_, ?_, ?_, a3, a4, a5⟩
  · unfold f_C_X10_forgetLastText_0
    rw [pl_u, pl_u, pl_u, pl_u]
    have := a1 G (by omega)
    rw [hs1] at this
    exact this
  all_goals
    rw [a2.1 _ _ (by decide), hs1]
    simp only [hs_I_pI, hs_I_pA, hs_A_pI, hs_A_pA, and_true, true_and, and_false, false_and, and_self, eq_self, Nat.reduceEqDiff, ↓reduceIte]
theorem M_cp2 {n : Nat} (hn : n ≤ 500) : ∀ (d p : Nat) (m : hp_S), p + d = n → hs_I m 0 1 = nI n → (∀ j, j < n → (hs_A m 1 j).toInt8.toInt32 = hs_A m 1 j) → (∀ j, j < p → hs_A m 2 j = hs_A m 1 j) → ∃ m', (∀ G, l_M_X11_judge_0_2 (G + d) (nI p) m = l_M_X11_judge_0_2 G (nI n) m') ∧ hs_fr [] [2] m m' ∧ ∀ j, j < n → hs_A m' 2 j = hs_A m 1 j := by
  intro d
  induction d with
  | zero =>
    intro p m hp h1 hb h
    have : p = n := by omega
    subst this
    exact ⟨m, fun G => rfl, hs_fr.rf, h⟩
  | succ d ih =>
    intro p m hp h1 hb h
    have f : hs_fr [] [2] m (hs_pA m 2 p (hs_A m 1 p)) := hs_fr_pA (by decide)
    have f1 := f.2 1 (by decide)
    obtain ⟨m', a1, a2, a3⟩ := ih (p + 1) (hs_pA m 2 p (hs_A m 1 p)) (by omega) (by rw [f.1 _ _ (by decide)]; exact h1) (fun j hj => by rw [f1]; exact hb j hj) (by
      intro j hj
      by_cases e : j = p
      · subst e; simp only [hs_I_pI, hs_I_pA, hs_A_pI, hs_A_pA, and_true, true_and, and_false, false_and, and_self, eq_self, Nat.reduceEqDiff, ↓reduceIte]
      · simp only [hs_I_pI, hs_I_pA, hs_A_pI, hs_A_pA, and_true, true_and, and_false, false_and, and_self, eq_self, Nat.reduceEqDiff, ↓reduceIte, e]; exact h j (by omega))
    refine ⟨m', fun G => ?_, f.cons a2, fun j hj => by rw [a3 j hj, f1]⟩
    have e1 : nI p + (1 : Int32) = nI (p + 1) := by simp (disch := omega) only [↓reduceIte, z_lit, z_m1, z_gd, z_le, z_lt, z_eq, z_em, z_me, z_ml, z_mle, z_lm, z_lem, z_pos, z_sub, nI_add, nI_clamp, ib_nI, pm_let, pm_bd, pm_b1, if_true, if_false, ite_true, ite_false, Nat.not_lt_zero, Nat.zero_le]
    rw [← a1 G, show G + (d + 1) = (G + d) + 1 by omega, l_M_X11_judge_0_2.eq_2, h1, if_neg (show ¬ nI n ≤ nI p by rw [z_le (by omega) (by omega)]; omega), show pm_ib (nI p) 500 = true from ib_nI (by omega) (by omega), z_gd, z_gd, nI_clamp (by omega), nb_nar, hb p (by omega), pl_u, pl_u, e1]
def mQ : List (Nat × Nat) := [(0, 1), (0, 3), (0, 4), (0, 5), (0, 6), (0, 7), (0, 11), (0, 12), (0, 23), (0, 32), (0, 46), (0, 49)]
def mT (m : hp_S) (n : Nat) : hp_S := hs_pI (hs_pI (hs_pI (hs_pI (hs_pI (hs_pI (hs_pI (hs_pI (hs_pI (hs_pI m 0 3 (nI n)) 0 1 (nI 0)) 0 5 (nI 0)) 0 4 nM) 0 11 (nI 0)) 0 12 (nI 0)) 0 23 (nI 0)) 0 46 (nI 0)) 0 32 (nI 0)) 0 49 (nI 0)
theorem M_go {m : hp_S} {n G : Nat} (h1 : hs_I m 0 1 = nI n) : l_M_X11_judge_0_2 (G + 1) (nI n) m = pm_b1 (f_M_X11_look_0 G (mT m n)) (fun t11 => mRest G t11) := by
  rw [l_M_X11_judge_0_2.eq_2, h1, if_pos (Int32.le_refl _)]
  rfl
theorem START {sC sM : hp_S} (h : rl_tx sC sM) {G : Nat} (hG : 2000 ≤ G) : ∃ T n K s m, f_C_X10_judge_0 G sC = cFin (f_C_X10_answerForTokens_0 G s) ∧ (∀ F, 1100 ≤ F → f_M_X11_judge_0 (F + 1 + n) sM = mRest F m) ∧
    C_T s T n K ∧ M_tx m T n ∧ (hs_I m 0 11 = nI 0 ∧ hs_I m 0 12 = nI 0 ∧ hs_I m 0 6 = nI (k_M (tk_K T n K 0)) ∧ hs_I m 0 7 = nI (tk_p T n 0) ∧ (tk_K T n K 0 ≠ 1 → 0 < K → hs_I m 0 5 = nI (tk_e T n 0))) ∧
    (hs_I s 0 10 = nM ∧ hs_I s 0 11 = nI 0 ∧ hs_I s 0 12 = nI 0 ∧ hs_I s 0 13 = nI 0 ∧ hs_I s 39 1 = nI 0 ∧ hs_I s 39 2 = nI 0 ∧ ∀ j, j < 100 → hs_A s 42 j = nI 0) ∧
    hs_I m 0 1 = nI 0 ∧ hs_I m 0 4 = nM ∧ hs_I m 0 46 = nI 0 ∧ hs_I m 0 32 = nI 0 ∧ hs_I m 0 49 = nI 0 := by
  obtain ⟨n, hn, t1, t2, t3⟩ := h
  obtain ⟨T, hT⟩ : ∃ T : Nat → Nat, ∀ j, j < n → T j < 256 ∧ hs_A sC 2 j = sb_b (T j) := by
    refine ⟨fun j => (hs_A sC 2 j &&& 255).toNatClampNeg, fun j hj => ?_⟩
    obtain ⟨c, c1, c2⟩ := byte_of _ (t3 j hj).2
    dsimp only
    rw [c2, (byte_all c c1).1, nI_clamp (by omega)]
    exact ⟨c1, rfl⟩
  obtain ⟨s1, a1, a2, a3, a4, a5, a6, a7, a8, a9⟩ := C_forget (s := sC) (G := G) (by omega)
  have X1 : C_tx s1 T n := by
    refine ⟨by rw [a2.1 _ _ (by decide)]; exact t1, hn, fun j hj => ⟨(hT j hj).1, ?_⟩⟩
    rw [a2.2 2 (by decide), (hT j hj).2]
    exact (byte_all _ (hT j hj).1).1
  obtain ⟨s2, K, b1, b2, b3, b4⟩ := C_read (k := G) X1 (by omega)
  have X2 : C_tx s2 T n := C_tx_fr X1 b4 (by decide)
  have hK : K ≤ 500 := by
    by_cases c : K = 0
    · omega
    · have := (b2.2 (K - 1) (by omega)).1
      have := tk_p_big T n (K - 1) this
      omega
  have XT : C_T s2 T n K := ⟨X2, b2, hK, b3⟩
  obtain ⟨m1, c1, c2, c3⟩ := M_cp2 hn n 0 sM (by omega) t2 (fun j hj => by rw [← (t3 j hj).1]; exact (t3 j hj).2) (fun j hj => by omega)
  have MT : M_tx (mT m1 n) T n := by
    refine ⟨by simp only [mT, hs_I_pI, hs_I_pA, hs_A_pI, hs_A_pA, and_true, true_and, and_false, false_and, and_self, eq_self, Nat.reduceEqDiff, ↓reduceIte], hn, fun j hj => ⟨(hT j hj).1, ?_⟩⟩
    simp only [mT, hs_I_pI, hs_I_pA, hs_A_pI, hs_A_pA, and_true, true_and, and_false, false_and, and_self, eq_self, Nat.reduceEqDiff, ↓reduceIte]
    rw [c3 j hj, ← (t3 j hj).1]
    exact (hT j hj).2
  have hTK := TK_of XT
  refine ⟨T, n, K, s2, mL T n K (mT m1 n) 0 (nI (m_at T n (tk_p T n 0))), ?_, fun F hF => ?_, XT, ?_, ⟨?_, ?_, ?_, ?_, ?_⟩, ⟨?_, ?_, ?_, ?_, ?_, ?_, ?_⟩, ?_, ?_, ?_, ?_, ?_⟩
  · unfold f_C_X10_judge_0 cFin
    rw [a1]
    simp only [pm_b1, b1]
  · have lk : f_M_X11_look_0 F (mT m1 n) = some (mL T n K (mT m1 n) 0 (nI (m_at T n (tk_p T n 0)))) := by
      obtain ⟨u, q1, q2, q3⟩ := M_look (p := 0) MT (by simp only [mT, hs_I_pI, hs_I_pA, hs_A_pI, hs_A_pA, and_true, true_and, and_false, false_and, and_self, eq_self, Nat.reduceEqDiff, ↓reduceIte]) (by omega) (by omega : 2 * n + 20 ≤ F)
      have e0 : lx_to (lx_B T n) n 0 = tk_p T n 0 := rfl
      rw [e0] at q2
      rw [q1, hs_ext3 q3]
      congr 1
      unfold mL
      rw [q2.1, q2.2.1, q2.2.2, tk_K_M hTK (by omega)]
    have := c1 (F + 1)
    change l_M_X11_judge_0_2 (F + 1 + n) (nI 0) sM = _
    rw [this, M_go (by rw [c2.1 _ _ (by decide)]; exact t2), lk]
    rfl
  · exact M_tx_fr (P := [(0, 5), (0, 6), (0, 7)]) (A := []) MT ((hs_fr_pI (by decide)).cons ((hs_fr_pI (by decide)).cons (hs_fr_pI (by decide)))) (by decide)
  · simp only [mL, mT, hs_I_pI, hs_I_pA, hs_A_pI, hs_A_pA, and_true, true_and, and_false, false_and, and_self, eq_self, Nat.reduceEqDiff, ↓reduceIte]
  · simp only [mL, mT, hs_I_pI, hs_I_pA, hs_A_pI, hs_A_pA, and_true, true_and, and_false, false_and, and_self, eq_self, Nat.reduceEqDiff, ↓reduceIte]
  · simp only [mL, mT, hs_I_pI, hs_I_pA, hs_A_pI, hs_A_pA, and_true, true_and, and_false, false_and, and_self, eq_self, Nat.reduceEqDiff, ↓reduceIte]
  · simp only [mL, mT, hs_I_pI, hs_I_pA, hs_A_pI, hs_A_pA, and_true, true_and, and_false, false_and, and_self, eq_self, Nat.reduceEqDiff, ↓reduceIte]
  · intro g1 g2
    simp only [mL, mT, hs_I_pI, hs_I_pA, hs_A_pI, hs_A_pA, and_true, true_and, and_false, false_and, and_self, eq_self, Nat.reduceEqDiff, ↓reduceIte]
    have g3 := hTK.2.2.2.2 _ g2
    rw [← tk_K_M hTK (by omega), if_pos g3] at g1
    unfold m_at
    rw [if_pos g3]
    cases hD : lx_D T n (tk_p T n 0) with
    | true =>
      rw [if_pos rfl]
      rcases (lx_num g3 hD).2 with q | q
      · exact absurd q g1
      · rw [q]; rfl
    | false => rfl
  · rw [b4.1 _ _ (by decide)]; exact a3
  · rw [b4.1 _ _ (by decide)]; exact a4
  · rw [b4.1 _ _ (by decide)]; exact a5
  · rw [b4.1 _ _ (by decide)]; exact a6
  · rw [b4.1 _ _ (by decide)]; exact a7
  · rw [b4.1 _ _ (by decide)]; exact a8
  · intro j hj
    rw [b4.2 42 (by decide)]
    exact a9 j hj
  · simp only [mL, mT, hs_I_pI, hs_I_pA, hs_A_pI, hs_A_pA, and_true, true_and, and_false, false_and, and_self, eq_self, Nat.reduceEqDiff, ↓reduceIte]
  · simp only [mL, mT, hs_I_pI, hs_I_pA, hs_A_pI, hs_A_pA, and_true, true_and, and_false, false_and, and_self, eq_self, Nat.reduceEqDiff, ↓reduceIte]
  · simp only [mL, mT, hs_I_pI, hs_I_pA, hs_A_pI, hs_A_pA, and_true, true_and, and_false, false_and, and_self, eq_self, Nat.reduceEqDiff, ↓reduceIte]
  · simp only [mL, mT, hs_I_pI, hs_I_pA, hs_A_pI, hs_A_pA, and_true, true_and, and_false, false_and, and_self, eq_self, Nat.reduceEqDiff, ↓reduceIte]
  · simp only [mL, mT, hs_I_pI, hs_I_pA, hs_A_pI, hs_A_pA, and_true, true_and, and_false, false_and, and_self, eq_self, Nat.reduceEqDiff, ↓reduceIte]
