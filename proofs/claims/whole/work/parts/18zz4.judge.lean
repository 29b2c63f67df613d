/-! JUDGE -/
theorem nu_fr {m m' : hp_S} {q j : Nat} (h : ∀ i, hs_A m' 10 i = hs_A m 10 i) : nu m' q j = nu m q j := by
  have e : ∀ i, fj m' i = fj m i := fun i => by simp only [fj, h]
  unfold nu
  rw [e, bl_congr _ q (fun i _ => e i)]
theorem pb_u {α β γ : Type} (a : α) (b : β) (f : α → β → Option γ) : pm_bd (some (a, b)) f = f a b := rfl
theorem b1_u {α γ : Type} (a : α) (f : α → Option γ) : pm_b1 (some a) f = f a := rfl
theorem pu_judge (j : Nat) (sC sM : hp_S) (h : rl_Inv j sC sM) : ∃ r tC tM, (∃ n, f_C_X10_judge_0 n sC = some (r, tC)) ∧ (∃ n, f_M_X11_judge_0 n sM = some (r, tM)) ∧ rl_Inv (j + 1) tC tM := by
  obtain ⟨G, hG⟩ : ∃ G, 200000 ≤ G := ⟨200000, Nat.le_refl _⟩
  obtain ⟨T, n, K, s, m, a1, a2, XT, XM, ⟨p11, p12, p6, p7, p5⟩, ⟨s10, s11, s12, s13, s391, s392, s42⟩, m1, m4, m46, m32, m49⟩ := START (G := G) h.1 (by omega)
  -- it is enough to know how both answer
  suffices hh : ∃ r s' m' F, 1100 ≤ F ∧ f_C_X10_answerForTokens_0 G s = some (r, s') ∧ mRest F m = some (r, m') ∧ rl_Inv (j + 1) (hs_pI s' 1 1 (nI 0)) m' by
    obtain ⟨r, s', m', F, b1, b2, b3, b4⟩ := hh
    refine ⟨r, hs_pI s' 1 1 (nI 0), m', ⟨G, ?_⟩, ⟨F + 1 + n, ?_⟩, b4⟩
    · rw [a1, b2]
      rfl
    · rw [a2 F b1]
      exact b3
  obtain ⟨b, s1, y, m', c1, ⟨N, c2⟩, f1, g1, cc⟩ := PARSE (k := G) (by omega) XT XM p11 p12 p6 p7 p5
  obtain ⟨F, hF⟩ : ∃ F, F = N + 200000 := ⟨_, rfl⟩
  have c2' := c2 F (by omega)
  have O1 : OU s1 m' 0 := ⟨by omega, by rw [f1.1 _ _ (by decide)]; exact s391, by rw [f1.1 _ _ (by decide)]; exact s392, by rw [g1.1 _ _ (by decide)]; exact m46, fun j hj => by omega⟩
  have XT1 := C_T_fr XT f1 (by decide)
  have h10 : hs_I s1 0 10 = nM := by rw [f1.1 _ _ (by decide)]; exact s10
  have h11 : hs_I s1 0 11 = nI 0 := by rw [f1.1 _ _ (by decide)]; exact s11
  have h12 : hs_I s1 0 12 = nI 0 := by rw [f1.1 _ _ (by decide)]; exact s12
  have h13 : hs_I s1 0 13 = nI 0 := by rw [f1.1 _ _ (by decide)]; exact s13
  have h42 : ∀ j, j < 100 → hs_A s1 42 j = nI 0 := fun j hj => by rw [f1.2 42 (by decide)]; exact s42 j hj
  have k1 : hs_I m' 0 1 = nI 0 := by rw [g1.1 _ _ (by decide)]; exact m1
  have k32 : hs_I m' 0 32 = nI 0 := by rw [g1.1 _ _ (by decide)]; exact m32
  have k49 : hs_I m' 0 49 = nI 0 := by rw [g1.1 _ _ (by decide)]; exact m49
  rcases cc with ⟨rfl, c50, t, c3, c4, c5⟩ | ⟨rfl, c50, c7, q, v, hRD, rfl⟩
  · -- refused
    have st : f_C_X6_start_3 (nI t) s1 = some (nI (tk_p T n t), s1) := by
      by_cases e : t = K
      · rw [e]; exact C_st3n XT1
      · exact (C_st3 XT1 (by omega)).1
    refine ⟨-1, hs_pI s1 0 10 (nI (tk_p T n t)), hs_pI m' 0 12 (nI 0), F, by omega, ?_, ?_, ?_⟩
    · unfold f_C_X10_answerForTokens_0 f_C_X4_refusedToken_7 f_C_X10_fault_0
      rw [c1]
      simp only [pm_bd]
      rw [if_pos (show nI 0 = (0 : Int32) from rfl), c4, st]
      rfl
    · unfold mRest
      rw [c2']
      simp only [pm_bd]
      rw [c50, if_neg (show ¬ nI 1 = (0 : Int32) by decide)]
      rfl
    · refine rl_mk (w := 0) (q := 0) (OU_fr (P := [(0, 10)]) (L := []) (P' := [(0, 12)]) (L' := []) O1 (hs_fr_pI (by decide)) (hs_fr_pI (by decide)) (by decide) (by decide)) ?_ ?_ (by omega) ?_ ?_ ?_ (Or.inl ⟨?_, ?_, fun j hj => by omega⟩)
      · simp only [hs_I_pI, hs_I_pA, hs_A_pI, hs_A_pA, and_true, true_and, and_false, false_and, and_self, eq_self, Nat.reduceEqDiff, ↓reduceIte]; exact c5.symm
      · simp only [hs_I_pI, hs_I_pA, hs_A_pI, hs_A_pA, and_true, true_and, and_false, false_and, and_self, eq_self, Nat.reduceEqDiff, ↓reduceIte]; rw [h13, k32]
      · simp only [hs_I_pI, hs_I_pA, hs_A_pI, hs_A_pA, and_true, true_and, and_false, false_and, and_self, eq_self, Nat.reduceEqDiff, ↓reduceIte]; exact h11
      · simp only [hs_I_pI, hs_I_pA, hs_A_pI, hs_A_pA, and_true, true_and, and_false, false_and, and_self, eq_self, Nat.reduceEqDiff, ↓reduceIte]
      · simp only [hs_I_pI, hs_I_pA, hs_A_pI, hs_A_pA, and_true, true_and, and_false, false_and, and_self, eq_self, Nat.reduceEqDiff, ↓reduceIte]; exact k1
      · simp only [hs_I_pI, hs_I_pA, hs_A_pI, hs_A_pA, and_true, true_and, and_false, false_and, and_self, eq_self, Nat.reduceEqDiff, ↓reduceIte]; exact k49
      · simp only [hs_I_pI, hs_I_pA, hs_A_pI, hs_A_pA, and_true, true_and, and_false, false_and, and_self, eq_self, Nat.reduceEqDiff, ↓reduceIte]; exact h12
  · -- read
    have pl : hs_I m' 0 4 = nM := by rw [PLACE c2' c50]; exact m4
    have PQ0 := hRD.1
    obtain ⟨-, -, -, hq, -, ⟨z11, z12, -⟩, -, how⟩ := id PQ0
    have vq : v < q := hRD.2.2.2.2.1
    obtain ⟨s2, d1, TC0⟩ := GATHER hRD
    have f2 := TC0.1
    obtain ⟨y, m2, e1, g2, ee⟩ := SETTLE hRD TC0
    obtain ⟨s3, hs3⟩ : ∃ s3, s3 = hs_pI s2 0 11 (nI q) := ⟨_, rfl⟩
    have f3 : hs_fr [(0, 11)] [] s2 s3 := by rw [hs3]; exact hs_fr_pI (by decide)
    have F3 : hs_fr [(0, 11), (16, 4), (16, 5)] [18, 19, 20, 21, 22, 23, 24, 25] s1 s3 := (f2.mono (by decide) (by decide)).cons (f3.mono (by decide) (by simp))
    have g2' : hs_fr [] [6, 16, 17, 18, 19] m' m2 := g2
    have XT3 := C_T_fr XT1 F3 (by decide)
    have r10 : hs_I s3 0 10 = nM := by rw [F3.1 _ _ (by decide)]; exact h10
    have r11 : hs_I s3 0 11 = nI q := by rw [hs3]; simp only [hs_I_pI, hs_I_pA, hs_A_pI, hs_A_pA, and_true, true_and, and_false, false_and, and_self, eq_self, Nat.reduceEqDiff, ↓reduceIte]
    have r12 : hs_I s3 0 12 = nI 0 := by rw [F3.1 _ _ (by decide)]; exact h12
    have r13 : hs_I s3 0 13 = nI 0 := by rw [F3.1 _ _ (by decide)]; exact h13
    have r42 : ∀ j, j < 100 → hs_A s3 42 j = nI 0 := fun j hj => by rw [F3.2 42 (by decide)]; exact h42 j hj
    have O3 : OU s3 m2 0 := OU_fr O1 F3 g2' (by decide) (by decide)
    have e2 := e1 F (by omega)
    have d2 := d1 G (by omega)
    have k8 : hs_I s3 7 8 = hs_I s1 7 8 := F3.1 _ _ (by decide)
    -- both behind the name check
    have ans : f_C_X10_answerForTokens_0 G s = (if hs_I s1 7 8 = (-1 : Int32) then pm_bd (f_C_X1_unfold_26 G s3) (fun x10 t9 => if x10 = 0 then pm_bd (f_C_X5_length_1 t9) (fun x26 t25 => pm_bd (f_C_X10_fault_0 (-3 : Int32) x26 t25) (fun x28 t27 => some (x28, t27))) else pm_bd (f_C_X1_variables_26 t9) (fun x12 t11 => pm_let (hs_pI t11 0 13 x12) (fun t13 => cFine G t13))) else pm_bd (f_C_X6_start_3 (hs_I s1 7 8) s3) (fun x32 t31 => pm_bd (f_C_X10_fault_0 (-2 : Int32) x32 t31) (fun x34 t33 => some (x34, t33)))) := by
      unfold f_C_X10_answerForTokens_0 f_C_X4_unknownName_7 f_C_X7_size_16
      rw [c1]
      simp only [pb_u]
      rw [if_neg (show ¬ nI 1 = (0 : Int32) by decide), d2]
      simp only [b1_u, pl_u, cFine]
      rw [TC0.2.1, ← hs3, k8]
    have rest : mRest F m = (if y < 0 then pm_bd (f_M_X11_expand_0 F m2) (fun x17 t16 => if x17 = 0 then pm_let (hs_pI t16 0 32 (0 : Int32)) (fun t34 => pm_let (hs_pI t34 0 4 (hs_I t34 0 3)) (fun t35 => some ((-3 : Int32), t35))) else l_M_X11_judge_0_146 F (nI v) (0 : Int32) t16) else pm_let (hs_pI m2 0 4 y) (fun t36 => some ((-2 : Int32), t36))) := by
      unfold mRest
      rw [c2']
      simp only [pm_bd]
      rw [c50, if_pos (show nI 0 = (0 : Int32) from rfl), e2]
    rw [ans]
    rcases ee with ⟨t, ht, hy, h8⟩ | ⟨hy, h8, kd, mn, be, nd', fb, ch, hTR, hnd⟩
    · -- an unknown name
      have tp := tk_p_le T n t
      have hn := XT.1.2.1
      have hK := XT.2.2.1
      refine ⟨-2, hs_pI s3 0 10 (nI (tk_p T n t)), hs_pI m2 0 4 (nI (tk_p T n t)), F, by omega, ?_, ?_, ?_⟩
      · rw [h8, if_neg (show ¬ nI t = (-1 : Int32) by
          intro q
          have q' : nI t = nM := q
          rw [z_em (by omega)] at q'
          exact q'), (C_st3 XT3 ht).1]
        rfl
      · rw [rest, hy, if_neg (show ¬ nI (tk_p T n t) < (0 : Int32) by rw [show (0 : Int32) = nI 0 from rfl, z_lt (by omega) (by omega)]; omega)]
        rfl
      · refine rl_mk (w := 0) (q := q) (OU_fr (P := [(0, 10)]) (L := []) (P' := [(0, 4)]) (L' := []) O3 (hs_fr_pI (by decide)) (hs_fr_pI (by decide)) (by decide) (by decide)) ?_ ?_ hq ?_ ?_ ?_ (Or.inl ⟨?_, ?_, fun j hj => ?_⟩)
        · simp only [hs_I_pI, hs_I_pA, hs_A_pI, hs_A_pA, and_true, true_and, and_false, false_and, and_self, eq_self, Nat.reduceEqDiff, ↓reduceIte]
        · simp only [hs_I_pI, hs_I_pA, hs_A_pI, hs_A_pA, and_true, true_and, and_false, false_and, and_self, eq_self, Nat.reduceEqDiff, ↓reduceIte]; rw [r13, g2'.1 _ _ (by simp), k32]
        · simp only [hs_I_pI, hs_I_pA, hs_A_pI, hs_A_pA, and_true, true_and, and_false, false_and, and_self, eq_self, Nat.reduceEqDiff, ↓reduceIte]; exact r11
        · simp only [hs_I_pI, hs_I_pA, hs_A_pI, hs_A_pA, and_true, true_and, and_false, false_and, and_self, eq_self, Nat.reduceEqDiff, ↓reduceIte]; rw [g2'.1 _ _ (by simp)]; exact z12
        · simp only [hs_I_pI, hs_I_pA, hs_A_pI, hs_A_pA, and_true, true_and, and_false, false_and, and_self, eq_self, Nat.reduceEqDiff, ↓reduceIte]; rw [g2'.1 _ _ (by simp)]; exact k1
        · simp only [hs_I_pI, hs_I_pA, hs_A_pI, hs_A_pA, and_true, true_and, and_false, false_and, and_self, eq_self, Nat.reduceEqDiff, ↓reduceIte]; rw [g2'.1 _ _ (by simp)]; exact k49
        · simp only [hs_I_pI, hs_I_pA, hs_A_pI, hs_A_pA, and_true, true_and, and_false, false_and, and_self, eq_self, Nat.reduceEqDiff, ↓reduceIte]; exact r12
        · simp only [hs_I_pI, hs_I_pA, hs_A_pI, hs_A_pA, and_true, true_and, and_false, false_and, and_self, eq_self, Nat.reduceEqDiff, ↓reduceIte]; exact r42 j (by omega)
    · -- all names are known
      obtain ⟨t, htt⟩ : ∃ t : TT, t = (q, kd, mn, be, nd', fb, ch) := ⟨_, rfl⟩
      have hTt : TRt s2 m2 t := by rw [htt]; exact hTR
      have tqe : tq t = q := by rw [htt]; rfl
      have tnde : tnd t = nd' := by rw [htt]; rfl
      have hT3 : TRt s3 m2 t := TRt_fr hTt f3 (hs_fr.rf (s := m2) (P := []) (As := [])) (by decide) (by decide)
      have nuv : nu m2 q v = nu m' q v := nu_fr (fun i => g2'.2 10 (by decide) i)
      have wsp : WSp s3 m2 T n K q := by
        refine ⟨XT3, M_tx_fr PQ0.2.1 g2' (by decide), hq, r11, by rw [g2'.1 _ _ (by simp)]; exact z11, fun u hu => ?_⟩
        obtain ⟨-, w3, w4, -⟩ := how u hu
        refine ⟨by rw [g2'.2 3 (by decide)]; exact w3, by rw [g2'.2 4 (by decide)]; exact w4, ?_⟩
        rw [g2'.2 5 (by decide), f3.2 25 (by simp)]
        rcases TC0.2.2.2.1 u hu with ⟨x1, x2⟩ | ⟨a, x1, x2, x3⟩
        · exact Or.inl ⟨x1, x2⟩
        · have na := nu_fr (m := m') (m' := m2) (q := q) (j := a) (fun i => g2'.2 10 (by decide) i)
          have lt : nu m' q a < q := nu_lt x1
          have b1 := (hTR.2.2.2.2.2.2.2.2.1 a x1).2.2
          rw [na] at b1
          have b2 := (hTR.2.2.2.1 (nu m' q a) lt).2.2.2.2.1
          rw [b1] at b2
          exact Or.inr ⟨a, nu m' q a, x1, lt, x2, x3, b2⟩
      obtain ⟨b, s4, m5, u1, u2, f4, g4, ub⟩ := UNFOLD hT3
      have u1' := u1 G (by omega)
      have u2' := u2 F (by omega)
      have wsp4 := WSp_fr wsp f4 g4 (by decide) (by decide)
      have O4 : OU s4 m5 0 := OU_fr O3 f4 g4 (by decide) (by decide)
      rw [h8, if_pos (show nM = (-1 : Int32) from rfl), u1']
      simp only [pm_bd]
      have rest2 : mRest F m = (if nI b = (0 : Int32) then pm_let (hs_pI m5 0 32 (0 : Int32)) (fun t34 => pm_let (hs_pI t34 0 4 (hs_I t34 0 3)) (fun t35 => some ((-3 : Int32), t35))) else l_M_X11_judge_0_146 F (nI v) (0 : Int32) m5) := by
        rw [rest, hy, if_pos (show nM < (0 : Int32) by decide), u2']
        rfl
      have q10 : hs_I s4 0 10 = nM := by rw [f4.1 _ _ (by decide)]; exact r10
      have q12 : hs_I s4 0 12 = nI 0 := by rw [f4.1 _ _ (by decide)]; exact r12
      have q13 : hs_I s4 0 13 = nI 0 := by rw [f4.1 _ _ (by decide)]; exact r13
      have q42 : ∀ j, j < 100 → hs_A s4 42 j = nI 0 := fun j hj => by rw [f4.2 42 (by decide)]; exact r42 j hj
      have i1 : hs_I m5 0 1 = nI 0 := by rw [g4.1 _ _ (by decide), g2'.1 _ _ (by simp)]; exact k1
      have i4 : hs_I m5 0 4 = nM := by rw [g4.1 _ _ (by decide), g2'.1 _ _ (by simp)]; exact pl
      have i12 : hs_I m5 0 12 = nI q := by rw [g4.1 _ _ (by decide), g2'.1 _ _ (by simp)]; exact z12
      have i49 : hs_I m5 0 49 = nI 0 := by rw [g4.1 _ _ (by decide), g2'.1 _ _ (by simp)]; exact k49
      rcases ub with rfl | ⟨rfl, g, z, V, hUD⟩
      · -- no room
        rw [if_pos (show nI 0 = (0 : Int32) from rfl)] at rest2 ⊢
        have l1 : hs_I s4 1 1 = nI n := wsp4.1.1.1
        have l3 : hs_I m5 0 3 = nI n := wsp4.2.1.1
        refine ⟨-3, hs_pI s4 0 10 (nI n), hs_pI (hs_pI m5 0 32 (nI 0)) 0 4 (nI n), F, by omega, ?_, ?_, ?_⟩
        · unfold f_C_X5_length_1 f_C_X10_fault_0
          rw [l1]
          rfl
        · rw [rest2, pl_u, pl_u]
          have l3' : hs_I (hs_pI m5 0 32 0) 0 3 = nI n := by simp only [hs_I_pI, hs_I_pA, hs_A_pI, hs_A_pA, and_true, true_and, and_false, false_and, and_self, eq_self, Nat.reduceEqDiff, ↓reduceIte]; exact l3
          rw [l3']
          rfl
        · refine rl_mk (w := 0) (q := q) (OU_fr (P := [(0, 10)]) (L := []) (P' := [(0, 4), (0, 32)]) (L' := []) O4 (hs_fr_pI (by decide)) ((hs_fr_pI (by decide)).cons (hs_fr_pI (by decide))) (by decide) (by decide)) ?_ ?_ hq ?_ ?_ ?_ (Or.inl ⟨?_, ?_, fun j hj => ?_⟩)
          · simp only [hs_I_pI, hs_I_pA, hs_A_pI, hs_A_pA, and_true, true_and, and_false, false_and, and_self, eq_self, Nat.reduceEqDiff, ↓reduceIte]
          · simp only [hs_I_pI, hs_I_pA, hs_A_pI, hs_A_pA, and_true, true_and, and_false, false_and, and_self, eq_self, Nat.reduceEqDiff, ↓reduceIte]; exact q13
          · simp only [hs_I_pI, hs_I_pA, hs_A_pI, hs_A_pA, and_true, true_and, and_false, false_and, and_self, eq_self, Nat.reduceEqDiff, ↓reduceIte]; exact wsp4.2.2.2.1
          · simp only [hs_I_pI, hs_I_pA, hs_A_pI, hs_A_pA, and_true, true_and, and_false, false_and, and_self, eq_self, Nat.reduceEqDiff, ↓reduceIte]; exact i12
          · simp only [hs_I_pI, hs_I_pA, hs_A_pI, hs_A_pA, and_true, true_and, and_false, false_and, and_self, eq_self, Nat.reduceEqDiff, ↓reduceIte]; exact i1
          · simp only [hs_I_pI, hs_I_pA, hs_A_pI, hs_A_pA, and_true, true_and, and_false, false_and, and_self, eq_self, Nat.reduceEqDiff, ↓reduceIte]; exact i49
          · simp only [hs_I_pI, hs_I_pA, hs_A_pI, hs_A_pA, and_true, true_and, and_false, false_and, and_self, eq_self, Nat.reduceEqDiff, ↓reduceIte]; exact q12
          · simp only [hs_I_pI, hs_I_pA, hs_A_pI, hs_A_pA, and_true, true_and, and_false, false_and, and_self, eq_self, Nat.reduceEqDiff, ↓reduceIte]; exact q42 j (by omega)
      · -- copies
        rw [if_neg (show ¬ nI 1 = (0 : Int32) by decide)] at rest2 ⊢
        obtain ⟨s5, hs5⟩ : ∃ s5, s5 = hs_pI s4 0 13 (nI V) := ⟨_, rfl⟩
        have f5 : hs_fr [(0, 13)] [] s4 s5 := by rw [hs5]; exact hs_fr_pI (by decide)
        have rm : hs_fr [] [] m5 m5 := hs_fr.rf
        have U5 := UD_fr2 hUD (f5.mono (by decide) (by simp)) (rm.mono (by simp) (by simp))
        have wsp5 := WSp_fr wsp4 f5 rm (by decide) (by decide)
        have v7 : hs_I s4 26 7 = nI V := hUD.2.1.2.1.2.1
        have rt : hs_I s5 16 5 = nI (nu m' q v) := by
          rw [f5.1 _ _ (by decide), f4.1 _ _ (by decide), f3.1 _ _ (by decide)]
          exact TC0.2.2.1
        obtain ⟨r, s6, m6, w1, w2, w3⟩ := J_fine (T := T) (n := n) (K := K) (k0 := nu m' q v) (v := v) (G := G) (F := F) (j := j + 1) U5 (by rw [tqe]; exact wsp5) (OU_fr O4 f5 rm (by decide) (by decide)) (by rw [f5.1 _ _ (by decide), q10, i4]) (by rw [hs5]; simp only [hs_I_pI, hs_I_pA, hs_A_pI, hs_A_pA, and_true, true_and, and_false, false_and, and_self, eq_self, Nat.reduceEqDiff, ↓reduceIte]) (by rw [f5.1 _ _ (by decide)]; exact q12) i1 i49 (fun j hj => by rw [f5.2 42 (by simp)]; exact q42 j hj) rt (by rw [tqe]; exact nu_lt vq) (by rw [tnde]; exact hnd) hG (by omega)
        refine ⟨r, s6, m6, F, by omega, ?_, ?_, w3⟩
        · unfold f_C_X1_variables_26
          rw [v7]
          simp only [pm_bd, pl_u]
          rw [← hs5]
          exact w1
        · rw [rest2]
          exact w2
theorem rl_0 : rl_Inv 0 s0_C s0_M := by
  refine ⟨⟨0, by omega, rfl, rfl, fun j hj => by omega⟩, ⟨0, 0, by omega, rfl, rfl, rfl, fun j hj => by omega⟩, rfl, rfl, 0, by omega, rfl, rfl, Or.inl ⟨rfl, rfl, fun j hj => by omega⟩⟩
theorem pu_main : ∃ Inv, pu_ok 64 Inv :=
  ⟨rl_Inv, rl_0, fun j sC sM v k _ h => pu_put j sC sM v k h, fun j sC sM _ h => pu_judge j sC sM h, fun j sC sM _ h => pu_place j sC sM h, fun j sC sM k _ h => pu_isIn j sC sM k h, fun j sC sM _ h => pu_fetch j sC sM h, fun j sC sM k _ h => pu_count j sC sM k h, fun j sC sM _ h => h⟩
