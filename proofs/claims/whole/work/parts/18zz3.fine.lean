/-! JUDGE: types, or a slice -/
theorem rl_mk {s m : hp_S} {w q j : Nat} (hO : OU s m w) (h10 : hs_I s 0 10 = hs_I m 0 4) (h13 : hs_I s 0 13 = hs_I m 0 32) (hq : q ≤ 100) (h11 : hs_I s 0 11 = nI q) (h12 : hs_I m 0 12 = nI q) (h1 : hs_I m 0 1 = nI 0) (h : (hs_I m 0 49 = nI 0 ∧ hs_I s 0 12 = nI 0 ∧ ∀ j, j < q → hs_A s 42 j = nI 0) ∨ ∃ f : Nat → Nat, hs_I m 0 49 = nI 1 ∧ hs_I s 0 12 = nI (ct f q) ∧ ∀ j, j < q → f j < 2 ∧ hs_A s 42 j = nI (f j) ∧ hs_A m 30 j = nI (f j)) : rl_Inv j (hs_pI s 1 1 (nI 0)) m := by
  obtain ⟨O1, O2, O3, O4, O5⟩ := hO
  refine ⟨⟨0, by omega, by simp only [hs_I_pI, hs_I_pA, hs_A_pI, hs_A_pA, and_true, true_and, and_false, false_and, and_self, eq_self, Nat.reduceEqDiff, ↓reduceIte], h1, fun j hj => by omega⟩, ⟨0, w, by omega, ?_, ?_, O4, fun j hj => ?_⟩, ?_, ?_, q, hq, ?_, h12, ?_⟩
  · simp only [hs_I_pI, hs_I_pA, hs_A_pI, hs_A_pA, and_true, true_and, and_false, false_and, and_self, eq_self, Nat.reduceEqDiff, ↓reduceIte, Nat.zero_add]; exact O2
  · simp only [hs_I_pI, hs_I_pA, hs_A_pI, hs_A_pA, and_true, true_and, and_false, false_and, and_self, eq_self, Nat.reduceEqDiff, ↓reduceIte]; exact O3
  · simp only [hs_I_pI, hs_I_pA, hs_A_pI, hs_A_pA, and_true, true_and, and_false, false_and, and_self, eq_self, Nat.reduceEqDiff, ↓reduceIte, Nat.zero_add]; exact O5 j hj
  · simp only [hs_I_pI, hs_I_pA, hs_A_pI, hs_A_pA, and_true, true_and, and_false, false_and, and_self, eq_self, Nat.reduceEqDiff, ↓reduceIte]; exact h10
  · simp only [hs_I_pI, hs_I_pA, hs_A_pI, hs_A_pA, and_true, true_and, and_false, false_and, and_self, eq_self, Nat.reduceEqDiff, ↓reduceIte]; exact h13
  · simp only [hs_I_pI, hs_I_pA, hs_A_pI, hs_A_pA, and_true, true_and, and_false, false_and, and_self, eq_self, Nat.reduceEqDiff, ↓reduceIte]; exact h11
  · simp only [hs_I_pI, hs_I_pA, hs_A_pI, hs_A_pA, and_true, true_and, and_false, false_and, and_self, eq_self, Nat.reduceEqDiff, ↓reduceIte]
    rcases h with ⟨a1, a2, a3⟩ | ⟨f, a1, a2, a3⟩
    · exact Or.inl ⟨a1, a2, a3⟩
    · refine Or.inr ⟨?_, ?_, fun j hj => ?_⟩
      · rw [a1]; decide
      · rw [a2, ct_nz q (fun j hj => ⟨(a3 j hj).1, (a3 j hj).2.2⟩)]
      · rw [(a3 j hj).2.1, (a3 j hj).2.2]
/-- what a slice is written from -/
def WSp (s m : hp_S) (T : Nat → Nat) (n K q : Nat) : Prop := C_T s T n K ∧ M_tx m T n ∧ q ≤ 100 ∧ hs_I s 0 11 = nI q ∧ hs_I m 0 11 = nI K ∧ (∀ t, t < K → hs_A m 3 t = nI (tk_p T n t) ∧ hs_A m 4 t = nI (tk_e T n t) ∧ ((hs_A m 5 t = nM ∧ hs_A s 25 t = nM) ∨ ∃ a i, a < q ∧ i < q ∧ hs_A m 5 t = nI a ∧ hs_A s 25 t = nI i ∧ hs_A m 16 a = nI i))
theorem WSp_fr {s m s' m' : hp_S} {T : Nat → Nat} {n K q : Nat} {P P' : List (Nat × Nat)} {A A' : List Nat} (h : WSp s m T n K q) (f : hs_fr P A s s') (f' : hs_fr P' A' m m') (g : ((1, 1) ∉ P ∧ 2 ∉ A) ∧ ((3, 4) ∉ P ∧ 4 ∉ A ∧ 5 ∉ A ∧ 6 ∉ A) ∧ (0, 11) ∉ P ∧ 25 ∉ A) (g' : ((0, 3) ∉ P' ∧ 2 ∉ A') ∧ (0, 11) ∉ P' ∧ 3 ∉ A' ∧ 4 ∉ A' ∧ 5 ∉ A' ∧ 16 ∉ A') : WSp s' m' T n K q := by
  obtain ⟨h1, h2, h3, h4, h5, h6⟩ := h
  refine ⟨C_T_fr h1 f ⟨g.1, g.2.1⟩, M_tx_fr h2 f' g'.1, h3, by rw [f.1 _ _ g.2.2.1]; exact h4, by rw [f'.1 _ _ g'.2.1]; exact h5, fun t ht => ?_⟩
  rw [f'.2 3 g'.2.2.1, f'.2 4 g'.2.2.2.1, f'.2 5 g'.2.2.2.2.1, f.2 25 g.2.2.2]
  simp only [f'.2 16 g'.2.2.2.2.2]
  exact h6 t ht
def cFine (n : Nat) (t13 : hp_S) : Option (Int32 × hp_S) :=
  pm_bd (f_C_X0_allFine_37 n t13) (fun x15 t14 =>
        if x15 = 0 then
          pm_bd (f_C_X0_cut_37_42 n t14) (fun x17 t16 =>
          pm_let (hs_pI t16 0 12 x17) (fun t18 =>
          pm_b1 (f_C_X10_writeSlice_0 n t18) (fun t19 =>
          some ((1 : Int32), t19))))
        else
          pm_bd (f_C_X7_root_16 t14) (fun x21 t20 =>
          pm_bd (f_C_X1_variable_26 (0 : Int32) x21 t20) (fun x23 t22 =>
          pm_b1 (f_C_X8_write_41 n x23 t22) (fun t24 =>
          some ((2 : Int32), t24)))))
theorem bl_b : ∀ b, b < 2 → pm_bl (nI b) = true := by decide +kernel
def zP : List (Nat × Nat) := [(0, 12), (31, 5), (31, 6), (31, 7), (39, 1), (41, 3), (41, 4)]
def zA : List Nat := [32, 33, 34, 35, 36, 38, 40, 42]
def zP' : List (Nat × Nat) := [(0, 37), (0, 40), (0, 41), (0, 46), (0, 48), (0, 49), (0, 57), (0, 58)]
def zA' : List Nat := [23, 24, 25, 26, 27, 28, 29, 30, 31, 32, 33]
theorem J_fine {s m : hp_S} {T : Nat → Nat} {n K : Nat} {t : TT} {g : GG} {z V k0 v G F j : Nat} (hU : UD s m t g z V) (hS : WSp s m T n K (tq t)) (hO : OU s m 0) (h10 : hs_I s 0 10 = hs_I m 0 4) (h13 : hs_I s 0 13 = nI V) (h12 : hs_I s 0 12 = nI 0) (h1 : hs_I m 0 1 = nI 0) (h49 : hs_I m 0 49 = nI 0) (h42 : ∀ j, j < 100 → hs_A s 42 j = nI 0) (h5 : hs_I s 16 5 = nI k0) (hk0 : k0 < tq t) (hv : tnd t k0 = v) (hG : 200000 ≤ G) (hF : 200000 ≤ F) : ∃ r s' m', cFine G s = some (r, s') ∧ l_M_X11_judge_0_146 F (nI v) (nI 0) m = some (r, m') ∧ rl_Inv j (hs_pI s' 1 1 (nI 0)) m' := by
  have hq := hU.1.1.2
  obtain ⟨s1, a1, f1, a3⟩ := C_all 100 0 s (by omega) (fun j hj => by omega)
  obtain ⟨m1, b1, g1, b3⟩ := M_all hq (nI v) (tq t) 0 m (by omega) hU.1.2.2.1 (fun j hj => by omega)
  have U1 := UD_fr2 hU (f1.mono (by simp) (by decide)) (g1.mono (by simp) (by decide))
  have C1 : CU s1 m1 (tq t) (fun _ => 1) := fun j hj => ⟨show (1 : Nat) < 2 by omega, a3 j (by omega), b3 j hj⟩
  obtain ⟨σ, τ, hP⟩ := PERM U1.1 U1.2.1
  obtain ⟨F3, hF3⟩ : ∃ F3, F = F3 + 1 + tq t := ⟨F - 1 - tq t, by omega⟩
  obtain ⟨b, s2, m2, c1, c2, c3, f2, g2, cJ⟩ := ISFINE (kf := G) (F := F3) U1 hP (CU_AC C1) (by omega) (by omega)
  have U2 := UD_fr U1 f2 g2
  have all : f_C_X0_allFine_37 G s = some (nI b, s2) := by
    unfold f_C_X0_allFine_37 f_C_X0_chooseAll_37
    have a1' : l_C_X0_chooseAll_37_2 G 0 s = some s1 := a1 G (by omega)
    simp only [a1', pm_b1, c1, pm_bd]
    rw [bl_b b c3, z_gd]
  have hV : hs_I m2 0 32 = nI V := U2.2.1.2.1.2.2.2
  have F2 : hs_fr zP zA s s2 := (f1.mono (by simp) (by decide)).cons (f2.mono (by decide) (by decide))
  have G2 : hs_fr zP' zA' m m2 := (g1.mono (by simp) (by decide)).cons (g2.mono (by decide) (by decide))
  have e146 : l_M_X11_judge_0_146 F (nI v) (nI 0) m = (if nI b = (0 : Int32) then l_M_X11_judge_0_188 F3 (0 : Int32) m2 else pm_bd (f_M_X11_typeOf_0 F3 (0 : Int32) (nI v) m2) (fun x30 t29 => pm_b1 (f_M_X11_writeType_0 F3 x30 t29) (fun t31 => some ((2 : Int32), t31)))) := by
    rw [hF3, b1 (F3 + 1), l_M_X11_judge_0_146.eq_2, U1.1.2.2.1, if_pos (Int32.le_refl _), c2]
    rfl
  unfold cFine
  rw [all, e146]
  simp only [pm_bd]
  have O2 : OU s2 m2 0 := by
    obtain ⟨o1, o2, o3, o4, o5⟩ := hO
    refine ⟨o1, ?_, ?_, ?_, fun j hj => by omega⟩
    · rw [f2.1 _ _ (by decide), f1.1 _ _ (by decide)]; exact o2
    · rw [f2.1 _ _ (by decide), f1.1 _ _ (by decide)]; exact o3
    · rw [g2.1 _ _ (by decide), g1.1 _ _ (by decide)]; exact o4
  rcases (show b = 1 ∨ b = 0 by omega) with e | e
  · -- a type
    subst e
    rw [if_neg (show ¬ nI 1 = (0 : Int32) by decide), if_neg (show ¬ nI 1 = (0 : Int32) by decide)]
    obtain ⟨A, R, hJ⟩ := cJ rfl
    have z1 : 0 < z := U2.2.1.1.1
    have fn0 : fn g 0 ≤ k0 := by unfold fn; rw [if_pos rfl]; omega
    have en0 : k0 < en t g 0 := by unfold en; rw [if_pos rfl]; exact hk0
    have vr := C_variable U2.1 U2.2.1 z1 fn0 en0
    have ty := M_typeOf (F := F3) U2.1 U2.2.1 z1 fn0 en0 (by omega)
    have cvb := cv_in U2.1 U2.2.1 z1 fn0 en0
    have VR := hJ.1.2.2.1
    have es := (hP.2.2.2 0 k0 z1 fn0 en0).1
    obtain ⟨s3, m3, w, d1, d2, d3, f3, g3⟩ := WRITE (G := G) (G' := F3) (x := cv t g 0 k0) hJ O2 (by omega) (by omega) (by omega)
    rw [es] at d2
    rw [hv] at ty
    have vr' : f_C_X1_variable_26 0 (nI k0) s2 = some (nI (cv t g 0 k0), s2) := vr
    have ty' : f_M_X11_typeOf_0 F3 0 (nI v) m2 = some (nI (rv g 0 k0), m2) := ty
    have r5 : hs_I s2 16 5 = nI k0 := by rw [f2.1 _ _ (by decide), f1.1 _ _ (by decide)]; exact h5
    have F3' : hs_fr zP zA s s3 := F2.cons (f3.mono (by decide) (by decide))
    have G3' : hs_fr zP' zA' m m3 := G2.cons (g3.mono (by decide) (by decide))
    refine ⟨2, s3, m3, ?_, ?_, rl_mk d3 ?_ ?_ hq ?_ ?_ ?_ (Or.inl ⟨?_, ?_, fun j hj => ?_⟩)⟩
    · unfold f_C_X7_root_16
      simp only [pm_bd, r5, vr', d1, pm_b1]
    · rw [ty']
      simp only [pm_bd, d2, pm_b1]
    · rw [F3'.1 _ _ (by decide), G3'.1 _ _ (by decide)]; exact h10
    · rw [F3'.1 _ _ (by decide), h13, g3.1 _ _ (by decide), hV]
    · rw [F3'.1 _ _ (by decide)]; exact hS.2.2.2.1
    · rw [g3.1 _ _ (by decide)]; exact U2.1.2.2.1
    · rw [G3'.1 _ _ (by decide)]; exact h1
    · rw [g3.1 _ _ (by decide), g2.1 _ _ (by decide), g1.1 _ _ (by decide)]; exact h49
    · rw [f3.1 _ _ (by decide), f2.1 _ _ (by decide), f1.1 _ _ (by decide)]; exact h12
    · rw [f3.2 42 (by decide), f2.2 42 (by decide), f1.2 42 (by decide)]; exact h42 j (by omega)
  · -- a slice
    subst e
    rw [if_pos (show nI 0 = (0 : Int32) from rfl), if_pos (show nI 0 = (0 : Int32) from rfl)]
    obtain ⟨s3, d1, f3, d3⟩ := C_all 100 0 s2 (by omega) (fun j hj => by omega)
    have U3 := UD_fr2 U2 (f3.mono (by simp) (by decide)) (hs_fr.rf (s := m2) (P := lP) (As := lA))
    have C3 : CU s3 m2 (tq t) (fun _ => 1) := fun j hj => ⟨show (1 : Nat) < 2 by omega, d3 j (by omega), by rw [g2.2 29 (by decide)]; exact b3 j hj⟩
    obtain ⟨s4, m4, f', e1, e2, U4, C4, e42, f4, g4⟩ := CUT hP (tq t) 0 s3 m2 (fun _ => 1) G F3 (by omega) U3 C3 (fun j hj => by omega) (by omega) (by omega)
    obtain ⟨F5, hF5⟩ : ∃ F5, F3 - tq t = F5 + 1 + tq t + 1 := ⟨F3 - tq t - 1 - tq t - 1, by omega⟩
    obtain ⟨m5, i1, g5, i3⟩ := M_cpy hq (f := f') (fun j hj => (C4 j hj).1) (tq t) 0 m4 (by omega) U4.1.2.2.1 (fun j hj => (C4 j hj).2.2) (fun j hj => by omega)
    obtain ⟨s5, hs5⟩ : ∃ s5, s5 = hs_pI s4 0 12 (nI (ct f' (tq t))) := ⟨_, rfl⟩
    obtain ⟨m6, hm6⟩ : ∃ m6, m6 = hs_pI m5 0 49 (nI 1) := ⟨_, rfl⟩
    have f5 : hs_fr [(0, 12)] [] s4 s5 := by rw [hs5]; exact hs_fr_pI (by decide)
    have g6 : hs_fr [(0, 49)] [] m5 m6 := by rw [hm6]; exact hs_fr_pI (by decide)
    have F5' : hs_fr [(0, 12), (31, 5), (31, 6), (31, 7)] [32, 33, 34, 35, 36, 38, 42] s s5 := ((((f1.mono (by simp) (by decide)).cons (f2.mono (by decide) (by decide))).cons (f3.mono (by simp) (by decide))).cons (f4.mono (by decide) (by decide))).cons (f5.mono (by decide) (by simp))
    have G6' : hs_fr [(0, 37), (0, 40), (0, 41), (0, 49), (0, 57), (0, 58)] [23, 24, 25, 26, 27, 28, 29, 30, 31] m m6 := ((((g1.mono (by simp) (by decide)).cons (g2.mono (by decide) (by decide))).cons (g4.mono (by decide) (by decide))).cons (g5.mono (by simp) (by decide))).cons (g6.mono (by decide) (by simp))
    have S6 := WSp_fr hS F5' G6' (by decide) (by decide)
    have x42 : ∀ j, j < tq t → hs_A s5 42 j = nI (f' j) := fun j hj => by rw [f5.2 42 (by simp)]; exact e42 j hj
    have x30 : ∀ j, j < tq t → hs_A m6 30 j = nI (f' j) := fun j hj => by rw [g6.2 30 (by simp)]; exact i3 j hj
    have WS6 : WS s5 m6 T n K (tq t) := ⟨S6.1, S6.2.1, S6.2.2.1, S6.2.2.2.1, S6.2.2.2.2.1, S6.2.2.2.2.2, fun i hi => by rw [x42 i hi, x30 i hi]⟩
    have O6 : OU s5 m6 0 := OU_fr hO F5' G6' (by decide) (by decide)
    have hK := S6.1.2.2.1
    obtain ⟨s6, m7, w, k1, k2, k3, f6, g7⟩ := WSL K 0 0 s5 m6 0 (by omega) (by omega) WS6 O6
    refine ⟨1, s6, m7, ?_, ?_, rl_mk k3 ?_ ?_ hq ?_ ?_ ?_ (Or.inr ⟨f', ?_, ?_, fun j hj => ⟨(C4 j hj).1, ?_, ?_⟩⟩)⟩
    · unfold f_C_X0_cut_37_42 f_C_X0_chooseAll_37 f_C_X10_writeSlice_0
      have d1' : l_C_X0_chooseAll_37_2 G 0 s2 = some s3 := d1 G (by omega)
      have e1' : l_C_X0_cut_37_42_8 G 0 0 s3 = some (nI (ct f' (tq t)), s4) := e1
      have k1' : l_C_X10_writeSlice_0_4 G (-1) 0 s5 = some s6 := k1 G (by omega)
      simp only [d1', pm_b1, e1', pl_u, ← hs5, k1']
    · have e2' : l_M_X11_judge_0_188 F3 0 m2 = l_M_X11_judge_0_188 (F3 - tq t) (nI (tq t)) m4 := e2
      have i1' : l_M_X11_judge_0_221 (F5 + 1 + tq t) 0 m4 = l_M_X11_judge_0_221 (F5 + 1) (nI (tq t)) m5 := i1 (F5 + 1)
      have k2' : l_M_X11_writeSlice_0_6 F5 0 0 0 m6 = some m7 := k2 F5 (by omega)
      rw [e2', hF5, l_M_X11_judge_0_188.eq_2, U4.1.2.2.1, if_pos (Int32.le_refl _), i1', l_M_X11_judge_0_221.eq_2, g5.1 _ _ (by decide), U4.1.2.2.1, if_pos (Int32.le_refl _), pl_u]
      unfold f_M_X11_writeSlice_0
      have hm6' : hs_pI m5 0 49 1 = m6 := hm6.symm
      simp only [hm6', k2', pm_b1]
    · rw [f6.1 _ _ (by decide), F5'.1 _ _ (by decide), g7.1 _ _ (by decide), G6'.1 _ _ (by decide)]; exact h10
    · rw [f6.1 _ _ (by decide), F5'.1 _ _ (by decide), g7.1 _ _ (by decide), G6'.1 _ _ (by decide), h13]; exact hU.2.1.2.1.2.2.2.symm
    · rw [f6.1 _ _ (by decide)]; exact S6.2.2.2.1
    · rw [g7.1 _ _ (by decide), G6'.1 _ _ (by decide)]; exact hU.1.2.2.1
    · rw [g7.1 _ _ (by decide), G6'.1 _ _ (by decide)]; exact h1
    · rw [g7.1 _ _ (by decide), hm6]; simp only [hs_I_pI, hs_I_pA, hs_A_pI, hs_A_pA, and_true, true_and, and_false, false_and, and_self, eq_self, Nat.reduceEqDiff, ↓reduceIte]
    · rw [f6.1 _ _ (by decide), hs5]; simp only [hs_I_pI, hs_I_pA, hs_A_pI, hs_A_pA, and_true, true_and, and_false, false_and, and_self, eq_self, Nat.reduceEqDiff, ↓reduceIte]
    · rw [f6.2 42 (by decide)]; exact x42 j hj
    · rw [g7.2 30 (by decide)]; exact x30 j hj
