/-! THE CUT -/
def kP : List (Nat × Nat) := [(0, 10), (0, 11), (0, 12), (0, 13), (31, 5), (31, 6), (31, 7)]
def kA : List Nat := [32, 33, 34, 35, 36, 38, 42]
def lP : List (Nat × Nat) := [(0, 4), (0, 49), (0, 37), (0, 40), (0, 41), (0, 57), (0, 58)]
def lA : List Nat := [23, 24, 25, 26, 27, 28, 29, 30, 31]
theorem UD_fr2 {s m s' m' : hp_S} {t : TT} {g : GG} {z V : Nat} (h : UD s m t g z V) (f : hs_fr kP kA s s') (f' : hs_fr lP lA m m') : UD s' m' t g z V := by
  obtain ⟨h1, h2, h3, h4, h5⟩ := h
  refine ⟨TRt_fr h1 f f' (by decide) (by decide), CP_fr h2 f f' (by decide) (by decide), h3, h4, fun c k c1 c2 c3 => ?_⟩
  have := h5 c k c1 c2 c3
  unfold TG at this ⊢
  rw [f.2 30 (by decide)]
  exact this
theorem nar_b : ∀ b, b < 2 → vp_nar .boolean (nI b) = nI b := by decide +kernel
theorem C_all : ∀ (d k : Nat) (s : hp_S), k + d = 100 → (∀ j, j < k → hs_A s 38 j = nI 1) → ∃ s', (∀ G, d + 1 ≤ G → l_C_X0_chooseAll_37_2 G (nI k) s = some s') ∧ hs_fr [] [38] s s' ∧ ∀ j, j < 100 → hs_A s' 38 j = nI 1 := by
  intro d
  induction d with
  | zero =>
    intro k s hk h
    have : k = 100 := by omega
    subst this
    refine ⟨s, fun G hG => ?_, hs_fr.rf, h⟩
    obtain ⟨G, rfl⟩ : ∃ z, G = z + 1 := ⟨G - 1, by omega⟩
    rw [l_C_X0_chooseAll_37_2.eq_2, if_pos (by decide)]
  | succ d ih =>
    intro k s hk h
    have f : hs_fr [] [38] s (hs_pA s 38 k (nI 1)) := hs_fr_pA (by decide)
    obtain ⟨s', a1, a2, a3⟩ := ih (k + 1) (hs_pA s 38 k (nI 1)) (by omega) (by
      intro j hj
      by_cases e : j = k
      · subst e; simp only [hs_I_pI, hs_I_pA, hs_A_pI, hs_A_pA, and_true, true_and, and_false, false_and, and_self, eq_self, Nat.reduceEqDiff, ↓reduceIte]
      · simp only [hs_I_pI, hs_I_pA, hs_A_pI, hs_A_pA, and_true, true_and, and_false, false_and, and_self, eq_self, Nat.reduceEqDiff, ↓reduceIte, e]; exact h j (by omega))
    refine ⟨s', fun G hG => ?_, f.cons a2, a3⟩
    obtain ⟨G, rfl⟩ : ∃ z, G = z + 1 := ⟨G - 1, by omega⟩
    have e1 : nI k + (1 : Int32) = nI (k + 1) := by simp (disch := omega) only [↓reduceIte, z_lit, z_m1, z_gd, z_le, z_lt, z_eq, z_em, z_me, z_ml, z_mle, z_lm, z_lem, z_pos, z_sub, nI_add, nI_clamp, ib_nI, pm_let, pm_bd, pm_b1, if_true, if_false, ite_true, ite_false, Nat.not_lt_zero, Nat.zero_le]
    rw [l_C_X0_chooseAll_37_2.eq_2, if_neg (show ¬ (100 : Int32) ≤ nI k by rw [show (100 : Int32) = nI 100 from rfl, z_le (by omega) (by omega)]; omega), show pm_ib (nI k) 100 = true from ib_nI (by omega) (by omega), z_gd, nI_clamp (by omega), pl_u, pl_u, e1]
    exact a1 G (by omega)
theorem M_all {q : Nat} (hq : q ≤ 100) (v : Int32) : ∀ (d k : Nat) (m : hp_S), k + d = q → hs_I m 0 12 = nI q → (∀ j, j < k → hs_A m 29 j = nI 1) → ∃ m', (∀ G, l_M_X11_judge_0_146 (G + d) v (nI k) m = l_M_X11_judge_0_146 G v (nI q) m') ∧ hs_fr [] [29] m m' ∧ ∀ j, j < q → hs_A m' 29 j = nI 1 := by
  intro d
  induction d with
  | zero =>
    intro k m hk h12 h
    have : k = q := by omega
    subst this
    exact ⟨m, fun G => rfl, hs_fr.rf, h⟩
  | succ d ih =>
    intro k m hk h12 h
    have f : hs_fr [] [29] m (hs_pA m 29 k (nI 1)) := hs_fr_pA (by decide)
    obtain ⟨m', a1, a2, a3⟩ := ih (k + 1) (hs_pA m 29 k (nI 1)) (by omega) (by rw [f.1 _ _ (by decide)]; exact h12) (by
      intro j hj
      by_cases e : j = k
      · subst e; simp only [hs_I_pI, hs_I_pA, hs_A_pI, hs_A_pA, and_true, true_and, and_false, false_and, and_self, eq_self, Nat.reduceEqDiff, ↓reduceIte]
      · simp only [hs_I_pI, hs_I_pA, hs_A_pI, hs_A_pA, and_true, true_and, and_false, false_and, and_self, eq_self, Nat.reduceEqDiff, ↓reduceIte, e]; exact h j (by omega))
    refine ⟨m', fun G => ?_, f.cons a2, a3⟩
    have e1 : nI k + (1 : Int32) = nI (k + 1) := by simp (disch := omega) only [↓reduceIte, z_lit, z_m1, z_gd, z_le, z_lt, z_eq, z_em, z_me, z_ml, z_mle, z_lm, z_lem, z_pos, z_sub, nI_add, nI_clamp, ib_nI, pm_let, pm_bd, pm_b1, if_true, if_false, ite_true, ite_false, Nat.not_lt_zero, Nat.zero_le]
    rw [← a1 G, show G + (d + 1) = (G + d) + 1 by omega, l_M_X11_judge_0_146.eq_2, h12, if_neg (show ¬ nI q ≤ nI k by rw [z_le (by omega) (by omega)]; omega), show pm_ib (nI k) 101 = true from ib_nI (by omega) (by omega), z_gd, nI_clamp (by omega), pl_u, pl_u, e1]
    rfl
/-- the last pass: the slice -/
theorem M_cpy {q : Nat} (hq : q ≤ 100) {f : Nat → Nat} (hf : ∀ j, j < q → f j < 2) : ∀ (d k : Nat) (m : hp_S), k + d = q → hs_I m 0 12 = nI q → (∀ j, j < q → hs_A m 29 j = nI (f j)) → (∀ j, j < k → hs_A m 30 j = nI (f j)) → ∃ m', (∀ G, l_M_X11_judge_0_221 (G + d) (nI k) m = l_M_X11_judge_0_221 G (nI q) m') ∧ hs_fr [] [30] m m' ∧ ∀ j, j < q → hs_A m' 30 j = nI (f j) := by
  intro d
  induction d with
  | zero =>
    intro k m hk h12 h29 h
    have : k = q := by omega
    subst this
    exact ⟨m, fun G => rfl, hs_fr.rf, h⟩
  | succ d ih =>
    intro k m hk h12 h29 h
    have fr : hs_fr [] [30] m (hs_pA m 30 k (nI (f k))) := hs_fr_pA (by decide)
    obtain ⟨m', a1, a2, a3⟩ := ih (k + 1) (hs_pA m 30 k (nI (f k))) (by omega) (by rw [fr.1 _ _ (by decide)]; exact h12) (fun j hj => by rw [fr.2 29 (by decide)]; exact h29 j hj) (by
      intro j hj
      by_cases e : j = k
      · subst e; simp only [hs_I_pI, hs_I_pA, hs_A_pI, hs_A_pA, and_true, true_and, and_false, false_and, and_self, eq_self, Nat.reduceEqDiff, ↓reduceIte]
      · simp only [hs_I_pI, hs_I_pA, hs_A_pI, hs_A_pA, and_true, true_and, and_false, false_and, and_self, eq_self, Nat.reduceEqDiff, ↓reduceIte, e]; exact h j (by omega))
    refine ⟨m', fun G => ?_, fr.cons a2, a3⟩
    have e1 : nI k + (1 : Int32) = nI (k + 1) := by simp (disch := omega) only [↓reduceIte, z_lit, z_m1, z_gd, z_le, z_lt, z_eq, z_em, z_me, z_ml, z_mle, z_lm, z_lem, z_pos, z_sub, nI_add, nI_clamp, ib_nI, pm_let, pm_bd, pm_b1, if_true, if_false, ite_true, ite_false, Nat.not_lt_zero, Nat.zero_le]
    rw [← a1 G, show G + (d + 1) = (G + d) + 1 by omega, l_M_X11_judge_0_221.eq_2, h12, if_neg (show ¬ nI q ≤ nI k by rw [z_le (by omega) (by omega)]; omega), show pm_ib (nI k) 101 = true from ib_nI (by omega) (by omega), z_gd, z_gd, nI_clamp (by omega), h29 k (by omega), nar_b _ (hf k (by omega)), pl_u, pl_u, e1]
/-- both know the same set -/
def CU (s m : hp_S) (q : Nat) (f : Nat → Nat) : Prop := ∀ j, j < q → f j < 2 ∧ hs_A s 38 j = nI (f j) ∧ hs_A m 29 j = nI (f j)
theorem CU_AC {s m : hp_S} {q : Nat} {f : Nat → Nat} (h : CU s m q f) : AC s m q := by
  intro k hk
  obtain ⟨-, h1, h2⟩ := h k hk
  rw [h1, h2]
def ct (f : Nat → Nat) : Nat → Nat
  | 0 => 0
  | k + 1 => ct f k + f k
theorem ct_congr {f f' : Nat → Nat} : ∀ k, (∀ j, j < k → f j = f' j) → ct f k = ct f' k
  | 0, _ => rfl
  | k + 1, h => by simp only [ct, ct_congr k (fun j hj => h j (by omega)), h k (by omega)]
theorem ct_le {f : Nat → Nat} : ∀ k, (∀ j, j < k → f j < 2) → ct f k ≤ k
  | 0, _ => Nat.le_refl _
  | k + 1, h => by
    have := ct_le k (fun j hj => h j (by omega))
    have := h k (by omega)
    simp only [ct]
    omega
theorem ct_nz {f : Nat → Nat} {g : Nat → Int32} : ∀ k, (∀ j, j < k → f j < 2 ∧ g j = nI (f j)) → nz_cnt g k = ct f k
  | 0, _ => rfl
  | k + 1, h => by
    obtain ⟨h1, h2⟩ := h k (by omega)
    simp only [nz_cnt, ct, ct_nz k (fun j hj => h j (by omega)), h2]
    rcases (show f k = 0 ∨ f k = 1 by omega) with e | e
    · rw [e]; rfl
    · rw [e, if_neg (by decide)]
theorem C_cut1 {s s1 : hp_S} {q k c b G : Nat} (h4 : hs_I s 16 4 = nI q) (hq : q ≤ 100) (hk : k < q) (hc : c ≤ k) (hb : b < 2) (hf : f_C_X0_isFine_37 G (hs_pA s 38 k (nI 0)) = some (nI b, s1)) : l_C_X0_cut_37_42_8 (G + 1) (nI c) (nI k) s = l_C_X0_cut_37_42_8 G (nI (c + b)) (nI (k + 1)) (hs_pA (hs_pA s1 38 k (nI b)) 42 k (nI b)) := by
  have i1 : pm_ib (nI k) 100 = true := ib_nI (by omega) (by omega)
  have q1 : (nI k).toNatClampNeg = k := nI_clamp (by omega)
  have h100 : ¬ (100 : Int32) ≤ nI k := by rw [show (100 : Int32) = nI 100 from rfl, z_le (by omega) (by omega)]; omega
  have e1 : nI k + (1 : Int32) = nI (k + 1) := by simp (disch := omega) only [↓reduceIte, z_lit, z_m1, z_gd, z_le, z_lt, z_eq, z_em, z_me, z_ml, z_mle, z_lm, z_lem, z_pos, z_sub, nI_add, nI_clamp, ib_nI, pm_let, pm_bd, pm_b1, if_true, if_false, ite_true, ite_false, Nat.not_lt_zero, Nat.zero_le]
  have v0 : vp_nar .boolean (0 : Int32) = nI 0 := nar_b 0 (by omega)
  have k38 : hs_A (hs_pA s1 38 k (nI b)) 38 k = nI b := by simp only [hs_I_pI, hs_I_pA, hs_A_pI, hs_A_pA, and_true, true_and, and_false, false_and, and_self, eq_self, Nat.reduceEqDiff, ↓reduceIte]
  have k38' : hs_A (hs_pA (hs_pA s1 38 k (nI b)) 42 k (nI b)) 38 k = nI b := by simp only [hs_I_pI, hs_I_pA, hs_A_pI, hs_A_pA, and_true, true_and, and_false, false_and, and_self, eq_self, Nat.reduceEqDiff, ↓reduceIte]
  rw [l_C_X0_cut_37_42_8.eq_2]
  unfold f_C_X7_size_16
  simp only [pm_bd, h4]
  rw [if_neg (show ¬ nI q ≤ nI k by rw [z_le (by omega) (by omega)]; omega), if_neg h100, if_neg h100, i1, z_gd, pl_u, q1, v0, hf]
  simp only [pm_bd]
  rw [z_gd, pl_u, nar_b b hb, z_gd, z_gd, pl_u, k38, nar_b b hb, z_gd, pl_u, k38']
  rcases (show b = 0 ∨ b = 1 by omega) with e | e
  · subst e
    rw [if_pos (show nI 0 = (0 : Int32) from rfl)]
    simp only [pl_u]
    rw [e1, show nI c + (0 : Int32) = nI (c + 0) by rw [show (0 : Int32) = nI 0 from rfl, nI_add]]
  · subst e
    rw [if_neg (show ¬ nI 1 = (0 : Int32) by decide)]
    simp only [pl_u]
    rw [e1, show nI c + (1 : Int32) = nI (c + 1) by rw [show (1 : Int32) = nI 1 from rfl, nI_add]]
theorem M_cut1 {m m1 : hp_S} {q k b G : Nat} (h12 : hs_I m 0 12 = nI q) (hq : q ≤ 100) (hk : k < q) (hb : b < 2) (hf : f_M_X11_isFine_0 G (hs_pA m 29 k (nI 0)) = some (nI b, m1)) : l_M_X11_judge_0_188 (G + 1) (nI k) m = l_M_X11_judge_0_188 G (nI (k + 1)) (hs_pA m1 29 k (nI b)) := by
  have i1 : pm_ib (nI k) 101 = true := ib_nI (by omega) (by omega)
  have q1 : (nI k).toNatClampNeg = k := nI_clamp (by omega)
  have e1 : nI k + (1 : Int32) = nI (k + 1) := by simp (disch := omega) only [↓reduceIte, z_lit, z_m1, z_gd, z_le, z_lt, z_eq, z_em, z_me, z_ml, z_mle, z_lm, z_lem, z_pos, z_sub, nI_add, nI_clamp, ib_nI, pm_let, pm_bd, pm_b1, if_true, if_false, ite_true, ite_false, Nat.not_lt_zero, Nat.zero_le]
  have v0 : vp_nar .boolean (0 : Int32) = nI 0 := nar_b 0 (by omega)
  rw [l_M_X11_judge_0_188.eq_2, h12, if_neg (show ¬ nI q ≤ nI k by rw [z_le (by omega) (by omega)]; omega), i1, z_gd, pl_u, q1, v0, hf]
  simp only [pm_bd]
  rw [z_gd, pl_u, nar_b b hb, pl_u, e1]
theorem CUT {t : TT} {g : GG} {z V : Nat} {σ τ : Nat → Nat} (hP : PM t g z V σ τ) : ∀ (d k : Nat) (s m : hp_S) (f : Nat → Nat) (G G' : Nat), k + d = tq t → UD s m t g z V → CU s m (tq t) f → (∀ j, j < k → hs_A s 42 j = nI (f j)) → 100001 + d ≤ G → 100001 + d ≤ G' → ∃ s' m' f', l_C_X0_cut_37_42_8 G (nI (ct f k)) (nI k) s = some (nI (ct f' (tq t)), s') ∧ l_M_X11_judge_0_188 G' (nI k) m = l_M_X11_judge_0_188 (G' - d) (nI (tq t)) m' ∧ UD s' m' t g z V ∧ CU s' m' (tq t) f' ∧ (∀ j, j < tq t → hs_A s' 42 j = nI (f' j)) ∧ hs_fr xP kA s s' ∧ hs_fr yP lA m m' := by
  intro d
  induction d with
  | zero =>
    intro k s m f G G' hk hU hC h42 hG hG'
    have hq := hU.1.1.2
    have e : k = tq t := by omega
    subst e
    refine ⟨s, m, f, ?_, rfl, hU, hC, h42, hs_fr.rf, hs_fr.rf⟩
    obtain ⟨G, rfl⟩ : ∃ z, G = z + 1 := ⟨G - 1, by omega⟩
    rw [l_C_X0_cut_37_42_8.eq_2]
    unfold f_C_X7_size_16
    simp only [pm_bd, hU.1.2.1]
    rw [if_pos (Int32.le_refl _)]
  | succ d ih =>
    intro k s m f G G' hk hU hC h42 hG hG'
    obtain ⟨G, rfl⟩ : ∃ z, G = z + 1 := ⟨G - 1, by omega⟩
    obtain ⟨G', rfl⟩ : ∃ z, G' = z + 1 := ⟨G' - 1, by omega⟩
    have hq := hU.1.1.2
    have f1 : hs_fr xP kA s (hs_pA s 38 k (nI 0)) := hs_fr_pA (by decide)
    have g1 : hs_fr yP lA m (hs_pA m 29 k (nI 0)) := hs_fr_pA (by decide)
    have C1 : CU (hs_pA s 38 k (nI 0)) (hs_pA m 29 k (nI 0)) (tq t) (fup f k 0) := by
      intro j hj
      by_cases e : j = k
      · subst e
        rw [fup_eq]
        simp only [hs_I_pI, hs_I_pA, hs_A_pI, hs_A_pA, and_true, true_and, and_false, false_and, and_self, eq_self, Nat.reduceEqDiff, ↓reduceIte]
        omega
      · rw [fup_ne e]
        simp only [hs_I_pI, hs_I_pA, hs_A_pI, hs_A_pA, and_true, true_and, and_false, false_and, and_self, eq_self, Nat.reduceEqDiff, ↓reduceIte, e]
        exact hC j hj
    obtain ⟨b, s1, m1, a1, a2, a3, a4, a5, -⟩ := ISFINE (kf := G) (F := G') (UD_fr2 hU (f1.mono (by decide) (by decide)) (g1.mono (by decide) (by decide))) hP (CU_AC C1) (by omega) (by omega)
    have f2 : hs_fr xP kA s1 (hs_pA (hs_pA s1 38 k (nI b)) 42 k (nI b)) := (hs_fr_pA (by decide)).cons (hs_fr_pA (by decide))
    have g2 : hs_fr yP lA m1 (hs_pA m1 29 k (nI b)) := hs_fr_pA (by decide)
    have F2 : hs_fr xP kA s (hs_pA (hs_pA s1 38 k (nI b)) 42 k (nI b)) := (f1.cons (a4.mono (by decide) (by decide))).cons f2
    have G2 : hs_fr yP lA m (hs_pA m1 29 k (nI b)) := (g1.cons (a5.mono (by decide) (by decide))).cons g2
    have C2 : CU (hs_pA (hs_pA s1 38 k (nI b)) 42 k (nI b)) (hs_pA m1 29 k (nI b)) (tq t) (fup f k b) := by
      intro j hj
      obtain ⟨c1, c2, c3⟩ := C1 j hj
      by_cases e : j = k
      · subst e
        rw [fup_eq]
        simp only [hs_I_pI, hs_I_pA, hs_A_pI, hs_A_pA, and_true, true_and, and_false, false_and, and_self, eq_self, Nat.reduceEqDiff, ↓reduceIte]
        omega
      · rw [fup_ne e] at c1 c2 c3 ⊢
        simp only [hs_I_pI, hs_I_pA, hs_A_pI, hs_A_pA, and_true, true_and, and_false, false_and, and_self, eq_self, Nat.reduceEqDiff, ↓reduceIte, e]
        rw [a4.2 38 (by decide), a5.2 29 (by decide)]
        exact ⟨c1, c2, c3⟩
    have lt := ct_le k (f := f) (fun j hj => (hC j (by omega)).1)
    have e4 : ct (fup f k b) (k + 1) = ct f k + b := by
      simp only [ct]
      rw [fup_eq, ct_congr k (f := fup f k b) (f' := f) (fun j hj => fup_ne (by omega))]
    obtain ⟨s', m', f', b1, b2, b3, b4, b5, b6, b7⟩ := ih (k + 1) _ _ (fup f k b) G G' (by omega) (UD_fr2 hU (F2.mono (by decide) (by decide)) (G2.mono (by decide) (by decide))) C2 (by
      intro j hj
      by_cases e : j = k
      · subst e
        rw [fup_eq]
        simp only [hs_I_pI, hs_I_pA, hs_A_pI, hs_A_pA, and_true, true_and, and_false, false_and, and_self, eq_self, Nat.reduceEqDiff, ↓reduceIte]
      · rw [fup_ne e]
        simp only [hs_I_pI, hs_I_pA, hs_A_pI, hs_A_pA, and_true, true_and, and_false, false_and, and_self, eq_self, Nat.reduceEqDiff, ↓reduceIte, e]
        rw [a4.2 42 (by decide)]
        simp only [hs_I_pI, hs_I_pA, hs_A_pI, hs_A_pA, and_true, true_and, and_false, false_and, and_self, eq_self, Nat.reduceEqDiff, ↓reduceIte]
        exact h42 j (by omega)) (by omega) (by omega)
    refine ⟨s', m', f', ?_, ?_, b3, b4, b5, F2.cons b6, G2.cons b7⟩
    · rw [C_cut1 hU.1.2.1 hq (by omega) lt a3 a1, ← e4]
      exact b1
    · rw [M_cut1 hU.1.2.2.1 hq (by omega) a3 a2, b2, show G' + 1 - (d + 1) = G' - d by omega]
