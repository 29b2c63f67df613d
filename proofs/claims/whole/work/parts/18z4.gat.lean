/-! GATHER -/
def ov (g : Nat → Int32) (a : Int32) : Int32 := if a < 0 then nM else if (500 : Int32) ≤ a then nM else g a.toNatClampNeg
theorem C_ov (a : Int32) (s : hp_S) : f_C_X7_ownerOf_16 a s = some (ov (fun i => hs_A s 25 i) a, s) := by
  unfold f_C_X7_ownerOf_16 ov
  by_cases c1 : a < 0
  · rw [if_pos c1, if_pos c1]; rfl
  · rw [if_neg c1, if_neg c1]
    by_cases c2 : (500 : Int32) ≤ a
    · rw [if_pos c2, if_pos c2]; rfl
    · rw [if_neg c2, if_neg c2]
      obtain ⟨j, hj, rfl⟩ := nI_of c1
      simp (disch := omega) only [↓reduceIte, z_lit, z_m1, z_gd, z_le, z_lt, z_eq, z_em, z_me, z_ml, z_mle, z_lm, z_lem, z_pos, z_sub, nI_add, nI_clamp, ib_nI, pm_let, pm_bd, pm_b1, if_true, if_false, ite_true, ite_false, Nat.not_lt_zero, Nat.zero_le] at c2
      simp (disch := omega) only [↓reduceIte, z_lit, z_m1, z_gd, z_le, z_lt, z_eq, z_em, z_me, z_ml, z_mle, z_lm, z_lem, z_pos, z_sub, nI_add, nI_clamp, ib_nI, pm_let, pm_bd, pm_b1, if_true, if_false, ite_true, ite_false, Nat.not_lt_zero, Nat.zero_le]
theorem ov_nI {g : Nat → Int32} {t : Nat} (ht : t < 500) : ov g (nI t) = g t := by
  unfold ov
  have c : ¬ 500 ≤ t := by omega
  simp (disch := omega) only [↓reduceIte, z_lit, z_m1, z_gd, z_le, z_lt, z_eq, z_em, z_me, z_ml, z_mle, z_lm, z_lem, z_pos, z_sub, nI_add, nI_clamp, ib_nI, pm_let, pm_bd, pm_b1, if_true, if_false, ite_true, ite_false, Nat.not_lt_zero, Nat.zero_le, c]
theorem ov_nM {g : Nat → Int32} : ov g nM = nM := by
  unfold ov
  rw [if_pos (by decide)]
def gP : List (Nat × Nat) := [(16, 4), (16, 5)]
def gA : List Nat := [18, 19, 20, 21, 22, 23, 24, 25]
def gB (s : hp_S) (z t : Nat) (k : Int32) : hp_S := hs_pI (hs_pA (hs_pA (hs_pA (hs_pA (hs_pA (hs_pA s 18 z k) 19 z nM) 20 z nM) 21 z nM) 22 z nM) 25 t (nI z)) 16 4 (nI (z + 1))
theorem G_stepA {F t z K c : Nat} {s : hp_S} (hK : hs_I s 3 4 = nI K) (ht : t < K) (h5 : K ≤ 500) (ho : hs_A s 14 t = nI t) (h4 : hs_I s 16 4 = nI z) (hz : z < 100) (hk : f_C_X6_kind_3 (nI t) (gB s z t (hs_A s 9 t)) = some (nI c, gB s z t (hs_A s 9 t))) (hc : c ≠ 6) (hc2 : c < 100) : l_C_X7_gather_16_3_7_7 (F + 1) (nI t) s = l_C_X7_gather_16_3_7_7 F (nI (t + 1)) (gB s z t (hs_A s 9 t)) := by
  rw [l_C_X7_gather_16_3_7_7.eq_2]
  have c1 : ¬ K ≤ t := by omega
  have c2 : ¬ 500 ≤ t := by omega
  have c3 : ¬ 100 ≤ z := by omega
  unfold gB at hk
  simp (disch := omega) only [↓reduceIte, z_lit, z_m1, z_gd, z_le, z_lt, z_eq, z_em, z_me, z_ml, z_mle, z_lm, z_lem, z_pos, z_sub, nI_add, nI_clamp, ib_nI, pm_let, pm_bd, pm_b1, if_true, if_false, ite_true, ite_false, Nat.not_lt_zero, Nat.zero_le, hs_I_pI, hs_I_pA, hs_A_pI, hs_A_pA, and_true, true_and, and_false, false_and, and_self, eq_self, Nat.reduceEqDiff, ↓reduceIte, f_C_X6_size_3, f_C_X4_drafts_7, hK, c1, c2, c3, C_owner (show t < 501 by omega), ho, h4, C_kind8 (show t < 501 by omega), C_begin17 hz, hk, hc, gB]
theorem G_stepB {F t K c : Nat} {s : hp_S} {y : Int32} (hK : hs_I s 3 4 = nI K) (ht : t < K) (h5 : K ≤ 500) (ho : hs_A s 14 t ≠ nI t) (hw : ov (fun i => hs_A s 25 i) (hs_A s 14 t) = y) (hk : f_C_X6_kind_3 (nI t) (hs_pA s 25 t y) = some (nI c, hs_pA s 25 t y)) (hc : c ≠ 6) (hc2 : c < 100) : l_C_X7_gather_16_3_7_7 (F + 1) (nI t) s = l_C_X7_gather_16_3_7_7 F (nI (t + 1)) (hs_pA s 25 t y) := by
  rw [l_C_X7_gather_16_3_7_7.eq_2]
  have c1 : ¬ K ≤ t := by omega
  have c2 : ¬ 500 ≤ t := by omega
  simp (disch := omega) only [↓reduceIte, z_lit, z_m1, z_gd, z_le, z_lt, z_eq, z_em, z_me, z_ml, z_mle, z_lm, z_lem, z_pos, z_sub, nI_add, nI_clamp, ib_nI, pm_let, pm_bd, pm_b1, if_true, if_false, ite_true, ite_false, Nat.not_lt_zero, Nat.zero_le, hs_I_pI, hs_I_pA, hs_A_pI, hs_A_pA, and_true, true_and, and_false, false_and, and_self, eq_self, Nat.reduceEqDiff, ↓reduceIte, f_C_X6_size_3, hK, c1, c2, C_owner (show t < 501 by omega), ho, C_ov, hw, hk, hc]
theorem G_stepC {F t z K k : Nat} {s : hp_S} (hK : hs_I s 3 4 = nI K) (ht : t < K) (h5 : K ≤ 500) (ho : hs_A s 14 t ≠ nI t) (hw : ov (fun i => hs_A s 25 i) (hs_A s 14 t) = nI k) (hk : f_C_X6_kind_3 (nI t) (hs_pA s 25 t (nI k)) = some (nI 6, hs_pA s 25 t (nI k))) (h4 : hs_I s 16 4 = nI z) (hkz : k < z) (hz : z ≤ 100) : l_C_X7_gather_16_3_7_7 (F + 1) (nI t) s = l_C_X7_gather_16_3_7_7 F (nI (t + 1)) (hs_pA (hs_pA s 25 t (nI k)) 23 k (nI z)) := by
  rw [l_C_X7_gather_16_3_7_7.eq_2]
  have c1 : ¬ K ≤ t := by omega
  have c2 : ¬ 500 ≤ t := by omega
  have e4 : hs_I (hs_pA s 25 t (nI k)) 16 4 = nI z := by simp only [hs_I_pI, hs_I_pA, hs_A_pI, hs_A_pA, and_true, true_and, and_false, false_and, and_self, eq_self, Nat.reduceEqDiff, ↓reduceIte]; exact h4
  have eN := C_isNode e4 hkz hz
  simp (disch := omega) only [↓reduceIte, z_lit, z_m1, z_gd, z_le, z_lt, z_eq, z_em, z_me, z_ml, z_mle, z_lm, z_lem, z_pos, z_sub, nI_add, nI_clamp, ib_nI, pm_let, pm_bd, pm_b1, if_true, if_false, ite_true, ite_false, Nat.not_lt_zero, Nat.zero_le, hs_I_pI, hs_I_pA, hs_A_pI, hs_A_pA, and_true, true_and, and_false, false_and, and_self, eq_self, Nat.reduceEqDiff, ↓reduceIte, f_C_X6_size_3, hK, c1, c2, C_owner (show t < 501 by omega), ho, C_ov, hw, hk, eN, h4]
  all_goals simp
def cw (s m : hp_S) (q t : Nat) : Prop := (hs_A m 5 t = nM ∧ hs_A s 25 t = nM) ∨ ∃ a, a < q ∧ hs_A m 5 t = nI a ∧ hs_A s 25 t = nI (nu m q a)
def GA (s0 m : hp_S) (q t : Nat) (s : hp_S) : Prop := hs_fr gP gA s0 s ∧ hs_I s 16 4 = nI (bl m t q) ∧ (∀ u, u < t → cw s m q u) ∧ (∀ j, j < q → fj m j < t → hs_A s 18 (nu m q j) = hs_A s0 9 (fj m j)) ∧ ∀ j, j < q → hs_A m 6 j = nI 4 → ∀ e, e < t → hs_A m 15 j = nI e → hs_A s 23 (nu m q j) = nI (bl m e q)
theorem GA_step {T : Nat → Nat} {n K : Nat} {s0 m s : hp_S} {q v t : Nat} (h : RD T n K s0 m q v) (ht : t < K) (g : GA s0 m q t s) : ∃ s', (∀ F, l_C_X7_gather_16_3_7_7 (F + 1) (nI t) s = l_C_X7_gather_16_3_7_7 F (nI (t + 1)) s') ∧ GA s0 m q (t + 1) s' := by
  obtain ⟨hP, hU, hS, hN, hv, h9, h56⟩ := h
  obtain ⟨g1, g2, g3, g4, g5⟩ := g
  have hI := PQ_inj hP
  have hK := hP.1.2.2.1
  have hq := hP.2.2.2.1
  have hf : ∀ j, j < q → fj m j < K ∧ hs_A m 5 (fj m j) = nI j := fun j hj => ⟨(hP.2.2.2.2.2.2.1 j hj).2.1, (hP.2.2.2.2.2.2.1 j hj).2.2.1⟩
  obtain ⟨o1, -, -, o4⟩ := hP.2.2.2.2.2.2.2 t ht
  have s14 : hs_A s 14 t = hs_A s0 14 t := g1.2 14 (by decide) t
  have s9 : hs_A s 9 t = hs_A s0 9 t := g1.2 9 (by decide) t
  have sK : hs_I s 3 4 = nI K := (g1.1 3 4 (by decide)).trans hP.1.2.1.1
  have hC : C_T s T n K := C_T_fr hP.1 g1 (by decide)
  have hl := tk_K_lt T n K t
  have kd : ∀ s', hs_fr gP gA s s' → f_C_X6_kind_3 (nI t) s' = some (nI (tk_K T n K t), s') := fun s' f => C_kind (C_T_fr hC f (by decide)) (by omega)
  by_cases c : ∃ j, j < q ∧ fj m j = t
  · obtain ⟨j, hj, hjt⟩ := c
    have hu : nu m q j = bl m t q := by unfold nu; rw [hjt]
    have hl1 := nu_lt (m := m) hj
    have h5t : hs_A m 5 t = nI j := by rw [← hjt]; exact (hf j hj).2
    have own : hs_A s 14 t = nI t := by
      rw [s14]
      rcases o1 with ⟨-, z⟩ | ⟨a, a1, a2, a3⟩
      · rw [h5t, z_em (by omega)] at z; exact z.elim
      · rw [h5t, nI_eq (by omega) (by omega)] at a2
        rw [a3, ← a2, hjt]
    have n6 : tk_K T n K t ≠ 6 := by
      intro e
      obtain ⟨j', b1, b2, b3, b4, b5⟩ := hS.2.2.2.2.2 t (by omega) ht e
      rw [h5t, nI_eq (by omega) (by omega)] at b4
      subst b4
      obtain ⟨e', c1, c2, c3, c4b, -⟩ := (hS.2.2.2.2.1 j (by omega) hj).2.2.2.1 b3
      have c4 := hS.2.2.1
      rw [c2, nI_eq (by omega) (by omega)] at b5
      omega
    have fB : hs_fr gP gA s (gB s (bl m t q) t (hs_A s 9 t)) := by
      unfold gB
      exact (((hs_fr_pA (by decide)).cons (hs_fr_pA (by decide))).cons ((hs_fr_pA (by decide)).cons (hs_fr_pA (by decide)))).cons ((hs_fr_pA (by decide)).cons ((hs_fr_pA (by decide)).cons (hs_fr_pI (by decide))))
    refine ⟨gB s (bl m t q) t (hs_A s 9 t), fun F => G_stepA sK ht hK own g2 (by omega) (kd _ fB) n6 (by omega), g1.cons fB, ?_, ?_, ?_, ?_⟩
    · rw [bl_yes m q j hj hjt hI]
      simp only [gB, hs_I_pI, hs_I_pA, hs_A_pI, hs_A_pA, and_true, true_and, and_false, false_and, and_self, eq_self, Nat.reduceEqDiff, ↓reduceIte]
    · intro u hu'
      by_cases c2 : u = t
      · subst c2
        refine Or.inr ⟨j, hj, h5t, ?_⟩
        simp only [gB, hs_I_pI, hs_I_pA, hs_A_pI, hs_A_pA, and_true, true_and, and_false, false_and, and_self, eq_self, Nat.reduceEqDiff, ↓reduceIte]
        rw [hu]
      · have := g3 u (by omega)
        unfold cw at this ⊢
        simp only [gB, hs_I_pI, hs_I_pA, hs_A_pI, hs_A_pA, and_true, true_and, and_false, false_and, and_self, eq_self, Nat.reduceEqDiff, ↓reduceIte, c2]
        exact this
    · intro i hi hit
      by_cases c2 : i = j
      · subst c2
        rw [hu, hjt]
        simp only [gB, hs_I_pI, hs_I_pA, hs_A_pI, hs_A_pA, and_true, true_and, and_false, false_and, and_self, eq_self, Nat.reduceEqDiff, ↓reduceIte]
        exact s9
      · have c3 : ¬ nu m q i = bl m t q := fun e => c2 (nu_inj hI hi hj (by rw [e, hu]))
        have c4 : fj m i ≠ t := fun e => c2 (hI i j hi hj (by omega))
        simp only [gB, hs_I_pI, hs_I_pA, hs_A_pI, hs_A_pA, and_true, true_and, and_false, false_and, and_self, eq_self, Nat.reduceEqDiff, ↓reduceIte, c3]
        exact g4 i hi (by omega)
    · intro i hi h6 e he h15
      have : e ≠ t := by
        intro q'
        subst q'
        obtain ⟨e', c1, c2, c3, c4, c5, -⟩ := (hS.2.2.2.2.1 i (by omega) hi).2.2.2.1 h6
        have c6 := hS.2.2.1
        rw [h15, nI_eq (by omega) (by omega)] at c2
        subst c2
        exact n6 c5
      simp only [gB, hs_I_pI, hs_I_pA, hs_A_pI, hs_A_pA, and_true, true_and, and_false, false_and, and_self, eq_self, Nat.reduceEqDiff, ↓reduceIte]
      exact g5 i hi h6 e (by omega) h15
  · have nf : ∀ j, j < q → fj m j ≠ t := fun j hj e => c ⟨j, hj, e⟩
    have eb := bl_no m q nf
    have own : hs_A s 14 t ≠ nI t := by
      rw [s14]
      rcases o1 with ⟨z, -⟩ | ⟨a, a1, a2, a3⟩
      · rw [z, ne_eq, z_me (by omega)]; exact not_false
      · have := hf a a1
        rw [a3, ne_eq, nI_eq (by omega) (by omega)]
        exact nf a a1
    have key : ∃ y, ov (fun i => hs_A s 25 i) (hs_A s 14 t) = y ∧ ((hs_A m 5 t = nM ∧ y = nM) ∨ ∃ a, a < q ∧ hs_A m 5 t = nI a ∧ y = nI (nu m q a) ∧ fj m a < t) := by
      rw [s14]
      rcases o1 with ⟨z1, z2⟩ | ⟨a, a1, a2, a3⟩
      · exact ⟨nM, by rw [z1, ov_nM], Or.inl ⟨z2, rfl⟩⟩
      · have f1 := hf a a1
        have f2 := o4 a a1 a2
        have f3 := nf a a1
        refine ⟨nI (nu m q a), ?_, Or.inr ⟨a, a1, a2, rfl, by omega⟩⟩
        rw [a3, ov_nI (by omega)]
        rcases g3 (fj m a) (by omega) with ⟨z, -⟩ | ⟨b, b1, b2, b3⟩
        · rw [f1.2, z_em (by omega)] at z; exact z.elim
        · rw [f1.2, nI_eq (by omega) (by omega)] at b2
          rw [b3, ← b2]
    obtain ⟨y, hy, hy2⟩ := key
    have f25 : hs_fr gP gA s (hs_pA s 25 t y) := hs_fr_pA (by decide)
    have new : ∀ u, u < t + 1 → cw (hs_pA s 25 t y) m q u := by
      intro u hu
      by_cases c2 : u = t
      · subst c2
        rcases hy2 with ⟨z1, z2⟩ | ⟨a, a1, a2, a3, -⟩
        · exact Or.inl ⟨z1, by simp only [hs_I_pI, hs_I_pA, hs_A_pI, hs_A_pA, and_true, true_and, and_false, false_and, and_self, eq_self, Nat.reduceEqDiff, ↓reduceIte]; exact z2⟩
        · exact Or.inr ⟨a, a1, a2, by simp only [hs_I_pI, hs_I_pA, hs_A_pI, hs_A_pA, and_true, true_and, and_false, false_and, and_self, eq_self, Nat.reduceEqDiff, ↓reduceIte]; exact a3⟩
      · have := g3 u (by omega)
        unfold cw at this ⊢
        simp only [hs_I_pI, hs_I_pA, hs_A_pI, hs_A_pA, and_true, true_and, and_false, false_and, and_self, eq_self, Nat.reduceEqDiff, ↓reduceIte, c2]
        exact this
    by_cases c6 : tk_K T n K t = 6
    · obtain ⟨j, b1, b2, b3, b4, b5⟩ := hS.2.2.2.2.2 t (by omega) ht c6
      rcases hy2 with ⟨z1, z2⟩ | ⟨a, a1, a2, a3, a4⟩
      · rw [b4, z_em (by omega)] at z1; exact z1.elim
      rw [b4, nI_eq (by omega) (by omega)] at a2
      subst a2
      have lt1 : nu m q j < bl m t q := bl_lt m (Nat.le_refl _) a4 q a1
      have lt2 := bl_le m t q
      have kd2 := kd _ f25
      rw [c6] at kd2
      subst a3
      have f23 : hs_fr gP gA (hs_pA s 25 t (nI (nu m q j))) (hs_pA (hs_pA s 25 t (nI (nu m q j))) 23 (nu m q j) (nI (bl m t q))) := hs_fr_pA (by decide)
      refine ⟨hs_pA (hs_pA s 25 t (nI (nu m q j))) 23 (nu m q j) (nI (bl m t q)), fun F => G_stepC sK ht hK own hy kd2 g2 lt1 (by omega), (g1.cons f25).cons f23, ?_, ?_, ?_, ?_⟩
      · rw [eb]; simp only [hs_I_pI, hs_I_pA, hs_A_pI, hs_A_pA, and_true, true_and, and_false, false_and, and_self, eq_self, Nat.reduceEqDiff, ↓reduceIte]; exact g2
      · intro u hu
        have := new u hu
        unfold cw at this ⊢
        simp only [hs_I_pI, hs_I_pA, hs_A_pI, hs_A_pA, and_true, true_and, and_false, false_and, and_self, eq_self, Nat.reduceEqDiff, ↓reduceIte] at this ⊢
        exact this
      · intro i hi hit
        have := nf i hi
        simp only [hs_I_pI, hs_I_pA, hs_A_pI, hs_A_pA, and_true, true_and, and_false, false_and, and_self, eq_self, Nat.reduceEqDiff, ↓reduceIte]
        exact g4 i hi (by omega)
      · intro i hi h6 e he h15
        by_cases c2 : i = j
        · subst c2
          rw [b5, nI_eq (by omega) (by omega)] at h15
          subst h15
          simp only [hs_I_pI, hs_I_pA, hs_A_pI, hs_A_pA, and_true, true_and, and_false, false_and, and_self, eq_self, Nat.reduceEqDiff, ↓reduceIte]
        · have c3 : ¬ nu m q i = nu m q j := fun e => c2 (nu_inj hI hi a1 e)
          have c4 : e ≠ t := by
            intro q'
            subst q'
            obtain ⟨e', d1, d2, d3, d4, d5, d6, -⟩ := (hS.2.2.2.2.1 i (by omega) hi).2.2.2.1 h6
            have d7 := hS.2.2.1
            rw [h15, nI_eq (by omega) (by omega)] at d2
            subst d2
            rw [b4, nI_eq (by omega) (by omega)] at d6
            omega
          simp only [hs_I_pI, hs_I_pA, hs_A_pI, hs_A_pA, and_true, true_and, and_false, false_and, and_self, eq_self, Nat.reduceEqDiff, ↓reduceIte, c3]
          exact g5 i hi h6 e (by omega) h15
    · refine ⟨hs_pA s 25 t y, fun F => G_stepB sK ht hK own hy (kd _ f25) c6 (by omega), g1.cons f25, ?_, new, ?_, ?_⟩
      · rw [eb]; simp only [hs_I_pI, hs_I_pA, hs_A_pI, hs_A_pA, and_true, true_and, and_false, false_and, and_self, eq_self, Nat.reduceEqDiff, ↓reduceIte]; exact g2
      · intro i hi hit
        have := nf i hi
        simp only [hs_I_pI, hs_I_pA, hs_A_pI, hs_A_pA, and_true, true_and, and_false, false_and, and_self, eq_self, Nat.reduceEqDiff, ↓reduceIte]
        exact g4 i hi (by omega)
      · intro i hi h6 e he h15
        have c4 : e ≠ t := by
          intro q'
          subst q'
          obtain ⟨e', d1, d2, d3, d4, d5, d6, -⟩ := (hS.2.2.2.2.1 i (by omega) hi).2.2.2.1 h6
          have d7 := hS.2.2.1
          rw [h15, nI_eq (by omega) (by omega)] at d2
          subst d2
          exact c6 d5
        simp only [hs_I_pI, hs_I_pA, hs_A_pI, hs_A_pA, and_true, true_and, and_false, false_and, and_self, eq_self, Nat.reduceEqDiff, ↓reduceIte]
        exact g5 i hi h6 e (by omega) h15
theorem GA_all {T : Nat → Nat} {n K : Nat} {s0 m : hp_S} {q v : Nat} (h : RD T n K s0 m q v) : ∀ (d t : Nat) (s : hp_S), t + d = K → GA s0 m q t s → ∃ s', (∀ F, l_C_X7_gather_16_3_7_7 (F + d) (nI t) s = l_C_X7_gather_16_3_7_7 F (nI K) s') ∧ GA s0 m q K s'
  | 0, t, s, e, g => by
    obtain rfl : t = K := by omega
    exact ⟨s, fun F => rfl, g⟩
  | d + 1, t, s, e, g => by
    obtain ⟨s1, e1, g1⟩ := GA_step h (show t < K by omega) g
    obtain ⟨s', e2, g2⟩ := GA_all h d (t + 1) s1 (by omega) g1
    exact ⟨s', fun F => by rw [← Nat.add_assoc, e1, e2], g2⟩
