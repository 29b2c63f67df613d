/-! LINKS and SLOTS -/
def lkS (s : hp_S) (t k : Nat) : hp_S := hs_pA (hs_pA (hs_pA (hs_pA s 19 k (ov (fun i => hs_A s 25 i) (hs_A s 10 t))) 20 k (ov (fun i => hs_A s 25 i) (hs_A s 11 t))) 21 k (ov (fun i => hs_A s 25 i) (hs_A s 12 t))) 22 k (ov (fun i => hs_A s 25 i) (hs_A s 13 t))
theorem K_stepA {F t K k : Nat} {s : hp_S} (hK : hs_I s 3 4 = nI K) (ht : t < K) (h5 : K ≤ 500) (ho : hs_A s 14 t = nI t) (h25 : hs_A s 25 t = nI k) (hk : k < 100) : l_C_X7_linkNodes_16_3_7_8 (F + 1) (nI t) s = l_C_X7_linkNodes_16_3_7_8 F (nI (t + 1)) (lkS s t k) := by
  rw [l_C_X7_linkNodes_16_3_7_8.eq_2]
  have c1 : ¬ K ≤ t := by omega
  have t5 : t < 501 := by omega
  simp (disch := omega) only [↓reduceIte, z_lit, z_m1, z_gd, z_le, z_lt, z_eq, z_em, z_me, z_ml, z_mle, z_lm, z_lem, z_pos, z_sub, nI_add, nI_clamp, ib_nI, pm_let, pm_bd, pm_b1, if_true, if_false, ite_true, ite_false, Nat.not_lt_zero, Nat.zero_le, hs_I_pI, hs_I_pA, hs_A_pI, hs_A_pA, and_true, true_and, and_false, false_and, and_self, eq_self, Nat.reduceEqDiff, ↓reduceIte, f_C_X6_size_3, hK, c1, C_owner t5, ho, C_ov, ov_nI (show t < 500 by omega), h25, C_first8 t5, C_second8 t5, C_third8 t5, C_meaning8 t5, C_setFirst17 hk, C_setSecond17 hk, C_setThird17 hk, C_setMeaning17 hk, lkS]
theorem K_stepB {F t K : Nat} {s : hp_S} (hK : hs_I s 3 4 = nI K) (ht : t < K) (h5 : K ≤ 500) (ho : hs_A s 14 t ≠ nI t) : l_C_X7_linkNodes_16_3_7_8 (F + 1) (nI t) s = l_C_X7_linkNodes_16_3_7_8 F (nI (t + 1)) s := by
  rw [l_C_X7_linkNodes_16_3_7_8.eq_2]
  have c1 : ¬ K ≤ t := by omega
  have t5 : t < 501 := by omega
  simp (disch := omega) only [↓reduceIte, z_lit, z_m1, z_gd, z_le, z_lt, z_eq, z_em, z_me, z_ml, z_mle, z_lm, z_lem, z_pos, z_sub, nI_add, nI_clamp, ib_nI, pm_let, pm_bd, pm_b1, if_true, if_false, ite_true, ite_false, Nat.not_lt_zero, Nat.zero_le, hs_I_pI, hs_I_pA, hs_A_pI, hs_A_pA, and_true, true_and, and_false, false_and, and_self, eq_self, Nat.reduceEqDiff, ↓reduceIte, f_C_X6_size_3, hK, c1, C_owner t5, ho]
theorem K_end {F K : Nat} {s : hp_S} (hK : hs_I s 3 4 = nI K) : l_C_X7_linkNodes_16_3_7_8 (F + 1) (nI K) s = some s := by
  rw [l_C_X7_linkNodes_16_3_7_8.eq_2]
  simp only [f_C_X6_size_3, hK, pm_bd]
  rw [if_pos (Int32.le_refl _)]
def cq (m : hp_S) (q : Nat) (x y : Int32) : Prop := (x = nM ∧ y = nM) ∨ ∃ a, a < q ∧ y = nI a ∧ x = nI (nu m q a)
def LK (s1 m : hp_S) (q t : Nat) (s : hp_S) : Prop := hs_fr [] [19, 20, 21, 22] s1 s ∧ ∀ j, j < q → fj m j < t → (∀ d, d < 3 → cq m q (hs_A s (19 + d) (nu m q j)) (hs_A m (7 + d) j)) ∧ ∀ b, b < q → hs_A s1 13 (fj m j) = nI (fj m b) → hs_A s 22 (nu m q j) = nI (nu m q b)
theorem LK_step {T : Nat → Nat} {n K : Nat} {s0 m s1 s : hp_S} {q v t : Nat} (h : RD T n K s0 m q v) (f : hs_fr gP gA s0 s1) (hw : ∀ u, u < K → cw s1 m q u) (ht : t < K) (g : LK s1 m q t s) : ∃ s', (∀ F, l_C_X7_linkNodes_16_3_7_8 (F + 1) (nI t) s = l_C_X7_linkNodes_16_3_7_8 F (nI (t + 1)) s') ∧ LK s1 m q (t + 1) s' := by
  obtain ⟨hP, hU, hS, hN, hv, h9, h56⟩ := h
  obtain ⟨g1, g2⟩ := g
  have hI := PQ_inj hP
  have hK := hP.1.2.2.1
  have hq := hP.2.2.2.1
  have hf : ∀ j, j < q → fj m j < K ∧ hs_A m 5 (fj m j) = nI j := fun j hj => ⟨(hP.2.2.2.2.2.2.1 j hj).2.1, (hP.2.2.2.2.2.2.1 j hj).2.2.1⟩
  obtain ⟨o1, -, -, o4⟩ := hP.2.2.2.2.2.2.2 t ht
  have e0 : ∀ a, a ∉ gA → a ∉ [19, 20, 21, 22] → ∀ i, hs_A s a i = hs_A s0 a i := fun a h1 h2 i => (g1.2 a h2 i).trans (f.2 a h1 i)
  have e25 : ∀ i, hs_A s 25 i = hs_A s1 25 i := fun i => g1.2 25 (by decide) i
  have s14 : hs_A s 14 t = hs_A s0 14 t := e0 14 (by decide) (by decide) t
  have sK : hs_I s 3 4 = nI K := (g1.1 3 4 (by decide)).trans ((f.1 3 4 (by decide)).trans hP.1.2.1.1)
  have ovn : ∀ b, b < q → hs_A s 25 (fj m b) = nI (nu m q b) := by
    intro b hb
    rw [e25]
    rcases hw (fj m b) (hf b hb).1 with ⟨z, -⟩ | ⟨c, c1, c2, c3⟩
    · rw [(hf b hb).2, z_em (by omega)] at z; exact z.elim
    · rw [(hf b hb).2, nI_eq (by omega) (by omega)] at c2
      rw [c3, ← c2]
  by_cases c : ∃ j, j < q ∧ fj m j = t
  · obtain ⟨j, hj, hjt⟩ := c
    have hl1 := nu_lt (m := m) hj
    have h5t : hs_A m 5 t = nI j := by rw [← hjt]; exact (hf j hj).2
    have own : hs_A s 14 t = nI t := by
      rw [s14]
      rcases o1 with ⟨-, z⟩ | ⟨a, a1, a2, a3⟩
      · rw [h5t, z_em (by omega)] at z; exact z.elim
      · rw [h5t, nI_eq (by omega) (by omega)] at a2
        rw [a3, ← a2, hjt]
    have h25 : hs_A s 25 t = nI (nu m q j) := by rw [← hjt]; exact ovn j hj
    have cc : ∀ x y, cr m q x y → cq m q (ov (fun i => hs_A s 25 i) x) y := by
      rintro x y (⟨z1, z2⟩ | ⟨a, a1, a2, a3⟩)
      · exact Or.inl ⟨by rw [z1, ov_nM], z2⟩
      · refine Or.inr ⟨a, a1, a2, ?_⟩
        have := (hf a a1).1
        rw [a3, ov_nI (by omega)]
        exact ovn a a1
    obtain ⟨-, -, -, -, d1, d2, d3⟩ := hP.2.2.2.2.2.2.1 j hj
    rw [hjt] at d1 d2 d3
    refine ⟨lkS s t (nu m q j), fun F => K_stepA sK ht hK own h25 (by omega), ?_, fun i hi hit => ?_⟩
    · unfold lkS
      exact g1.cons (((hs_fr_pA (by decide)).cons (hs_fr_pA (by decide))).cons ((hs_fr_pA (by decide)).cons (hs_fr_pA (by decide))))
    · by_cases c2 : i = j
      · subst c2
        refine ⟨fun d hd => ?_, fun b hb h13 => ?_⟩
        · rcases (show d = 0 ∨ d = 1 ∨ d = 2 by omega) with rfl | rfl | rfl
          · simp only [lkS, hs_I_pI, hs_I_pA, hs_A_pI, hs_A_pA, and_true, true_and, and_false, false_and, and_self, eq_self, Nat.reduceEqDiff, ↓reduceIte, Nat.add_zero]
            rw [e0 10 (by decide) (by decide)]
            exact cc _ _ d1
          · simp only [lkS, hs_I_pI, hs_I_pA, hs_A_pI, hs_A_pA, and_true, true_and, and_false, false_and, and_self, eq_self, Nat.reduceEqDiff, ↓reduceIte, Nat.reduceAdd]
            rw [e0 11 (by decide) (by decide)]
            exact cc _ _ d2
          · simp only [lkS, hs_I_pI, hs_I_pA, hs_A_pI, hs_A_pA, and_true, true_and, and_false, false_and, and_self, eq_self, Nat.reduceEqDiff, ↓reduceIte, Nat.reduceAdd]
            rw [e0 12 (by decide) (by decide)]
            exact cc _ _ d3
        · have := (hf b hb).1
          simp only [lkS, hs_I_pI, hs_I_pA, hs_A_pI, hs_A_pA, and_true, true_and, and_false, false_and, and_self, eq_self, Nat.reduceEqDiff, ↓reduceIte]
          rw [g1.2 13 (by decide), ← hjt, h13, ov_nI (by omega)]
          exact ovn b hb
      · have c3 : ¬ nu m q i = nu m q j := fun e => c2 (nu_inj hI hi hj e)
        have c4 : fj m i ≠ t := fun e => c2 (hI i j hi hj (by omega))
        have := g2 i hi (by omega)
        refine ⟨fun d hd => ?_, fun b hb h13 => ?_⟩
        · simp only [lkS, hs_I_pI, hs_I_pA, hs_A_pI, hs_A_pA, and_true, true_and, and_false, false_and, and_self, eq_self, Nat.reduceEqDiff, ↓reduceIte, c3]
          exact this.1 d hd
        · simp only [lkS, hs_I_pI, hs_I_pA, hs_A_pI, hs_A_pA, and_true, true_and, and_false, false_and, and_self, eq_self, Nat.reduceEqDiff, ↓reduceIte, c3]
          exact this.2 b hb h13
  · have nf : ∀ j, j < q → fj m j ≠ t := fun j hj e => c ⟨j, hj, e⟩
    have own : hs_A s 14 t ≠ nI t := by
      rw [s14]
      rcases o1 with ⟨z, -⟩ | ⟨a, a1, a2, a3⟩
      · rw [z, ne_eq, z_me (by omega)]; exact not_false
      · have := hf a a1
        rw [a3, ne_eq, nI_eq (by omega) (by omega)]
        exact nf a a1
    exact ⟨s, fun F => K_stepB sK ht hK own, g1, fun i hi hit => g2 i hi (by have := nf i hi; omega)⟩
theorem LK_all {T : Nat → Nat} {n K : Nat} {s0 m s1 : hp_S} {q v : Nat} (h : RD T n K s0 m q v) (f : hs_fr gP gA s0 s1) (hw : ∀ u, u < K → cw s1 m q u) : ∀ (d t : Nat) (s : hp_S), t + d = K → LK s1 m q t s → ∃ s', (∀ F, l_C_X7_linkNodes_16_3_7_8 (F + 1 + d) (nI t) s = some s') ∧ LK s1 m q K s'
  | 0, t, s, e, g => by
    obtain rfl : t = K := by omega
    exact ⟨s, fun F => K_end ((g.1.1 3 4 (by decide)).trans ((f.1 3 4 (by decide)).trans h.1.1.2.1.1)), g⟩
  | d + 1, t, s, e, g => by
    obtain ⟨s1', e1, g1⟩ := LK_step h f hw (show t < K by omega) g
    obtain ⟨s', e2, g2⟩ := LK_all h f hw d (t + 1) s1' (by omega) g1
    exact ⟨s', fun F => by rw [← Nat.add_assoc, e1, e2], g2⟩
/-- how many fns stand ahead -/
def fbn (g : Nat → Int32) : Nat → Nat
  | 0 => 0
  | k + 1 => fbn g k + if g k = nI 4 then 1 else 0
theorem fbn_le (g : Nat → Int32) : ∀ k, fbn g k ≤ k
  | 0 => Nat.le_refl _
  | k + 1 => by
    have := fbn_le g k
    simp only [fbn]
    split <;> omega
theorem SL_all {q : Nat} (hq : q ≤ 100) : ∀ (d k : Nat) (s : hp_S), k + d = q → hs_I s 16 4 = nI q → (∀ i, i ≤ k → hs_A s 24 i = nI (i + fbn (fun i => hs_A s 18 i) i)) → ∃ s', (∀ F, l_C_X7_countSlots_16_9 (F + 1 + d) (nI k) s = some s') ∧ hs_fr [] [24] s s' ∧ ∀ i, i ≤ q → hs_A s' 24 i = nI (i + fbn (fun i => hs_A s 18 i) i)
  | 0, k, s, e, h4, h => by
    obtain rfl : k = q := by omega
    refine ⟨s, fun F => ?_, hs_fr.rf, h⟩
    rw [Nat.add_zero, l_C_X7_countSlots_16_9.eq_2, h4, if_pos (Int32.le_refl _)]
  | d + 1, k, s, e, h4, h => by
    have hk : k < 100 := by omega
    have c1 : ¬ q ≤ k := by omega
    have c2 : ¬ 100 ≤ k := by omega
    have fl := fbn_le (fun i => hs_A s 18 i) k
    have e24 := h k (Nat.le_refl _)
    obtain ⟨s1, hs1⟩ : ∃ s1, s1 = hs_pA s 24 (k + 1) (nI (k + 1 + fbn (fun i => hs_A s 18 i) (k + 1))) := ⟨_, rfl⟩
    have st : ∀ F, l_C_X7_countSlots_16_9 (F + 1) (nI k) s = l_C_X7_countSlots_16_9 F (nI (k + 1)) s1 := by
      intro F
      rw [l_C_X7_countSlots_16_9.eq_2, hs1]
      by_cases c3 : hs_A s 18 k = nI 4
      · simp (disch := omega) only [↓reduceIte, z_lit, z_m1, z_gd, z_le, z_lt, z_eq, z_em, z_me, z_ml, z_mle, z_lm, z_lem, z_pos, z_sub, nI_add, nI_clamp, ib_nI, pm_let, pm_bd, pm_b1, if_true, if_false, ite_true, ite_false, Nat.not_lt_zero, Nat.zero_le, h4, c1, c2, C_kind17 hk, c3, e24, fbn]
        rw [show k + fbn (fun i => hs_A s 18 i) k + 2 = k + 1 + (fbn (fun i => hs_A s 18 i) k + 1) by omega]
      · simp (disch := omega) only [↓reduceIte, z_lit, z_m1, z_gd, z_le, z_lt, z_eq, z_em, z_me, z_ml, z_mle, z_lm, z_lem, z_pos, z_sub, nI_add, nI_clamp, ib_nI, pm_let, pm_bd, pm_b1, if_true, if_false, ite_true, ite_false, Nat.not_lt_zero, Nat.zero_le, h4, c1, c2, C_kind17 hk, c3, e24, fbn]
        rw [show k + fbn (fun i => hs_A s 18 i) k + 1 = k + 1 + (fbn (fun i => hs_A s 18 i) k + 0) by omega]
    have e18 : ∀ i, hs_A s1 18 i = hs_A s 18 i := fun i => by rw [hs1]; simp only [hs_I_pI, hs_I_pA, hs_A_pI, hs_A_pA, and_true, true_and, and_false, false_and, and_self, eq_self, Nat.reduceEqDiff, ↓reduceIte]
    have ee : (fun i => hs_A s1 18 i) = (fun i => hs_A s 18 i) := funext e18
    obtain ⟨s', f1, f2, f3⟩ := SL_all hq d (k + 1) s1 (by omega) (by rw [hs1]; simp only [hs_I_pI, hs_I_pA, hs_A_pI, hs_A_pA, and_true, true_and, and_false, false_and, and_self, eq_self, Nat.reduceEqDiff, ↓reduceIte]; exact h4) (fun i hi => by
      rw [ee, hs1]
      by_cases c4 : i = k + 1
      · rw [c4]; simp only [hs_I_pI, hs_I_pA, hs_A_pI, hs_A_pA, and_true, true_and, and_false, false_and, and_self, eq_self, Nat.reduceEqDiff, ↓reduceIte]
      · simp only [hs_I_pI, hs_I_pA, hs_A_pI, hs_A_pA, and_true, true_and, and_false, false_and, and_self, eq_self, Nat.reduceEqDiff, ↓reduceIte, c4]; exact h i (by omega))
    rw [ee] at f3
    refine ⟨s', fun F => by rw [← Nat.add_assoc, st, f1], ?_, f3⟩
    rw [hs1] at f2
    exact (hs_fr_pA (by decide)).cons f2
/-- the class's tree -/
def TC (K : Nat) (s0 m : hp_S) (q v : Nat) (s : hp_S) : Prop := hs_fr gP gA s0 s ∧ hs_I s 16 4 = nI q ∧ hs_I s 16 5 = nI (nu m q v) ∧ (∀ t, t < K → cw s m q t) ∧ (∀ j, j < q → hs_A s 18 (nu m q j) = hs_A s0 9 (fj m j) ∧ (∀ d, d < 3 → cq m q (hs_A s (19 + d) (nu m q j)) (hs_A m (7 + d) j)) ∧ (∀ b, b < q → hs_A s0 13 (fj m j) = nI (fj m b) → hs_A s 22 (nu m q j) = nI (nu m q b)) ∧ (hs_A m 6 j = nI 4 → ∀ e, e < K → hs_A m 15 j = nI e → hs_A s 23 (nu m q j) = nI (bl m e q))) ∧ ∀ i, i ≤ q → hs_A s 24 i = nI (i + fbn (fun i => hs_A s 18 i) i)
theorem GATHER {T : Nat → Nat} {n K : Nat} {s0 m : hp_S} {q v : Nat} (h : RD T n K s0 m q v) : ∃ s', (∀ F, 1010 ≤ F → f_C_X7_gather_16_3_7 F s0 = some s') ∧ TC K s0 m q v s' := by
  have hP := h.1
  have hK := hP.1.2.2.1
  have hq := hP.2.2.2.1
  have hf : ∀ j, j < q → fj m j < K ∧ hs_A m 5 (fj m j) = nI j := fun j hj => ⟨(hP.2.2.2.2.2.2.1 j hj).2.1, (hP.2.2.2.2.2.2.1 j hj).2.2.1⟩
  obtain ⟨s1, e1, g1⟩ := GA_all h K 0 (hs_pI s0 16 4 (nI 0)) (by omega) ⟨hs_fr_pI (by decide), by rw [bl_zero]; simp only [hs_I_pI, hs_I_pA, hs_A_pI, hs_A_pA, and_true, true_and, and_false, false_and, and_self, eq_self, Nat.reduceEqDiff, ↓reduceIte], fun u hu => by omega, fun j _ hj => by omega, fun j _ _ e he => by omega⟩
  obtain ⟨g1, g2, g3, g4, g5⟩ := g1
  have r9 : hs_I s1 7 9 = nI (fj m v) := (g1.1 7 9 (by decide)).trans h.2.2.2.2.2.1
  have hv := h.2.2.2.2.1
  have fv := hf v hv
  obtain ⟨s2, hs2⟩ : ∃ s2, s2 = hs_pI s1 16 5 (hs_A s1 25 (fj m v)) := ⟨_, rfl⟩
  have rt : hs_A s1 25 (fj m v) = nI (nu m q v) := by
    rcases g3 (fj m v) fv.1 with ⟨z, -⟩ | ⟨c, c1, c2, c3⟩
    · rw [fv.2, z_em (by omega)] at z; exact z.elim
    · rw [fv.2, nI_eq (by omega) (by omega)] at c2
      rw [c3, ← c2]
  have f2 : hs_fr gP gA s0 s2 := by
    rw [hs2]
    exact g1.cons (hs_fr_pI (by decide))
  have w2 : ∀ u, u < K → cw s2 m q u := by
    intro u hu
    have := g3 u hu
    rw [hs2]
    unfold cw at this ⊢
    simp only [hs_I_pI, hs_I_pA, hs_A_pI, hs_A_pA, and_true, true_and, and_false, false_and, and_self, eq_self, Nat.reduceEqDiff, ↓reduceIte]
    exact this
  obtain ⟨s3, e3, l1, l2⟩ := LK_all h f2 w2 K 0 s2 (by omega) ⟨hs_fr.rf, fun j _ hj => by omega⟩
  have s34 : hs_I s3 16 4 = nI q := by
    rw [l1.1 16 4 (by decide), hs2]
    simp only [hs_I_pI, hs_I_pA, hs_A_pI, hs_A_pA, and_true, true_and, and_false, false_and, and_self, eq_self, Nat.reduceEqDiff, ↓reduceIte]
    rw [g2, bl_all m q (fun j hj => (hf j hj).1)]
  obtain ⟨s4, e4, m1, m2⟩ := SL_all hq q 0 (hs_pA s3 24 0 (nI 0)) (by omega) (by simp only [hs_I_pI, hs_I_pA, hs_A_pI, hs_A_pA, and_true, true_and, and_false, false_and, and_self, eq_self, Nat.reduceEqDiff, ↓reduceIte]; exact s34) (fun i hi => by
    obtain rfl : i = 0 := by omega
    simp only [hs_I_pI, hs_I_pA, hs_A_pI, hs_A_pA, and_true, true_and, and_false, false_and, and_self, eq_self, Nat.reduceEqDiff, ↓reduceIte, fbn])
  have e18 : ∀ i, hs_A s4 18 i = hs_A s1 18 i := fun i => by
    rw [m1.2 18 (by decide)]
    simp only [hs_I_pI, hs_I_pA, hs_A_pI, hs_A_pA, and_true, true_and, and_false, false_and, and_self, eq_self, Nat.reduceEqDiff, ↓reduceIte]
    rw [l1.2 18 (by decide), hs2]
    simp only [hs_I_pI, hs_I_pA, hs_A_pI, hs_A_pA, and_true, true_and, and_false, false_and, and_self, eq_self, Nat.reduceEqDiff, ↓reduceIte]
  refine ⟨s4, fun F hF => ?_, ?_, ?_, ?_, ?_, ?_, ?_⟩
  · unfold f_C_X7_gather_16_3_7
    obtain ⟨F, rfl⟩ : ∃ y, F = y + 501 + 1 + K := ⟨F - 502 - K, by omega⟩
    simp only [z_lit, pm_let]
    rw [e1, l_C_X7_gather_16_3_7_7.eq_2]
    have sK : hs_I s1 3 4 = nI K := (g1.1 3 4 (by decide)).trans hP.1.2.1.1
    have e3' := e3 (F + 501 - 1 - K)
    rw [show F + 501 - 1 - K + 1 + K = F + 501 by omega] at e3'
    have e4' := e4 (F + 501 - 1 - q)
    rw [show F + 501 - 1 - q + 1 + q = F + 501 by omega] at e4'
    simp only [f_C_X6_size_3, f_C_X4_root_7, sK, pm_bd, pm_let, r9, C_ov, ov_nI (show fj m v < 500 by omega), f_C_X7_linkNodes_16_3_7, f_C_X4_drafts_7, pm_b1]
    rw [if_pos (Int32.le_refl _)]
    simp only [z_lit, ← hs2, e3', f_C_X7_countSlots_16]
    simp (disch := omega) only [↓reduceIte, z_lit, z_m1, z_gd, z_le, z_lt, z_eq, z_em, z_me, z_ml, z_mle, z_lm, z_lem, z_pos, z_sub, nI_add, nI_clamp, ib_nI, pm_let, pm_bd, pm_b1, if_true, if_false, ite_true, ite_false, Nat.not_lt_zero, Nat.zero_le, e4']
  · exact (f2.cons (l1.mono (by simp) (by decide))).cons ((hs_fr_pA (by decide)).cons (m1.mono (by simp) (by decide)))
  · rw [m1.1 16 4 (by simp)]; simp only [hs_I_pI, hs_I_pA, hs_A_pI, hs_A_pA, and_true, true_and, and_false, false_and, and_self, eq_self, Nat.reduceEqDiff, ↓reduceIte]; exact s34
  · rw [m1.1 16 5 (by simp)]; simp only [hs_I_pI, hs_I_pA, hs_A_pI, hs_A_pA, and_true, true_and, and_false, false_and, and_self, eq_self, Nat.reduceEqDiff, ↓reduceIte]; rw [l1.1 16 5 (by simp), hs2]; simp only [hs_I_pI, hs_I_pA, hs_A_pI, hs_A_pA, and_true, true_and, and_false, false_and, and_self, eq_self, Nat.reduceEqDiff, ↓reduceIte]; exact rt
  · intro t ht
    have := w2 t ht
    unfold cw at this ⊢
    rw [m1.2 25 (by decide)]
    simp only [hs_I_pI, hs_I_pA, hs_A_pI, hs_A_pA, and_true, true_and, and_false, false_and, and_self, eq_self, Nat.reduceEqDiff, ↓reduceIte]
    rw [l1.2 25 (by decide)]
    exact this
  · intro j hj
    have e0 : ∀ a, a ∈ [19, 20, 21, 22] → ∀ i, hs_A s4 a i = hs_A s3 a i := by
      intro a ha i
      have : ¬ a = 24 := by
        intro q; subst q; revert ha; decide
      rw [m1.2 a (by simpa using this)]
      simp only [hs_I_pI, hs_I_pA, hs_A_pI, hs_A_pA, and_true, true_and, and_false, false_and, and_self, eq_self, Nat.reduceEqDiff, ↓reduceIte, this]
    obtain ⟨l3, l4⟩ := l2 j hj (hf j hj).1
    refine ⟨by rw [e18]; exact g4 j hj (hf j hj).1, fun d hd => ?_, fun b hb h13 => ?_, fun h6 e he h15 => ?_⟩
    · rw [e0 (19 + d) (by rcases (show d = 0 ∨ d = 1 ∨ d = 2 by omega) with rfl | rfl | rfl <;> decide)]
      exact l3 d hd
    · rw [e0 22 (by decide)]
      exact l4 b hb (by rw [f2.2 13 (by decide)]; exact h13)
    · rw [m1.2 23 (by decide)]
      simp only [hs_I_pI, hs_I_pA, hs_A_pI, hs_A_pA, and_true, true_and, and_false, false_and, and_self, eq_self, Nat.reduceEqDiff, ↓reduceIte]
      rw [l1.2 23 (by decide), hs2]
      simp only [hs_I_pI, hs_I_pA, hs_A_pI, hs_A_pA, and_true, true_and, and_false, false_and, and_self, eq_self, Nat.reduceEqDiff, ↓reduceIte]
      exact g5 j hj h6 e he h15
  · intro i hi
    have := m2 i hi
    have ee : (fun i => hs_A (hs_pA s3 24 0 (nI 0)) 18 i) = (fun i => hs_A s4 18 i) := funext fun i => by
      rw [m1.2 18 (by decide)]
    rw [ee] at this
    exact this
