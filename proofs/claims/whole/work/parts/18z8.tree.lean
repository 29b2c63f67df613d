/-! SETTLE: its end -/
def rkS (m s : hp_S) (i : Nat) : Int32 := if hs_A m 6 i = nI 1 ∧ hs_A s 19 i ≠ nM then (if hs_A m 6 (hs_A s 19 i).toNatClampNeg = nI 3 then nI 32 else nI 33) else hs_A m 6 i
theorem S_kinds {m s1 : hp_S} {q : Nat} (hq : q ≤ 100) (hk : ∀ j, j < q → ∃ k, k < 40 ∧ hs_A m 6 j = nI k) (h19 : ∀ j, j < q → hs_A m 6 j = nI 1 → hs_A s1 19 j = nM ∨ ∃ b, b < q ∧ hs_A s1 19 j = nI b ∧ hs_A m 6 b ≠ nI 1) : ∀ (d j : Nat) (s : hp_S) (y : Int32), j + d = q → hs_fr [] [6] s1 s → hs_I s 0 12 = nI q → (∀ i, i < q → hs_A s 6 i = if i < j then rkS m s1 i else hs_A m 6 i) → ∃ s', (∀ F, l_M_X11_settle_0_283 (F + 1 + d) y (nI j) s = l_M_X11_settle_0_353 F y (nI 0) (hs_pA s' 18 0 (nI 0))) ∧ hs_fr [] [6] s1 s' ∧ ∀ i, i < q → hs_A s' 6 i = rkS m s1 i := by
  intro d
  induction d with
  | zero =>
    intro j s y e hfr h12 h6
    obtain rfl : j = q := by omega
    refine ⟨s, fun F => ?_, hfr, fun i hi => by rw [h6 i hi, if_pos hi]⟩
    rw [Nat.add_zero, l_M_X11_settle_0_283.eq_2, h12, if_pos (Int32.le_refl _)]
    simp (disch := omega) only [↓reduceIte, z_lit, z_m1, z_gd, z_le, z_lt, z_eq, z_em, z_me, z_ml, z_mle, z_lm, z_lem, z_pos, z_sub, nI_add, nI_clamp, ib_nI, pm_let, pm_bd, pm_b1, if_true, if_false, ite_true, ite_false, Nat.not_lt_zero, Nat.zero_le]
  | succ d ih =>
    intro j s y e hfr h12 h6
    have c : ¬ q ≤ j := by omega
    obtain ⟨k, k1, k2⟩ := hk j (by omega)
    have s6 : hs_A s 6 j = nI k := by rw [h6 j (by omega), if_neg (Nat.lt_irrefl _), k2]
    have s19 : ∀ i, hs_A s 19 i = hs_A s1 19 i := fun i => hfr.2 19 (by decide) i
    have key : ∃ s2, (∀ F, l_M_X11_settle_0_283 (F + 1) y (nI j) s = l_M_X11_settle_0_283 F y (nI (j + 1)) s2) ∧ s2 = hs_pA s 6 j (rkS m s1 j) := by
      by_cases c1 : k = 1
      · subst c1
        rcases h19 j (by omega) k2 with g | ⟨b, b1, b2, b3⟩
        · refine ⟨s, fun F => ?_, ?_⟩
          · rw [l_M_X11_settle_0_283.eq_2]
            simp (disch := omega) only [↓reduceIte, z_lit, z_m1, z_gd, z_le, z_lt, z_eq, z_em, z_me, z_ml, z_mle, z_lm, z_lem, z_pos, z_sub, nI_add, nI_clamp, ib_nI, pm_let, pm_bd, pm_b1, if_true, if_false, ite_true, ite_false, Nat.not_lt_zero, Nat.zero_le, h12, c, s6, s19, g, z_mz]
          · have : rkS m s1 j = nI 1 := by
              unfold rkS
              rw [if_neg (fun q => q.2 g), k2]
            rw [this, hs_pA_self s 6 j _ s6]
        · have e1 : hs_A s1 19 j ≠ nM := by rw [b2, ne_eq, z_em (by omega)]; exact not_false
          obtain ⟨kb, kb1, kb2⟩ := hk b b1
          have s6b : hs_A s 6 b = nI kb := by
            rw [h6 b b1]
            by_cases c2 : b < j
            · rw [if_pos c2]
              unfold rkS
              rw [if_neg (fun q => b3 q.1), kb2]
            · rw [if_neg c2, kb2]
          refine ⟨hs_pA s 6 j (rkS m s1 j), fun F => ?_, rfl⟩
          have er : rkS m s1 j = if kb = 3 then nI 32 else nI 33 := by
            unfold rkS
            rw [if_pos ⟨k2, e1⟩, b2, nI_clamp (by omega), kb2]
            simp only [z_eq (show kb < 2 ^ 31 by omega) (show 3 < 2 ^ 31 by omega)]
          rw [l_M_X11_settle_0_283.eq_2, er]
          by_cases c3 : kb = 3
          · subst c3
            simp (disch := omega) only [↓reduceIte, z_lit, z_m1, z_gd, z_le, z_lt, z_eq, z_em, z_me, z_ml, z_mle, z_lm, z_lem, z_pos, z_sub, nI_add, nI_clamp, ib_nI, pm_let, pm_bd, pm_b1, if_true, if_false, ite_true, ite_false, Nat.not_lt_zero, Nat.zero_le, h12, c, s6, s19, b2, s6b]
          · simp (disch := omega) only [↓reduceIte, z_lit, z_m1, z_gd, z_le, z_lt, z_eq, z_em, z_me, z_ml, z_mle, z_lm, z_lem, z_pos, z_sub, nI_add, nI_clamp, ib_nI, pm_let, pm_bd, pm_b1, if_true, if_false, ite_true, ite_false, Nat.not_lt_zero, Nat.zero_le, h12, c, s6, s19, b2, s6b, c3]
      · refine ⟨s, fun F => ?_, ?_⟩
        · rw [l_M_X11_settle_0_283.eq_2]
          simp (disch := omega) only [↓reduceIte, z_lit, z_m1, z_gd, z_le, z_lt, z_eq, z_em, z_me, z_ml, z_mle, z_lm, z_lem, z_pos, z_sub, nI_add, nI_clamp, ib_nI, pm_let, pm_bd, pm_b1, if_true, if_false, ite_true, ite_false, Nat.not_lt_zero, Nat.zero_le, h12, c, s6, c1]
        · have : rkS m s1 j = nI k := by
            unfold rkS
            rw [k2, if_neg (fun q => c1 ((nI_eq (by omega) (by omega)).mp q.1))]
          rw [this, hs_pA_self s 6 j _ s6]
    obtain ⟨s2, st, es⟩ := key
    obtain ⟨s', f1, f2, f3⟩ := ih (j + 1) s2 y (by omega) (by rw [es]; exact hfr.cons (hs_fr_pA (by decide))) (by rw [es]; simp only [hs_I_pI, hs_I_pA, hs_A_pI, hs_A_pA, and_true, true_and, and_false, false_and, and_self, eq_self, Nat.reduceEqDiff, ↓reduceIte]; exact h12) (fun i hi => by
      rw [es]
      by_cases c2 : i = j
      · subst c2
        simp only [hs_I_pI, hs_I_pA, hs_A_pI, hs_A_pA, and_true, true_and, and_false, false_and, and_self, eq_self, Nat.reduceEqDiff, ↓reduceIte]
        rw [if_pos (by omega)]
      · simp only [hs_I_pI, hs_I_pA, hs_A_pI, hs_A_pA, and_true, true_and, and_false, false_and, and_self, eq_self, Nat.reduceEqDiff, ↓reduceIte, c2]
        rw [h6 i hi]
        by_cases c3 : i < j
        · rw [if_pos c3, if_pos (by omega)]
        · rw [if_neg c3, if_neg (by omega)])
    exact ⟨s', fun F => by rw [← Nat.add_assoc, st, f1], f2, f3⟩
theorem S_fns {q : Nat} (hq : q ≤ 100) (g : Nat → Int32) (nd : Nat → Nat) : ∀ (d k : Nat) (s : hp_S) (y : Int32), k + d = q → hs_I s 0 12 = nI q → (∀ i, i < q → nd i < q ∧ hs_A s 17 i = nI (nd i) ∧ ((hs_A s 6 (nd i) = nI 3) ↔ (g i = nI 4))) → (∀ i, i ≤ k → hs_A s 18 i = nI (fbn g i)) → ∃ s', (∀ F, l_M_X11_settle_0_353 (F + 1 + d) y (nI k) s = l_M_X11_settle_0_353 (F + 1) y (nI q) s') ∧ hs_fr [] [18] s s' ∧ ∀ i, i ≤ q → hs_A s' 18 i = nI (fbn g i) := by
  intro d
  induction d with
  | zero =>
    intro k s y e h12 hn h
    obtain rfl : k = q := by omega
    exact ⟨s, fun F => rfl, hs_fr.rf, h⟩
  | succ d ih =>
    intro k s y e h12 hn h
    have c : ¬ q ≤ k := by omega
    obtain ⟨n1, n2, n3⟩ := hn k (by omega)
    have fl := fbn_le g k
    have e18 := h k (Nat.le_refl _)
    obtain ⟨s1, hs1⟩ : ∃ s1, s1 = hs_pA s 18 (k + 1) (nI (fbn g (k + 1))) := ⟨_, rfl⟩
    have st : ∀ F, l_M_X11_settle_0_353 (F + 1) y (nI k) s = l_M_X11_settle_0_353 F y (nI (k + 1)) s1 := by
      intro F
      rw [l_M_X11_settle_0_353.eq_2, hs1]
      by_cases c3 : g k = nI 4
      · have c4 := n3.mpr c3
        simp (disch := omega) only [↓reduceIte, z_lit, z_m1, z_gd, z_le, z_lt, z_eq, z_em, z_me, z_ml, z_mle, z_lm, z_lem, z_pos, z_sub, nI_add, nI_clamp, ib_nI, pm_let, pm_bd, pm_b1, if_true, if_false, ite_true, ite_false, Nat.not_lt_zero, Nat.zero_le, h12, c, n2, c4, e18, fbn, c3]
      · have c4 : ¬ hs_A s 6 (nd k) = nI 3 := fun q => c3 (n3.mp q)
        simp (disch := omega) only [↓reduceIte, z_lit, z_m1, z_gd, z_le, z_lt, z_eq, z_em, z_me, z_ml, z_mle, z_lm, z_lem, z_pos, z_sub, nI_add, nI_clamp, ib_nI, pm_let, pm_bd, pm_b1, if_true, if_false, ite_true, ite_false, Nat.not_lt_zero, Nat.zero_le, h12, c, n2, c4, e18, fbn, c3]
    obtain ⟨s', f1, f2, f3⟩ := ih (k + 1) s1 y (by omega) (by rw [hs1]; simp only [hs_I_pI, hs_I_pA, hs_A_pI, hs_A_pA, and_true, true_and, and_false, false_and, and_self, eq_self, Nat.reduceEqDiff, ↓reduceIte]; exact h12) (fun i hi => by
      rw [hs1]; simp only [hs_I_pI, hs_I_pA, hs_A_pI, hs_A_pA, and_true, true_and, and_false, false_and, and_self, eq_self, Nat.reduceEqDiff, ↓reduceIte]; exact hn i hi) (fun i hi => by
      rw [hs1]
      by_cases c4 : i = k + 1
      · rw [c4]; simp only [hs_I_pI, hs_I_pA, hs_A_pI, hs_A_pA, and_true, true_and, and_false, false_and, and_self, eq_self, Nat.reduceEqDiff, ↓reduceIte]
      · simp only [hs_I_pI, hs_I_pA, hs_A_pI, hs_A_pA, and_true, true_and, and_false, false_and, and_self, eq_self, Nat.reduceEqDiff, ↓reduceIte, c4]; exact h i (by omega))
    refine ⟨s', fun F => by rw [← Nat.add_assoc, st, f1], ?_, f3⟩
    rw [hs1] at f2
    exact (hs_fr_pA (by decide)).cons f2
/-! THE TREE, as both have it -/
def rk (kd mn : Nat → Nat) (k : Nat) : Nat := if kd k = 2 then (if kd (mn k) = 4 then 32 else 33) else kn (kd k)
def TR (s m : hp_S) (q : Nat) (kd mn be nd fb : Nat → Nat) (ch : Nat → Nat → Nat) : Prop :=
  (1 ≤ q ∧ q ≤ 100) ∧ hs_I s 16 4 = nI q ∧ hs_I m 0 12 = nI q ∧
  (∀ k, k < q → nk (kd k) ∧ hs_A s 18 k = nI (kd k) ∧ nd k < q ∧ hs_A m 17 k = nI (nd k) ∧ hs_A m 16 (nd k) = nI k ∧ hs_A m 6 (nd k) = nI (rk kd mn k)) ∧
  (∀ k, k < q → ∀ d, d < ar (kd k) → ch d k < q ∧ hs_A s (19 + d) k = nI (ch d k) ∧ hs_A m (7 + d) (nd k) = nI (nd (ch d k))) ∧
  (∀ k, k < q → kd k = 2 → mn k < q ∧ (kd (mn k) = 4 ∨ kd (mn k) = 5) ∧ hs_A s 22 k = nI (mn k) ∧ hs_A m 19 (nd k) = nI (nd (mn k))) ∧
  (fb 0 = 0 ∧ (∀ k, k < q → fb (k + 1) = fb k + if kd k = 4 then 1 else 0) ∧ ∀ k, k ≤ q → hs_A s 24 k = nI (k + fb k) ∧ hs_A m 18 k = nI (fb k)) ∧
  (∀ k, k < q → kd k = 5 → k + 1 < be k ∧ be k ≤ q ∧ hs_A s 23 k = nI (be k) ∧ (k + 1 ≤ ch 0 k ∧ ch 0 k < be k) ∧ (∀ i, k + 1 ≤ i → i < be k → ∀ d, d < ar (kd i) → k + 1 ≤ ch d i ∧ ch d i < be k) ∧ ∃ a b, a ≤ 500 ∧ b ≤ 500 ∧ hs_A m 14 (nd k) = nI a ∧ hs_A m 15 (nd k) = nI b ∧ bl m a q = k + 1 ∧ bl m b q = be k) ∧
  (∀ j, j < q → hs_A m 10 j = nI (fj m j) ∧ fj m j < 500 ∧ nd (nu m q j) = j) ∧ ∀ k, k < q → nu m q (nd k) = k
theorem kn_nk {k : Nat} (h : nk k) : (kn k = 1 ↔ k = 2) ∧ (kn k = 3 ↔ k = 4) ∧ (kn k = 4 ↔ k = 5) ∧ kn k < 40 ∧ k < 22 := by
  simp only [nk, List.mem_cons, List.not_mem_nil, or_false] at h
  rcases h with rfl | rfl | rfl | rfl | rfl | rfl | rfl | rfl | rfl | rfl | rfl | rfl | rfl | rfl <;> decide
theorem kn_inj {a b : Nat} (ha : nk a) (hb : nk b) (h : kn a = kn b) : a = b := by
  simp only [nk, List.mem_cons, List.not_mem_nil, or_false] at ha hb
  unfold kn at h
  repeat' split at h
  all_goals omega
theorem bl_congr {m m' : hp_S} (t : Nat) : ∀ q, (∀ j, j < q → fj m' j = fj m j) → bl m' t q = bl m t q
  | 0, _ => rfl
  | q + 1, h => by simp only [bl, bl_congr t q (fun j hj => h j (by omega)), h q (by omega)]
