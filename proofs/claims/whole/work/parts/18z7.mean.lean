/-! what names mean, in the reference -/
def sP : List Nat := [16, 17, 19]
theorem S_mN {T : Nat → Nat} {n K : Nat} {m s : hp_S} {q j y F : Nat} {J : Int32 → Int32 → hp_S → Option (Int32 × hp_S)} {y1 : Int32} (hQ : SQ T n K m q) (hfr : hs_fr [] sP m s) (h12 : hs_I s 0 12 = nI q) (hj : j < q) (hy : y < q) (hF : 510 ≤ F) (hb : ¬ bnd T n m y (fj m j)) : l_M_X11_settle_0_114 J (F + 1) y1 (nI j) (nI y) s = l_M_X11_settle_0_114 J F y1 (nI j) (nI (y + 1)) s := by
  obtain ⟨hT, hM, hq, hf, h34, hB, hk⟩ := hQ
  have hK := hT.2.1
  have c : ¬ q ≤ y := by omega
  obtain ⟨j1, j2⟩ := hf j hj
  have e : ∀ a, a ∉ sP → ∀ i, hs_A s a i = hs_A m a i := fun a ha i => hfr.2 a ha i
  obtain ⟨k, k1, k2⟩ := hk y hy
  have k2' : hs_A s 6 y = nI k := (e 6 (by decide) y).trans k2
  have j1' : hs_A s 10 j = nI (fj m j) := (e 10 (by decide) j).trans j1
  by_cases cB : isB m y
  · obtain ⟨a, b, b1, b2, b3, b4, b5, b6, -⟩ := hB y hy cB
    have kk : k = 3 ∨ k = 4 := by
      rcases cB with g | g
      · rw [k2, nI_eq (by omega) (by omega)] at g; exact Or.inl g
      · rw [k2, nI_eq (by omega) (by omega)] at g; exact Or.inr g
    have b1' : hs_A s 12 y = nI a := (e 12 (by decide) y).trans b1
    have b2' : hs_A s 13 y = nI b := (e 13 (by decide) y).trans b2
    have b5' : hs_A s 11 y = nI (fj m y + 1) := (e 11 (by decide) y).trans b5
    have e1 : sf m y = a := by simp only [sf, b1]; exact nI_clamp (by omega)
    have e2 : st m y = b := by simp only [st, b2]; exact nI_clamp (by omega)
    by_cases c1 : fj m j < a
    · rw [l_M_X11_settle_0_114.eq_2]
      rcases kk with rfl | rfl
      · simp (disch := omega) only [↓reduceIte, z_lit, z_m1, z_gd, z_le, z_lt, z_eq, z_em, z_me, z_ml, z_mle, z_lm, z_lem, z_pos, z_sub, nI_add, nI_clamp, ib_nI, pm_let, pm_bd, pm_b1, if_true, if_false, ite_true, ite_false, Nat.not_lt_zero, Nat.zero_le, h12, c, k2', j1', b1', c1]
      · simp (disch := omega) only [↓reduceIte, z_lit, z_m1, z_gd, z_le, z_lt, z_eq, z_em, z_me, z_ml, z_mle, z_lm, z_lem, z_pos, z_sub, nI_add, nI_clamp, ib_nI, pm_let, pm_bd, pm_b1, if_true, if_false, ite_true, ite_false, Nat.not_lt_zero, Nat.zero_le, h12, c, k2', j1', b1', c1]
        all_goals simp
    · by_cases c2 : b ≤ fj m j
      · rw [l_M_X11_settle_0_114.eq_2]
        rcases kk with rfl | rfl
        · simp (disch := omega) only [↓reduceIte, z_lit, z_m1, z_gd, z_le, z_lt, z_eq, z_em, z_me, z_ml, z_mle, z_lm, z_lem, z_pos, z_sub, nI_add, nI_clamp, ib_nI, pm_let, pm_bd, pm_b1, if_true, if_false, ite_true, ite_false, Nat.not_lt_zero, Nat.zero_le, h12, c, k2', j1', b1', b2', c1, c2]
        · simp (disch := omega) only [↓reduceIte, z_lit, z_m1, z_gd, z_le, z_lt, z_eq, z_em, z_me, z_ml, z_mle, z_lm, z_lem, z_pos, z_sub, nI_add, nI_clamp, ib_nI, pm_let, pm_bd, pm_b1, if_true, if_false, ite_true, ite_false, Nat.not_lt_zero, Nat.zero_le, h12, c, k2', j1', b1', b2', c1, c2]
          all_goals simp
      · have hs : tk_sm T n (fj m j) (fj m y + 1) = false := by
          rw [tk_sm_symm]
          cases hh : tk_sm T n (fj m y + 1) (fj m j) with
          | false => rfl
          | true => exact absurd ⟨cB, by omega, by omega, hh⟩ hb
        have hM' : M_tx s T n := M_tx_fr hM hfr (by decide)
        have m1 : m34 T n s (fj m j) := ⟨(e 3 (by decide) _).trans (h34 _ j2).1, (e 4 (by decide) _).trans (h34 _ j2).2⟩
        have m2 : m34 T n s (fj m y + 1) := ⟨(e 3 (by decide) _).trans (h34 _ b6).1, (e 4 (by decide) _).trans (h34 _ b6).2⟩
        have es := M_sameName hT hM' j2 b6 m1 m2 F hF
        rw [hs] at es
        have es' : f_M_X11_sameName_0 F (nI (fj m j)) (nI (fj m y + 1)) s = some (nI 0, s) := es
        rw [l_M_X11_settle_0_114.eq_2]
        rcases kk with rfl | rfl
        · simp (disch := omega) only [↓reduceIte, z_lit, z_m1, z_gd, z_le, z_lt, z_eq, z_em, z_me, z_ml, z_mle, z_lm, z_lem, z_pos, z_sub, nI_add, nI_clamp, ib_nI, pm_let, pm_bd, pm_b1, if_true, if_false, ite_true, ite_false, Nat.not_lt_zero, Nat.zero_le, h12, c, k2', j1', b1', b2', b5', c1, c2, es']
        · simp (disch := omega) only [↓reduceIte, z_lit, z_m1, z_gd, z_le, z_lt, z_eq, z_em, z_me, z_ml, z_mle, z_lm, z_lem, z_pos, z_sub, nI_add, nI_clamp, ib_nI, pm_let, pm_bd, pm_b1, if_true, if_false, ite_true, ite_false, Nat.not_lt_zero, Nat.zero_le, h12, c, k2', j1', b1', b2', b5', c1, c2, es']
          all_goals simp
  · have k3 : k ≠ 3 := fun g => cB (Or.inl (by rw [k2, g]))
    have k4 : k ≠ 4 := fun g => cB (Or.inr (by rw [k2, g]))
    rw [l_M_X11_settle_0_114.eq_2]
    simp (disch := omega) only [↓reduceIte, z_lit, z_m1, z_gd, z_le, z_lt, z_eq, z_em, z_me, z_ml, z_mle, z_lm, z_lem, z_pos, z_sub, nI_add, nI_clamp, ib_nI, pm_let, pm_bd, pm_b1, if_true, if_false, ite_true, ite_false, Nat.not_lt_zero, Nat.zero_le, h12, c, k2', k3, k4]
theorem S_mY {T : Nat → Nat} {n K : Nat} {m s : hp_S} {q j y F : Nat} {J : Int32 → Int32 → hp_S → Option (Int32 × hp_S)} {y1 : Int32} (hQ : SQ T n K m q) (hfr : hs_fr [] sP m s) (h12 : hs_I s 0 12 = nI q) (hj : j < q) (hy : y < q) (hF : 510 ≤ F) (hb : bnd T n m y (fj m j)) (hx : MB T n m (fj m j) y (hs_A s 19 j)) : ∃ x, MB T n m (fj m j) (y + 1) x ∧ l_M_X11_settle_0_114 J (F + 1) y1 (nI j) (nI y) s = l_M_X11_settle_0_114 J F y1 (nI j) (nI (y + 1)) (hs_pA s 19 j x) := by
  obtain ⟨hT, hM, hq, hf, h34, hB, hk⟩ := hQ
  have hK := hT.2.1
  have c : ¬ q ≤ y := by omega
  obtain ⟨j1, j2⟩ := hf j hj
  have e : ∀ a, a ∉ sP → ∀ i, hs_A s a i = hs_A m a i := fun a ha i => hfr.2 a ha i
  obtain ⟨k, k1, k2⟩ := hk y hy
  have k2' : hs_A s 6 y = nI k := (e 6 (by decide) y).trans k2
  have j1' : hs_A s 10 j = nI (fj m j) := (e 10 (by decide) j).trans j1
  obtain ⟨cB, g1, g2, g3⟩ := id hb
  obtain ⟨a, b, b1, b2, b3, b4, b5, b6, -⟩ := hB y hy cB
  have kk : k = 3 ∨ k = 4 := by
    rcases cB with g | g
    · rw [k2, nI_eq (by omega) (by omega)] at g; exact Or.inl g
    · rw [k2, nI_eq (by omega) (by omega)] at g; exact Or.inr g
  have b1' : hs_A s 12 y = nI a := (e 12 (by decide) y).trans b1
  have b2' : hs_A s 13 y = nI b := (e 13 (by decide) y).trans b2
  have b5' : hs_A s 11 y = nI (fj m y + 1) := (e 11 (by decide) y).trans b5
  have e1 : sf m y = a := by simp only [sf, b1]; exact nI_clamp (by omega)
  have e2 : st m y = b := by simp only [st, b2]; exact nI_clamp (by omega)
  have c1 : ¬ fj m j < a := by omega
  have c2 : ¬ b ≤ fj m j := by omega
  have hM' : M_tx s T n := M_tx_fr hM hfr (by decide)
  have m1 : m34 T n s (fj m j) := ⟨(e 3 (by decide) _).trans (h34 _ j2).1, (e 4 (by decide) _).trans (h34 _ j2).2⟩
  have m2 : m34 T n s (fj m y + 1) := ⟨(e 3 (by decide) _).trans (h34 _ b6).1, (e 4 (by decide) _).trans (h34 _ b6).2⟩
  have es := M_sameName hT hM' j2 b6 m1 m2 F hF
  rw [tk_sm_symm, g3] at es
  have es' : f_M_X11_sameName_0 F (nI (fj m j)) (nI (fj m y + 1)) s = some (nI 1, s) := es
  rcases hx with ⟨x1, x2⟩ | ⟨w, w1, w2, w3, w4⟩
  · refine ⟨nI y, Or.inr ⟨y, by omega, rfl, hb, fun d hd hd2 => ?_⟩, ?_⟩
    · by_cases c3 : d = y
      · rw [c3]; exact Nat.le_refl _
      · exact absurd hd2 (x2 d (by omega))
    · rw [l_M_X11_settle_0_114.eq_2]
      rcases kk with rfl | rfl
      · simp (disch := omega) only [↓reduceIte, z_lit, z_m1, z_gd, z_le, z_lt, z_eq, z_em, z_me, z_ml, z_mle, z_lm, z_lem, z_pos, z_sub, nI_add, nI_clamp, ib_nI, pm_let, pm_bd, pm_b1, if_true, if_false, ite_true, ite_false, Nat.not_lt_zero, Nat.zero_le, h12, c, k2', j1', b1', b2', b5', c1, c2, es', x1, z_mz]
        all_goals simp
      · simp (disch := omega) only [↓reduceIte, z_lit, z_m1, z_gd, z_le, z_lt, z_eq, z_em, z_me, z_ml, z_mle, z_lm, z_lem, z_pos, z_sub, nI_add, nI_clamp, ib_nI, pm_let, pm_bd, pm_b1, if_true, if_false, ite_true, ite_false, Nat.not_lt_zero, Nat.zero_le, h12, c, k2', j1', b1', b2', b5', c1, c2, es', x1, z_mz]
        all_goals simp
  · obtain ⟨a', b', d1, d2, d3, d4, d5, d6, -⟩ := hB w (by omega) w3.1
    have d1' : hs_A s 12 w = nI a' := (e 12 (by decide) w).trans d1
    have e3 : sf m w = a' := by simp only [sf, d1]; exact nI_clamp (by omega)
    by_cases c4 : a ≤ a'
    · refine ⟨nI w, Or.inr ⟨w, by omega, rfl, w3, fun d hd hd2 => ?_⟩, ?_⟩
      · by_cases c3 : d = y
        · rw [c3]; omega
        · exact w4 d (by omega) hd2
      · rw [hs_pA_self s 19 j _ w2, l_M_X11_settle_0_114.eq_2]
        rcases kk with rfl | rfl
        · simp (disch := omega) only [↓reduceIte, z_lit, z_m1, z_gd, z_le, z_lt, z_eq, z_em, z_me, z_ml, z_mle, z_lm, z_lem, z_pos, z_sub, nI_add, nI_clamp, ib_nI, pm_let, pm_bd, pm_b1, if_true, if_false, ite_true, ite_false, Nat.not_lt_zero, Nat.zero_le, h12, c, k2', j1', b1', b2', b5', c1, c2, es', w2, d1', c4]
          all_goals simp
        · simp (disch := omega) only [↓reduceIte, z_lit, z_m1, z_gd, z_le, z_lt, z_eq, z_em, z_me, z_ml, z_mle, z_lm, z_lem, z_pos, z_sub, nI_add, nI_clamp, ib_nI, pm_let, pm_bd, pm_b1, if_true, if_false, ite_true, ite_false, Nat.not_lt_zero, Nat.zero_le, h12, c, k2', j1', b1', b2', b5', c1, c2, es', w2, d1', c4]
          all_goals simp
    · refine ⟨nI y, Or.inr ⟨y, by omega, rfl, hb, fun d hd hd2 => ?_⟩, ?_⟩
      · by_cases c3 : d = y
        · rw [c3]; exact Nat.le_refl _
        · have := w4 d (by omega) hd2
          omega
      · rw [l_M_X11_settle_0_114.eq_2]
        rcases kk with rfl | rfl
        · simp (disch := omega) only [↓reduceIte, z_lit, z_m1, z_gd, z_le, z_lt, z_eq, z_em, z_me, z_ml, z_mle, z_lm, z_lem, z_pos, z_sub, nI_add, nI_clamp, ib_nI, pm_let, pm_bd, pm_b1, if_true, if_false, ite_true, ite_false, Nat.not_lt_zero, Nat.zero_le, h12, c, k2', j1', b1', b2', b5', c1, c2, es', w2, d1', c4]
          all_goals simp
        · simp (disch := omega) only [↓reduceIte, z_lit, z_m1, z_gd, z_le, z_lt, z_eq, z_em, z_me, z_ml, z_mle, z_lm, z_lem, z_pos, z_sub, nI_add, nI_clamp, ib_nI, pm_let, pm_bd, pm_b1, if_true, if_false, ite_true, ite_false, Nat.not_lt_zero, Nat.zero_le, h12, c, k2', j1', b1', b2', b5', c1, c2, es', w2, d1', c4]
          all_goals simp
theorem S_mAll {T : Nat → Nat} {n K : Nat} {m : hp_S} {q j : Nat} (hQ : SQ T n K m q) (hj : j < q) (J : Int32 → Int32 → hp_S → Option (Int32 × hp_S)) (y1 : Int32) : ∀ (d y : Nat) (s : hp_S), y + d = q → hs_fr [] sP m s → hs_I s 0 12 = nI q → MB T n m (fj m j) y (hs_A s 19 j) → ∃ x, MB T n m (fj m j) q x ∧ ∀ F, 510 ≤ F → l_M_X11_settle_0_114 J (F + d) y1 (nI j) (nI y) s = l_M_X11_settle_0_114 J F y1 (nI j) (nI q) (hs_pA s 19 j x) := by
  intro d
  induction d with
  | zero =>
    intro y s e hfr h12 hx
    obtain rfl : y = q := by omega
    exact ⟨hs_A s 19 j, hx, fun F hF => by rw [hs_pA_self s 19 j _ rfl]; rfl⟩
  | succ d ih =>
    intro y s e hfr h12 hx
    by_cases hb : bnd T n m y (fj m j)
    · have h1 := fun F (hF : 510 ≤ F) => S_mY (J := J) (y1 := y1) hQ hfr h12 hj (show y < q by omega) hF hb hx
      obtain ⟨x, hx1, -⟩ := h1 510 (Nat.le_refl _)
      -- the new value doesn't depend on the fuel
      have h2 : ∀ F, 510 ≤ F → ∃ x, MB T n m (fj m j) (y + 1) x ∧ l_M_X11_settle_0_114 J (F + 1) y1 (nI j) (nI y) s = l_M_X11_settle_0_114 J F y1 (nI j) (nI (y + 1)) (hs_pA s 19 j x) := h1
      have u : ∀ x x', MB T n m (fj m j) (y + 1) x → MB T n m (fj m j) (y + 1) x' → x = x' := by
        intro x x' h h'
        rcases h with ⟨-, g⟩ | ⟨b, b1, b2, b3, b4⟩
        · exact absurd hb (g y (by omega))
        rcases h' with ⟨-, g⟩ | ⟨c, c1, c2, c3, c4⟩
        · exact absurd hb (g y (by omega))
        have e1 := b4 c c1 c3
        have e2 := c4 b b1 b3
        have es : sf m b = sf m c := by omega
        obtain ⟨-, -, -, -, -, hB, -⟩ := hQ
        obtain ⟨a1, a2, a3, a4, a5, a6, a7, a8, a9⟩ := hB b (by omega) b3.1
        obtain ⟨d1, d2, d3, d4, d5, d6, d7, d8, d9⟩ := hB c (by omega) c3.1
        have f1 : sf m b = a1 := by simp only [sf, a3]; exact nI_clamp (by omega)
        have f2 : sf m c = d1 := by simp only [sf, d3]; exact nI_clamp (by omega)
        rw [show a1 = d1 by omega, d9] at a9
        rw [b2, c2, a9]
      obtain ⟨x', hx', h3⟩ := ih (y + 1) (hs_pA s 19 j x) (by omega) (hfr.cons (hs_fr_pA (by decide))) (by simp only [hs_I_pI, hs_I_pA, hs_A_pI, hs_A_pA, and_true, true_and, and_false, false_and, and_self, eq_self, Nat.reduceEqDiff, ↓reduceIte]; exact h12) (by simp only [hs_I_pI, hs_I_pA, hs_A_pI, hs_A_pA, and_true, true_and, and_false, false_and, and_self, eq_self, Nat.reduceEqDiff, ↓reduceIte]; exact hx1)
      refine ⟨x', hx', fun F hF => ?_⟩
      obtain ⟨x2, hx2, h4⟩ := h2 (F + d) (by omega)
      rw [← Nat.add_assoc, h4, u x2 x hx2 hx1, h3 F hF, hs_pA_pA]
    · obtain ⟨x', hx', h3⟩ := ih (y + 1) s (by omega) hfr h12 (by
        rcases hx with ⟨x1, x2⟩ | ⟨w, w1, w2, w3, w4⟩
        · refine Or.inl ⟨x1, fun c hc => ?_⟩
          by_cases c3 : c = y
          · rw [c3]; exact hb
          · exact x2 c (by omega)
        · refine Or.inr ⟨w, by omega, w2, w3, fun c hc hc2 => ?_⟩
          by_cases c3 : c = y
          · rw [c3] at hc2; exact absurd hc2 hb
          · exact w4 c (by omega) hc2)
      refine ⟨x', hx', fun F hF => ?_⟩
      rw [← Nat.add_assoc, S_mN hQ hfr h12 hj (by omega) (by omega) hb, h3 F hF]
theorem S_mE1 {m s : hp_S} {q j b F : Nat} {J : Int32 → Int32 → hp_S → Option (Int32 × hp_S)} {y1 : Int32} (hq : q ≤ 100) (hj : j < q) (hb : b < q) (h12 : hs_I s 0 12 = nI q) (h19 : hs_A s 19 j = nI b) : l_M_X11_settle_0_114 J (F + 1) y1 (nI j) (nI q) s = J y1 (nI j) s := by
  rw [l_M_X11_settle_0_114.eq_2]
  have c : q ≤ q := Nat.le_refl _
  simp (disch := omega) only [↓reduceIte, z_lit, z_m1, z_gd, z_le, z_lt, z_eq, z_em, z_me, z_ml, z_mle, z_lm, z_lem, z_pos, z_sub, nI_add, nI_clamp, ib_nI, pm_let, pm_bd, pm_b1, if_true, if_false, ite_true, ite_false, Nat.not_lt_zero, Nat.zero_le, h12, c, h19]
theorem S_mE2 {s : hp_S} {q j F : Nat} {J : Int32 → Int32 → hp_S → Option (Int32 × hp_S)} (hq : q ≤ 100) (hj : j < q) (h12 : hs_I s 0 12 = nI q) (h19 : hs_A s 19 j = nM) : l_M_X11_settle_0_114 J (F + 1) nM (nI j) (nI q) s = J (nI j) (nI j) s := by
  rw [l_M_X11_settle_0_114.eq_2]
  have c : q ≤ q := Nat.le_refl _
  have e : (nI 0 ≤ nM) = False := by decide
  simp (disch := omega) only [↓reduceIte, z_lit, z_m1, z_gd, z_le, z_lt, z_eq, z_em, z_me, z_ml, z_mle, z_lm, z_lem, z_pos, z_sub, nI_add, nI_clamp, ib_nI, pm_let, pm_bd, pm_b1, if_true, if_false, ite_true, ite_false, Nat.not_lt_zero, Nat.zero_le, h12, c, h19, e, z_mz]
theorem S_mE3 {s : hp_S} {q j u fu fj' F : Nat} {J : Int32 → Int32 → hp_S → Option (Int32 × hp_S)} (hq : q ≤ 100) (hj : j < q) (hu : u < q) (h12 : hs_I s 0 12 = nI q) (h19 : hs_A s 19 j = nM) (h1 : hs_A s 10 u = nI fu) (h2 : hs_A s 10 j = nI fj') (f1 : fu < 1000) (f2 : fj' < 1000) : l_M_X11_settle_0_114 J (F + 1) (nI u) (nI j) (nI q) s = J (if fu ≤ fj' then nI u else nI j) (nI j) s := by
  rw [l_M_X11_settle_0_114.eq_2]
  have c : q ≤ q := Nat.le_refl _
  have e : (nI 0 ≤ nM) = False := by decide
  by_cases c2 : fu ≤ fj'
  · simp (disch := omega) only [↓reduceIte, z_lit, z_m1, z_gd, z_le, z_lt, z_eq, z_em, z_me, z_ml, z_mle, z_lm, z_lem, z_pos, z_sub, nI_add, nI_clamp, ib_nI, pm_let, pm_bd, pm_b1, if_true, if_false, ite_true, ite_false, Nat.not_lt_zero, Nat.zero_le, h12, c, h19, e, h1, h2, c2]
  · simp (disch := omega) only [↓reduceIte, z_lit, z_m1, z_gd, z_le, z_lt, z_eq, z_em, z_me, z_ml, z_mle, z_lm, z_lem, z_pos, z_sub, nI_add, nI_clamp, ib_nI, pm_let, pm_bd, pm_b1, if_true, if_false, ite_true, ite_false, Nat.not_lt_zero, Nat.zero_le, h12, c, h19, e, h1, h2, c2]
/-- the stray name so far -/
def SI (m s : hp_S) (j : Nat) (y : Int32) : Prop := (y = nM ∧ ∀ i, i < j → hs_A m 6 i = nI 1 → hs_A s 19 i ≠ nM) ∨ ∃ u, u < j ∧ y = nI u ∧ hs_A m 6 u = nI 1 ∧ hs_A s 19 u = nM ∧ ∀ i, i < j → hs_A m 6 i = nI 1 → hs_A s 19 i = nM → fj m u ≤ fj m i
theorem S_means {T : Nat → Nat} {n K : Nat} {m : hp_S} {q : Nat} (hQ : SQ T n K m q) : ∀ (d j : Nat) (s : hp_S) (y : Int32), j + d = q → hs_fr [] sP m s → hs_I s 0 12 = nI q → (∀ i, i < j → hs_A m 6 i = nI 1 → MB T n m (fj m i) q (hs_A s 19 i)) → SI m s j y → ∃ s' y', (∀ F, 700 ≤ F → l_M_X11_settle_0_84 (F + 1 + d) y (nI j) s = l_M_X11_settle_0_283 F y' (nI 0) s') ∧ hs_fr [] sP m s' ∧ hs_fr [] [19] s s' ∧ (∀ i, i < q → hs_A m 6 i = nI 1 → MB T n m (fj m i) q (hs_A s' 19 i)) ∧ SI m s' q y' := by
  intro d
  induction d with
  | zero =>
    intro j s y e hfr h12 hM hS
    obtain rfl : j = q := by omega
    refine ⟨s, y, fun F hF => ?_, hfr, hs_fr.rf, hM, hS⟩
    rw [Nat.add_zero, l_M_X11_settle_0_84.eq_2, h12, if_pos (Int32.le_refl _)]
    rfl
  | succ d ih =>
    intro j s y e hfr h12 hM hS
    have hq := hQ.2.2.1
    have hK := hQ.1.2.1
    have c : ¬ q ≤ j := by omega
    obtain ⟨k, k1, k2⟩ := hQ.2.2.2.2.2.2 j (by omega)
    have k2' : hs_A s 6 j = nI k := (hfr.2 6 (by decide) j).trans k2
    by_cases c1 : k = 1
    · subst c1
      have f1 : hs_fr [] sP m (hs_pA s 19 j nM) := hfr.cons (hs_fr_pA (by decide))
      obtain ⟨x, hx, h3⟩ := S_mAll hQ (show j < q by omega) (fun (z1 : Int32) (z2 : Int32) (s : hp_S) => none) y q 0 (hs_pA s 19 j nM) (by omega) f1 (by simp only [hs_I_pI, hs_I_pA, hs_A_pI, hs_A_pA, and_true, true_and, and_false, false_and, and_self, eq_self, Nat.reduceEqDiff, ↓reduceIte]; exact h12) (Or.inl ⟨by simp only [hs_I_pI, hs_I_pA, hs_A_pI, hs_A_pA, and_true, true_and, and_false, false_and, and_self, eq_self, Nat.reduceEqDiff, ↓reduceIte], fun c hc => by omega⟩)
      have s12 : hs_I (hs_pA (hs_pA s 19 j nM) 19 j x) 0 12 = nI q := by simp only [hs_I_pI, hs_I_pA, hs_A_pI, hs_A_pA, and_true, true_and, and_false, false_and, and_self, eq_self, Nat.reduceEqDiff, ↓reduceIte]; exact h12
      have s19 : hs_A (hs_pA (hs_pA s 19 j nM) 19 j x) 19 j = x := by simp only [hs_I_pI, hs_I_pA, hs_A_pI, hs_A_pA, and_true, true_and, and_false, false_and, and_self, eq_self, Nat.reduceEqDiff, ↓reduceIte]
      have s10 : ∀ i, hs_A (hs_pA (hs_pA s 19 j nM) 19 j x) 10 i = hs_A m 10 i := fun i => by simp only [hs_I_pI, hs_I_pA, hs_A_pI, hs_A_pA, and_true, true_and, and_false, false_and, and_self, eq_self, Nat.reduceEqDiff, ↓reduceIte]; exact hfr.2 10 (by decide) i
      have f2 : hs_fr [] sP m (hs_pA (hs_pA s 19 j nM) 19 j x) := f1.cons (hs_fr_pA (by decide))
      have u19 : ∀ i, i ≠ j → hs_A (hs_pA (hs_pA s 19 j nM) 19 j x) 19 i = hs_A s 19 i := fun i hi => by simp only [hs_I_pI, hs_I_pA, hs_A_pI, hs_A_pA, and_true, true_and, and_false, false_and, and_self, eq_self, Nat.reduceEqDiff, ↓reduceIte, hi]
      -- one round of the outer loop
      have key : ∃ y', SI m (hs_pA (hs_pA s 19 j nM) 19 j x) (j + 1) y' ∧ ∀ F, 700 ≤ F → l_M_X11_settle_0_84 (F + 1) y (nI j) s = l_M_X11_settle_0_84 F y' (nI (j + 1)) (hs_pA (hs_pA s 19 j nM) 19 j x) := by
        have op : ∀ F, 700 ≤ F → ∃ x', MB T n m (fj m j) q x' ∧ l_M_X11_settle_0_84 (F + 1) y (nI j) s = l_M_X11_settle_0_114 (fun (z1 : Int32) (z2 : Int32) (s : hp_S) => l_M_X11_settle_0_84 F z1 (z2 + 1) s) (F - q) y (nI j) (nI q) (hs_pA (hs_pA s 19 j nM) 19 j x') := by
          intro F hF
          obtain ⟨x', hx', h4⟩ := S_mAll hQ (show j < q by omega) (fun (z1 : Int32) (z2 : Int32) (s : hp_S) => l_M_X11_settle_0_84 F z1 (z2 + 1) s) y q 0 (hs_pA s 19 j nM) (by omega) f1 (by simp only [hs_I_pI, hs_I_pA, hs_A_pI, hs_A_pA, and_true, true_and, and_false, false_and, and_self, eq_self, Nat.reduceEqDiff, ↓reduceIte]; exact h12) (Or.inl ⟨by simp only [hs_I_pI, hs_I_pA, hs_A_pI, hs_A_pA, and_true, true_and, and_false, false_and, and_self, eq_self, Nat.reduceEqDiff, ↓reduceIte], fun c hc => by omega⟩)
          refine ⟨x', hx', ?_⟩
          rw [← h4 (F - q) (by omega), show F - q + q = F by omega, l_M_X11_settle_0_84.eq_2]
          simp (disch := omega) only [↓reduceIte, z_lit, z_m1, z_gd, z_le, z_lt, z_eq, z_em, z_me, z_ml, z_mle, z_lm, z_lem, z_pos, z_sub, nI_add, nI_clamp, ib_nI, pm_let, pm_bd, pm_b1, if_true, if_false, ite_true, ite_false, Nat.not_lt_zero, Nat.zero_le, h12, c, k2']
        have u : ∀ x', MB T n m (fj m j) q x' → x' = x := by
          intro x' h'
          rcases hx with ⟨g1, g2⟩ | ⟨b, b1, b2, b3, b4⟩
          · rcases h' with ⟨g3, -⟩ | ⟨c, c1, -, c3, -⟩
            · rw [g1, g3]
            · exact absurd c3 (g2 c c1)
          · rcases h' with ⟨-, g4⟩ | ⟨c, c1, c2, c3, c4⟩
            · exact absurd b3 (g4 b b1)
            · have e1 := b4 c c1 c3
              have e2 := c4 b b1 b3
              obtain ⟨-, -, -, -, -, hB, -⟩ := hQ
              obtain ⟨a1, a2, a3, a4, a5, a6, a7, a8, a9⟩ := hB b (by omega) b3.1
              obtain ⟨d1, d2, d3, d4, d5, d6, d7, d8, d9⟩ := hB c (by omega) c3.1
              have f1 : sf m b = a1 := by simp only [sf, a3]; exact nI_clamp (by omega)
              have f2 : sf m c = d1 := by simp only [sf, d3]; exact nI_clamp (by omega)
              rw [show a1 = d1 by omega, d9] at a9
              rw [b2, c2, a9]
        have op2 : ∀ F, 700 ≤ F → l_M_X11_settle_0_84 (F + 1) y (nI j) s = l_M_X11_settle_0_114 (fun (z1 : Int32) (z2 : Int32) (s : hp_S) => l_M_X11_settle_0_84 F z1 (z2 + 1) s) (F - q - 1 + 1) y (nI j) (nI q) (hs_pA (hs_pA s 19 j nM) 19 j x) := by
          intro F hF
          obtain ⟨x', hx', h4⟩ := op F hF
          rw [h4, u x' hx', show F - q - 1 + 1 = F - q by omega]
        have nx : nI j + 1 = nI (j + 1) := by simp (disch := omega) only [↓reduceIte, z_lit, z_m1, z_gd, z_le, z_lt, z_eq, z_em, z_me, z_ml, z_mle, z_lm, z_lem, z_pos, z_sub, nI_add, nI_clamp, ib_nI, pm_let, pm_bd, pm_b1, if_true, if_false, ite_true, ite_false, Nat.not_lt_zero, Nat.zero_le]
        rcases hx with ⟨g1, g2⟩ | ⟨b, b1, b2, b3, b4⟩
        · have s19' := s19.trans g1
          rcases hS with ⟨y1, y2⟩ | ⟨w, w1, w2, w3, w4, w5⟩
          · refine ⟨nI j, Or.inr ⟨j, by omega, rfl, k2, s19', fun i hi h1 h2 => ?_⟩, fun F hF => ?_⟩
            · by_cases c3 : i = j
              · rw [c3]; exact Nat.le_refl _
              · rw [u19 i c3] at h2
                exact absurd h2 (y2 i (by omega) h1)
            · rw [op2 F hF, y1, S_mE2 hq (by omega) s12 s19', nx]
          · obtain ⟨fw1, fw2⟩ := hQ.2.2.2.1 w (by omega)
            obtain ⟨fj1, fj2⟩ := hQ.2.2.2.1 j (by omega)
            have st : ∀ F, 700 ≤ F → l_M_X11_settle_0_84 (F + 1) y (nI j) s = l_M_X11_settle_0_84 F (if fj m w ≤ fj m j then nI w else nI j) (nI (j + 1)) (hs_pA (hs_pA s 19 j nM) 19 j x) := by
              intro F hF
              rw [op2 F hF, w2, S_mE3 (fu := fj m w) (fj' := fj m j) hq (by omega) (by omega) s12 s19' (by rw [s10]; exact fw1) (by rw [s10]; exact fj1) (by omega) (by omega), nx]
            by_cases c4 : fj m w ≤ fj m j
            · rw [if_pos c4] at st
              refine ⟨nI w, Or.inr ⟨w, by omega, rfl, w3, by rw [u19 w (by omega)]; exact w4, fun i hi h1 h2 => ?_⟩, st⟩
              by_cases c3 : i = j
              · rw [c3]; exact c4
              · rw [u19 i c3] at h2
                exact w5 i (by omega) h1 h2
            · rw [if_neg c4] at st
              refine ⟨nI j, Or.inr ⟨j, by omega, rfl, k2, s19', fun i hi h1 h2 => ?_⟩, st⟩
              by_cases c3 : i = j
              · rw [c3]; exact Nat.le_refl _
              · rw [u19 i c3] at h2
                have := w5 i (by omega) h1 h2
                omega
        · refine ⟨y, ?_, fun F hF => ?_⟩
          · rcases hS with ⟨y1, y2⟩ | ⟨w, w1, w2, w3, w4, w5⟩
            · refine Or.inl ⟨y1, fun i hi h1 => ?_⟩
              by_cases c3 : i = j
              · rw [c3, s19, b2, ne_eq, z_em (by omega)]; exact not_false
              · rw [u19 i c3]; exact y2 i (by omega) h1
            · refine Or.inr ⟨w, by omega, w2, w3, by rw [u19 w (by omega)]; exact w4, fun i hi h1 h2 => ?_⟩
              by_cases c3 : i = j
              · rw [c3, s19, b2, z_em (by omega)] at h2; exact h2.elim
              · rw [u19 i c3] at h2; exact w5 i (by omega) h1 h2
          · rw [op2 F hF, S_mE1 (m := m) (b := b) hq (by omega) b1 s12 (by rw [s19, b2]), nx]
      obtain ⟨y', hy', h5⟩ := key
      obtain ⟨s', y2, r1, r2, r3, r4, r5⟩ := ih (j + 1) _ y' (by omega) f2 s12 (fun i hi h1 => by
        by_cases c3 : i = j
        · rw [c3, s19]; exact hx
        · rw [u19 i c3]; exact hM i (by omega) h1) hy'
      refine ⟨s', y2, fun F hF => ?_, r2, ((hs_fr_pA (by decide)).cons (hs_fr_pA (by decide))).cons r3, r4, r5⟩
      rw [← Nat.add_assoc, h5 (F + 1 + d) (by omega), r1 F hF]
    · have st : ∀ F, l_M_X11_settle_0_84 (F + 1) y (nI j) s = l_M_X11_settle_0_84 F y (nI (j + 1)) s := by
        intro F
        rw [l_M_X11_settle_0_84.eq_2]
        simp (disch := omega) only [↓reduceIte, z_lit, z_m1, z_gd, z_le, z_lt, z_eq, z_em, z_me, z_ml, z_mle, z_lm, z_lem, z_pos, z_sub, nI_add, nI_clamp, ib_nI, pm_let, pm_bd, pm_b1, if_true, if_false, ite_true, ite_false, Nat.not_lt_zero, Nat.zero_le, h12, c, k2', c1]
      have nn : hs_A m 6 j ≠ nI 1 := by rw [k2, ne_eq, nI_eq (by omega) (by omega)]; exact c1
      obtain ⟨s', y2, r1, r2, r3, r4, r5⟩ := ih (j + 1) s y (by omega) hfr h12 (fun i hi h1 => by
        by_cases c3 : i = j
        · rw [c3] at h1; exact absurd h1 nn
        · exact hM i (by omega) h1) (by
        rcases hS with ⟨y1, y2⟩ | ⟨w, w1, w2, w3, w4, w5⟩
        · refine Or.inl ⟨y1, fun i hi h1 => ?_⟩
          by_cases c3 : i = j
          · rw [c3] at h1; exact absurd h1 nn
          · exact y2 i (by omega) h1
        · refine Or.inr ⟨w, by omega, w2, w3, w4, fun i hi h1 h2 => ?_⟩
          by_cases c3 : i = j
          · rw [c3] at h1; exact absurd h1 nn
          · exact w5 i (by omega) h1 h2)
      refine ⟨s', y2, fun F hF => ?_, r2, r3, r4, r5⟩
      rw [← Nat.add_assoc, st, r1 F hF]
