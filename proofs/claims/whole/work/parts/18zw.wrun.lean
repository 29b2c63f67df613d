/-! WRITING A TYPE: to its end -/
theorem W_end {s m : hp_S} {d n w y G G' : Nat} (h3 : hs_I s 41 3 = nI d) (h40 : hs_I m 0 40 = nI n) (hb : d ≤ 4002 ∧ n ≤ 3 * d ∧ (d = 0 ↔ n = 0)) (hO : OU s m w) (hy : y < 1000000) (h : w = 4000 ∨ d = 0) : l_C_X8_write_41_24 (G + 1) (nI y) s = some s ∧ l_M_X11_writeType_0_40 (G' + 1) m = some m := by
  obtain ⟨O1, O2, O3, O4, O5⟩ := id hO
  have c1 : ¬ (1000000 : Int32) ≤ nI y := by rw [show (1000000 : Int32) = nI 1000000 from rfl, z_le (by omega) (by omega)]; omega
  constructor
  · rw [l_C_X8_write_41_24.eq_2, if_neg c1, h3]
    by_cases e : d = 0
    · rw [if_pos (show nI d ≤ (0 : Int32) by rw [show (0 : Int32) = nI 0 from rfl, z_le (by omega) (by omega)]; omega)]
    · rw [if_neg (show ¬ nI d ≤ (0 : Int32) by rw [show (0 : Int32) = nI 0 from rfl, z_le (by omega) (by omega)]; omega)]
      unfold f_C_X3_isFull_39
      rw [O2, if_neg (show ¬ nI w < (4000 : Int32) by rw [show (4000 : Int32) = nI 4000 from rfl, z_lt (by omega) (by omega)]; omega)]
      rfl
  · rw [l_M_X11_writeType_0_40.eq_2, h40]
    by_cases e : n = 0
    · rw [if_pos (show nI n ≤ (0 : Int32) by rw [show (0 : Int32) = nI 0 from rfl, z_le (by omega) (by omega)]; omega)]
    · rw [if_neg (show ¬ nI n ≤ (0 : Int32) by rw [show (0 : Int32) = nI 0 from rfl, z_le (by omega) (by omega)]; omega), O4, if_pos (show (4000 : Int32) ≤ nI w by rw [show (4000 : Int32) = nI 4000 from rfl, z_le (by omega) (by omega)]; omega)]
theorem W_run {A : AA} {R : Nat} {ρC dC ρM dM σ rk : Nat → Nat} (hE : WE A R ρC ρM σ rk) : ∀ (r : Nat) (s m : hp_S) (L : List (Nat × Nat)) (d n c w y G G' : Nat), WD s m A R ρC dC ρM dM σ rk L d n c → OU s m w → c ≤ w → 12010 ≤ 2 * w + d + r → y ≤ 2 * w + d → 20001 + r ≤ G → 20001 + r ≤ G' → ∃ s' m' w', l_C_X8_write_41_24 G (nI y) s = some s' ∧ l_M_X11_writeType_0_40 G' m = some m' ∧ OU s' m' w' ∧ hs_fr tP' tA' s s' ∧ hs_fr rP' rA' m m' ∧ UC s' A R ρC dC ∧ UM m' A R ρM dM σ := by
  intro r
  induction r with
  | zero =>
    intro s m L d n c w y G G' hD hO hc hr hy hG hG'
    have sb := SK_b _ _ _ hD.2.2.2.2.1
    have := hO.1
    omega
  | succ r ih =>
    intro s m L d n c w y G G' hD hO hc hr hy hG hG'
    obtain ⟨G, rfl⟩ : ∃ z, G = z + 1 := ⟨G - 1, by omega⟩
    obtain ⟨G', rfl⟩ : ∃ z, G' = z + 1 := ⟨G' - 1, by omega⟩
    have sb := SK_b _ _ _ hD.2.2.2.2.1
    have w4 := hO.1
    have h3 := hD.2.2.1
    by_cases e : w = 4000 ∨ d = 0
    · obtain ⟨e1, e2⟩ := W_end (G := G) (G' := G') (y := y) h3 hD.2.2.2.1 sb hO (by omega) e
      exact ⟨s, m, w, e1, e2, hO, hs_fr.rf, hs_fr.rf, hD.1, hD.2.1⟩
    · match L, hD with
      | [], hD => exact absurd hD.2.2.2.2.1.1 (by omega)
      | (x, g) :: L, hD =>
        obtain ⟨s1, m1, L1, d1, n1, w1, c1, b1, b2, b3, b4, b5, b6, b7, b8⟩ := W_step (G := G) (G' := G') hE hD hO (by omega) hc (by omega) (by omega)
        have sb1 := SK_b _ _ _ b3.2.2.2.2.1
        have y1 : nI y + (1 : Int32) = nI (y + 1) := by simp (disch := omega) only [↓reduceIte, z_lit, z_m1, z_gd, z_le, z_lt, z_eq, z_em, z_me, z_ml, z_mle, z_lm, z_lem, z_pos, z_sub, nI_add, nI_clamp, ib_nI, pm_let, pm_bd, pm_b1, if_true, if_false, ite_true, ite_false, Nat.not_lt_zero, Nat.zero_le]
        have step : l_C_X8_write_41_24 (G + 1) (nI y) s = l_C_X8_write_41_24 G (nI (y + 1)) s1 := by
          rw [l_C_X8_write_41_24.eq_2, if_neg (show ¬ (1000000 : Int32) ≤ nI y by rw [show (1000000 : Int32) = nI 1000000 from rfl, z_le (by omega) (by omega)]; omega), h3, if_neg (show ¬ nI d ≤ (0 : Int32) by rw [show (0 : Int32) = nI 0 from rfl, z_le (by omega) (by omega)]; omega)]
          unfold f_C_X3_isFull_39
          rw [hO.2.1, if_pos (show nI w < (4000 : Int32) by rw [show (4000 : Int32) = nI 4000 from rfl, z_lt (by omega) (by omega)]; omega)]
          simp only [pm_bd]
          rw [if_true, b1]
          simp only [pm_b1, pm_let, y1]
        rw [step, b2]
        by_cases e4 : w1 = 4000
        · obtain ⟨G, rfl⟩ : ∃ z, G = z + 1 := ⟨G - 1, by omega⟩
          obtain ⟨G', rfl⟩ : ∃ z, G' = z + 1 := ⟨G' - 1, by omega⟩
          obtain ⟨e1, e2⟩ := W_end (G := G) (G' := G') (y := y + 1) b3.2.2.1 b3.2.2.2.1 sb1 b4 (by omega) (Or.inl e4)
          exact ⟨s1, m1, w1, e1, e2, b4, b6, b7, b3.1, b3.2.1⟩
        · obtain ⟨s2, m2, w2, i1, i2, i3, i4, i5, i6⟩ := ih s1 m1 L1 d1 n1 c1 w1 (y + 1) G G' b3 b4 b5 (by omega) (by omega) (by omega) (by omega)
          exact ⟨s2, m2, w2, i1, i2, i3, b6.cons i4, b7.cons i5, i6⟩
/-- the reference's letters, all forgotten -/
theorem M_nol {R : Nat} (hR : R ≤ 10002) (y1 : Int32) : ∀ (d p : Nat) (m : hp_S), p + d = R → hs_I m 0 37 = nI R → (∀ x, x < p → hs_A m 33 x = nM) → ∃ m', (∀ G, l_M_X11_writeType_0_2 (G + d) y1 (nI p) m = l_M_X11_writeType_0_2 G y1 (nI R) m') ∧ hs_fr [] [33] m m' ∧ ∀ x, x < R → hs_A m' 33 x = nM := by
  intro d
  induction d with
  | zero =>
    intro p m hp h37 h
    have : p = R := by omega
    subst this
    exact ⟨m, fun G => rfl, hs_fr.rf, h⟩
  | succ d ih =>
    intro p m hp h37 h
    have f : hs_fr [] [33] m (hs_pA m 33 p nM) := hs_fr_pA (by decide)
    obtain ⟨m', a1, a2, a3⟩ := ih (p + 1) (hs_pA m 33 p nM) (by omega) (by rw [f.1 _ _ (by decide)]; exact h37) (by
      intro x hx
      by_cases e : x = p
      · subst e; simp only [hs_I_pI, hs_I_pA, hs_A_pI, hs_A_pA, and_true, true_and, and_false, false_and, and_self, eq_self, Nat.reduceEqDiff, ↓reduceIte]
      · simp only [hs_I_pI, hs_I_pA, hs_A_pI, hs_A_pA, and_true, true_and, and_false, false_and, and_self, eq_self, Nat.reduceEqDiff, ↓reduceIte, e]; exact h x (by omega))
    refine ⟨m', fun G => ?_, f.cons a2, a3⟩
    rw [← a1 G, show G + (d + 1) = (G + d) + 1 by omega, l_M_X11_writeType_0_2.eq_2, h37, if_neg (show ¬ nI R ≤ nI p by rw [z_le (by omega) (by omega)]; omega)]
    simp (disch := omega) only [↓reduceIte, z_lit, z_m1, z_gd, z_le, z_lt, z_eq, z_em, z_me, z_ml, z_mle, z_lm, z_lem, z_pos, z_sub, nI_add, nI_clamp, ib_nI, pm_let, pm_bd, pm_b1, if_true, if_false, ite_true, ite_false, Nat.not_lt_zero, Nat.zero_le]
theorem M_wt0 {m : hp_S} {R G y : Nat} (h37 : hs_I m 0 37 = nI R) : l_M_X11_writeType_0_2 (G + 1) (nI y) (nI R) m = l_M_X11_writeType_0_40 G (hs_pI (hs_pA (hs_pI m 0 48 (nI 0)) 27 0 (nI y)) 0 40 (nI 1)) := by
  have e1 : pm_ib (0 : Int32) 20000 = true := ib_nI (k := 0) (by omega) (by omega)
  rw [l_M_X11_writeType_0_2.eq_2, h37, if_pos (Int32.le_refl _), pl_u, e1, z_gd, pl_u, pl_u]
  rfl
/-- WRITING A TYPE -/
theorem WRITE {s m : hp_S} {A : AA} {R V x w G G' : Nat} {σ : Nat → Nat} (hF : JF s m A R σ V) (hO : OU s m w) (hx : x < R) (hG : 50000 ≤ G) (hG' : 50000 ≤ G') : ∃ s' m' w', f_C_X8_write_41 G (nI x) s = some s' ∧ f_M_X11_writeType_0 G' (nI (σ x)) m = some m' ∧ OU s' m' w' ∧ hs_fr tP' tA' s s' ∧ hs_fr rP' rA' m m' := by
  obtain ⟨⟨JU0, -⟩, hnt, ρC, dC, ρM, dM, U, W, DC, DM, agr, rk, rkb, rkd⟩ := hF
  have hR := U.2.1
  have hσ : SJ σ R := JU0.1
  have hE : WE A R ρC ρM σ rk := ⟨hσ, hR, U.2.2.2.2.1, DC, DM, agr, rkb, rkd⟩
  obtain ⟨s1, a1, U1, f1, z35⟩ := C_clear R 0 s (by omega) U (fun x hx => by omega)
  obtain ⟨s2, hs2⟩ : ∃ s2, s2 = hs_pI (hs_pI s1 41 4 (nI 0)) 41 3 (nI 0) := ⟨_, rfl⟩
  have f2 : hs_fr [(41, 3), (41, 4)] [] s1 s2 := by rw [hs2]; exact (hs_fr_pI (by decide)).cons (hs_fr_pI (by decide))
  have U2 := UC_fr U1 f2 (by decide)
  obtain ⟨s3, c1, U3, f3⟩ := C_push41 (G := G) (d := 0) (y := x) U2 (by rw [hs2]; simp only [hs_I_pI, hs_I_pA, hs_A_pI, hs_A_pA, and_true, true_and, and_false, false_and, and_self, eq_self, Nat.reduceEqDiff, ↓reduceIte]) (by omega) hx (by omega)
  obtain ⟨s4, hs4⟩ : ∃ s4, s4 = hs_pI (hs_pA s3 36 0 (nI (ρC x * 3 + 0))) 41 3 (nI (0 + 1)) := ⟨_, rfl⟩
  rw [← hs4] at c1
  have f4 : hs_fr [(41, 3)] [36] s3 s4 := by rw [hs4]; exact (hs_fr_pA (by decide)).cons (hs_fr_pI (by decide))
  obtain ⟨m1, b1, g1, z33⟩ := M_nol hR (nI (σ x)) R 0 m (by omega) W.1 (fun x hx => by omega)
  obtain ⟨m2, hm2⟩ : ∃ m2, m2 = hs_pI (hs_pA (hs_pI m1 0 48 (nI 0)) 27 0 (nI (σ x))) 0 40 (nI 1) := ⟨_, rfl⟩
  have g2 : hs_fr [(0, 40), (0, 48)] [27] m1 m2 := by rw [hm2]; exact ((hs_fr_pI (by decide)).cons (hs_fr_pA (by decide))).cons (hs_fr_pI (by decide))
  have rx := DC.1 x hx
  have F : hs_fr [(41, 3), (41, 4)] [33, 35, 36] s s4 := (((f1.mono (by simp) (by decide)).cons (f2.mono (by decide) (by simp))).cons (f3.mono (by simp) (by decide))).cons (f4.mono (by decide) (by decide))
  have FM : hs_fr [(0, 40), (0, 48)] [27, 33] m m2 := (g1.mono (by simp) (by decide)).cons (g2.mono (by decide) (by decide))
  have hD : WD s4 m2 A R ρC dC ρM dM σ rk [(ρC x, 0)] 1 1 0 := by
    refine ⟨UC_fr U3 f4 (by decide), UM_fr W FM (by decide), by rw [hs4]; simp only [hs_I_pI, hs_I_pA, hs_A_pI, hs_A_pA, and_true, true_and, and_false, false_and, and_self, eq_self, Nat.reduceEqDiff, ↓reduceIte], by rw [hm2]; simp only [hs_I_pI, hs_I_pA, hs_A_pI, hs_A_pA, and_true, true_and, and_false, false_and, and_self, eq_self, Nat.reduceEqDiff, ↓reduceIte], ⟨0, 0, rfl, by unfold gn; rw [if_neg (show ¬ (0 : Nat) = 1 by decide)], rx.1, rx.2, by rw [hs4]; simp only [hs_I_pI, hs_I_pA, hs_A_pI, hs_A_pA, and_true, true_and, and_false, false_and, and_self, eq_self, Nat.reduceEqDiff, ↓reduceIte], by have := rkb (ρC x); omega, Or.inl ⟨rfl, x, hx, rfl, by rw [hm2]; simp only [hs_I_pI, hs_I_pA, hs_A_pI, hs_A_pA, and_true, true_and, and_false, false_and, and_self, eq_self, Nat.reduceEqDiff, ↓reduceIte]⟩, rfl, rfl⟩, ?_, by rw [hm2]; simp only [hs_I_pI, hs_I_pA, hs_A_pI, hs_A_pA, and_true, true_and, and_false, false_and, and_self, eq_self, Nat.reduceEqDiff, ↓reduceIte], fun y hy => Or.inl ⟨?_, ?_⟩⟩
    · rw [hs4]
      simp only [hs_I_pI, hs_I_pA, hs_A_pI, hs_A_pA, and_true, true_and, and_false, false_and, and_self, eq_self, Nat.reduceEqDiff, ↓reduceIte]
      rw [f3.1 _ _ (by decide), hs2]
      simp only [hs_I_pI, hs_I_pA, hs_A_pI, hs_A_pA, and_true, true_and, and_false, false_and, and_self, eq_self, Nat.reduceEqDiff, ↓reduceIte]
    · rw [f4.2 35 (by decide), f3.2 35 (by decide), f2.2 35 (by decide)]
      exact z35 _ (DC.1 y hy).1
    · rw [g2.2 33 (by decide)]
      exact z33 _ (hσ.2.1 _ (DM.1 y hy).1)
  obtain ⟨s5, m5, w5, i1, i2, i3, i4, i5, -⟩ := W_run hE 12010 s4 m2 _ 1 1 0 w 0 G (G' - R - 1) hD (OU_fr hO F FM (by decide) (by decide)) (by omega) (by omega) (by omega) (by omega) (by omega)
  refine ⟨s5, m5, w5, ?_, ?_, i3, (F.mono (by decide) (by decide)).cons i4, (FM.mono (by decide) (by decide)).cons i5⟩
  · unfold f_C_X8_write_41 f_C_X9_clearMarks_31
    have c1' : f_C_X8_push_41 G (nI x) (hs_pI (hs_pI s1 41 4 0) 41 3 0) = some s4 := by rw [← c1, hs2]; rfl
    have a1' : l_C_X9_clearMarks_31_2 G 0 s = some s1 := a1 G (by omega)
    simp only [a1', pm_b1, pm_let, c1']
    exact i1
  · unfold f_M_X11_writeType_0
    have := b1 (G' - R - 1 + 1)
    rw [show G' - R - 1 + 1 + R = G' by omega] at this
    change l_M_X11_writeType_0_2 G' (nI (σ x)) (nI 0) m = _
    rw [this, M_wt0 (by rw [g1.1 _ _ (by decide)]; exact W.1), ← hm2]
    exact i2
