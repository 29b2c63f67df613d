theorem SETTLE {T : Nat → Nat} {n K : Nat} {s0 m s : hp_S} {q v : Nat} (h : RD T n K s0 m q v) (hC : TC K s0 m q v s) : ∃ y m', (∀ F, 3000 ≤ F → f_M_X11_settle_0 F m = some (y, m')) ∧ hs_fr [] [6, 16, 17, 18, 19] m m' ∧ ((∃ t, t < K ∧ y = nI (tk_p T n t) ∧ hs_I s0 7 8 = nI t) ∨ (y = nM ∧ hs_I s0 7 8 = nM ∧ ∃ kd mn be nd fb ch, TR s m' q kd mn be nd fb ch ∧ nd (nu m q v) = v)) := by
  have hQ := SQ_of h
  obtain ⟨hP, hU, hS, hN, hv, h9, h56⟩ := h
  have hI := PQ_inj hP
  have hK := hP.1.2.2.1
  have hq := hP.2.2.2.1
  have h12 : hs_I m 0 12 = nI q := hP.2.2.2.2.2.1.2.1
  have hf : ∀ j, j < q → fj m j < K ∧ hs_A m 5 (fj m j) = nI j := fun j hj => ⟨(hP.2.2.2.2.2.2.1 j hj).2.1, (hP.2.2.2.2.2.2.1 j hj).2.2.1⟩
  have hfj : ∀ j, j < q → hs_A m 10 j = nI (fj m j) ∧ fj m j < 501 := fun j hj => ⟨(hP.2.2.2.2.2.2.1 j hj).1, by have := (hf j hj).1; omega⟩
  obtain ⟨s1, e1, f1, n1⟩ := S_num hq hI hfj q 0 m (by omega) h12 hs_fr.rf (fun j hj => by omega)
  obtain ⟨s2, y, e2, f2, f2', n2, si⟩ := S_means hQ q 0 s1 nM (by omega) (f1.mono (by simp) (by decide)) ((f1.1 _ _ (by simp)).trans h12) (fun i hi => by omega) (Or.inl ⟨rfl, fun i hi => by omega⟩)
  -- what names mean
  have mean : ∀ j, j < q → hs_A m 6 j = nI 1 → (hs_A s2 19 j = nM ∧ hs_A s0 13 (fj m j) = nM) ∨ ∃ b, b < q ∧ isB m b ∧ hs_A s2 19 j = nI b ∧ hs_A s0 13 (fj m j) = nI (fj m b) := by
    intro j hj h6
    rcases hN j (by omega) hj h6 with ⟨b, -, b2, b3, b4, b5⟩ | ⟨g1, g2⟩
    · rcases n2 j hj h6 with ⟨-, x2⟩ | ⟨c, c1, c2, c3, c4⟩
      · exact absurd b3 (x2 b b2)
      · have e3 := c4 b b2 b3
        have e4 := b5 c (by omega) c1 c3
        obtain ⟨-, -, -, -, -, hB, -⟩ := hQ
        obtain ⟨a1, a2, a3, a4, a5, a6, a7, a8, a9⟩ := hB b b2 b3.1
        obtain ⟨d1, d2, d3, d4, d5, d6, d7, d8, d9⟩ := hB c c1 c3.1
        have f1 : sf m b = a1 := by simp only [sf, a3]; exact nI_clamp (by omega)
        have f2 : sf m c = d1 := by simp only [sf, d3]; exact nI_clamp (by omega)
        rw [show a1 = d1 by omega, d9, nI_eq (by omega) (by omega)] at a9
        subst a9
        exact Or.inr ⟨c, c1, c3.1, c2, b4⟩
    · rcases n2 j hj h6 with ⟨x1, -⟩ | ⟨c, c1, -, c3, -⟩
      · exact Or.inl ⟨x1, g2⟩
      · exact absurd c3 (g1 c (by omega) c1)
  have nB : ∀ b, isB m b → hs_A m 6 b ≠ nI 1 := by
    rintro b (g | g) g2
    · rw [g, nI_eq (by omega) (by omega)] at g2; omega
    · rw [g, nI_eq (by omega) (by omega)] at g2; omega
  obtain ⟨s3, e3, f3, n3⟩ := S_kinds (m := m) (s1 := s2) hq hQ.2.2.2.2.2.2 (fun j hj h6 => by
    rcases mean j hj h6 with ⟨g, -⟩ | ⟨b, b1, b2, b3, -⟩
    · exact Or.inl g
    · exact Or.inr ⟨b, b1, b3, nB b b2⟩) q 0 s2 y (by omega) hs_fr.rf ((f2.1 _ _ (by simp)).trans h12) (fun i hi => by rw [if_neg (by omega)]; exact f2.2 6 (by decide) i)
  have hT17 : ∀ j, j < q → hs_A s3 17 (nu m q j) = nI j ∧ hs_A s3 16 j = nI (nu m q j) := fun j hj => by
    rw [f3.2 17 (by decide), f3.2 16 (by decide), f2'.2 17 (by decide), f2'.2 16 (by decide)]
    exact ⟨(n1 j hj).2, (n1 j hj).1⟩
  obtain ⟨C1, C2, C3, C4, C5, C6⟩ := hC
  -- kinds
  have kc : ∀ j, j < q → ∃ c, nk c ∧ hs_A m 6 j = nI (kn c) ∧ hs_A s 18 (nu m q j) = nI c := by
    intro j hj
    obtain ⟨-, -, -, ⟨c, c1, c2, c3⟩, -⟩ := hP.2.2.2.2.2.2.1 j hj
    exact ⟨c, c1, c3, by rw [(C5 j hj).1]; exact c2⟩
  have sur : ∀ k, k < q → ∃ j, j < q ∧ nu m q j = k := fun k hk => nu_sur hI (fun j hj => (hf j hj).1) hk
  have r3 : ∀ j, j < q → ((hs_A s3 6 j = nI 3) ↔ (hs_A m 6 j = nI 3)) := by
    intro j hj
    rw [n3 j hj]
    unfold rkS
    by_cases c : hs_A m 6 j = nI 1 ∧ hs_A s2 19 j ≠ nM
    · rw [if_pos c, c.1]
      by_cases c2 : hs_A m 6 (hs_A s2 19 j).toNatClampNeg = nI 3
      · rw [if_pos c2]; decide
      · rw [if_neg c2]; decide
    · rw [if_neg c]
  obtain ⟨s4, e4, f4, n4⟩ := S_fns hq (fun i => hs_A s 18 i) (fun k => (hs_A s3 17 k).toNatClampNeg) q 0 (hs_pA s3 18 0 (nI 0)) y (by omega) (by simp only [hs_I_pI, hs_I_pA, hs_A_pI, hs_A_pA, and_true, true_and, and_false, false_and, and_self, eq_self, Nat.reduceEqDiff, ↓reduceIte]; rw [f3.1 _ _ (by simp), f2.1 _ _ (by simp)]; exact h12) (fun i hi => by
    obtain ⟨j, hj, rfl⟩ := sur i hi
    have e17 := (hT17 j hj).1
    have ec : (hs_A s3 17 (nu m q j)).toNatClampNeg = j := by rw [e17]; exact nI_clamp (by omega)
    rw [ec]
    simp only [hs_I_pI, hs_I_pA, hs_A_pI, hs_A_pA, and_true, true_and, and_false, false_and, and_self, eq_self, Nat.reduceEqDiff, ↓reduceIte]
    refine ⟨hj, e17, ?_⟩
    rw [r3 j hj]
    obtain ⟨c, c1, c2, c3⟩ := kc j hj
    have := kn_nk c1
    rw [c2, c3, nI_eq (by omega) (by omega), nI_eq (by omega) (by omega)]
    exact this.2.1) (fun i hi => by
    obtain rfl : i = 0 := by omega
    simp only [hs_I_pI, hs_I_pA, hs_A_pI, hs_A_pA, and_true, true_and, and_false, false_and, and_self, eq_self, Nat.reduceEqDiff, ↓reduceIte, fbn])
  have fin : ∀ F, 3000 ≤ F → ∃ G, f_M_X11_settle_0 F m = l_M_X11_settle_0_353 (G + 1) y (nI q) s4 := by
    intro F hF
    obtain ⟨G, rfl⟩ : ∃ G, F = (((G + 1 + q) + 1 + q) + 1 + q) + 1 + q := ⟨F - 4 * q - 4, by omega⟩
    refine ⟨G, ?_⟩
    unfold f_M_X11_settle_0
    rw [show (0 : Int32) = nI 0 from rfl, e1 _ (by omega), e2 _ (by omega), e3, e4]
  have s412 : hs_I s4 0 12 = nI q := by rw [f4.1 _ _ (by simp)]; simp only [hs_I_pI, hs_I_pA, hs_A_pI, hs_A_pA, and_true, true_and, and_false, false_and, and_self, eq_self, Nat.reduceEqDiff, ↓reduceIte]; rw [f3.1 _ _ (by simp), f2.1 _ _ (by simp)]; exact h12
  have fr4 : hs_fr [] [6, 16, 17, 18, 19] m s4 := ((f2.mono (by simp) (by decide)).cons (f3.mono (by simp) (by decide))).cons ((hs_fr_pA (by decide)).cons (f4.mono (by simp) (by decide)))
  rcases si with ⟨y1, y2⟩ | ⟨u, u1, u2, u3, u4, u5⟩
  · -- every name means something
    refine ⟨nM, s4, fun F hF => ?_, fr4, Or.inr ⟨rfl, ?_, ?_⟩⟩
    · obtain ⟨G, hG⟩ := fin F hF
      have c : q ≤ q := Nat.le_refl _
      have e : (nI 0 ≤ nM) = False := by decide
      rw [hG, y1, l_M_X11_settle_0_353.eq_2]
      simp (disch := omega) only [↓reduceIte, z_lit, z_m1, z_gd, z_le, z_lt, z_eq, z_em, z_me, z_ml, z_mle, z_lm, z_lem, z_pos, z_sub, nI_add, nI_clamp, ib_nI, pm_let, pm_bd, pm_b1, if_true, if_false, ite_true, ite_false, Nat.not_lt_zero, Nat.zero_le, s412, c, e]
    · rcases hU with ⟨g, -⟩ | ⟨w, w1, w2, w3, w4, -⟩
      · exact g
      · rcases mean w w1 w3 with ⟨g, -⟩ | ⟨b, b1, b2, b3, b4⟩
        · exact absurd g (y2 w w1 w3)
        · have := hf b b1
          rw [w4, z_me (by omega)] at b4
          exact b4.elim
    · have hfe : ∀ j, fj s4 j = fj m j := fun j => by simp only [fj, fr4.2 10 (by decide)]
      have hne : ∀ j, nu s4 q j = nu m q j := fun j => by unfold nu; rw [hfe, bl_congr _ q (fun j _ => hfe j)]
      have hbe : ∀ t, bl s4 t q = bl m t q := fun t => bl_congr t q (fun j _ => hfe j)
      have h417 : ∀ j, j < q → hs_A s4 17 (nu m q j) = nI j ∧ hs_A s4 16 j = nI (nu m q j) := fun j hj => by
        rw [f4.2 17 (by decide), f4.2 16 (by decide)]
        simp only [hs_I_pI, hs_I_pA, hs_A_pI, hs_A_pA, and_true, true_and, and_false, false_and, and_self, eq_self, Nat.reduceEqDiff, ↓reduceIte]
        exact hT17 j hj
      have ndv : ∀ j, j < q → (hs_A s4 17 (nu m q j)).toNatClampNeg = j := fun j hj => by rw [(h417 j hj).1]; exact nI_clamp (by omega)
      have kdv : ∀ j, j < q → ∃ c, nk c ∧ hs_A m 6 j = nI (kn c) ∧ hs_A s 18 (nu m q j) = nI c ∧ (hs_A s 18 (nu m q j)).toNatClampNeg = c := by
        intro j hj
        obtain ⟨c, c1, c2, c3⟩ := kc j hj
        have := kn_nk c1
        exact ⟨c, c1, c2, c3, by rw [c3]; exact nI_clamp (by omega)⟩
      have meanv : ∀ j, j < q → hs_A m 6 j = nI 1 → ∃ b, b < q ∧ isB m b ∧ hs_A s2 19 j = nI b ∧ hs_A s 22 (nu m q j) = nI (nu m q b) ∧ (hs_A s 22 (nu m q j)).toNatClampNeg = nu m q b := by
        intro j hj h6
        rcases mean j hj h6 with ⟨g, -⟩ | ⟨b, b1, b2, b3, b4⟩
        · exact absurd g (y2 j hj h6)
        · have e22 := (C5 j hj).2.2.1 b b1 b4
          have := nu_lt (m := m) b1
          exact ⟨b, b1, b2, b3, e22, by rw [e22]; exact nI_clamp (by omega)⟩
      refine ⟨fun k => (hs_A s 18 k).toNatClampNeg, fun k => (hs_A s 22 k).toNatClampNeg, fun k => (hs_A s 23 k).toNatClampNeg, fun k => (hs_A s4 17 k).toNatClampNeg, fbn (fun i => hs_A s 18 i), fun d k => (hs_A s (19 + d) k).toNatClampNeg, ⟨⟨by omega, hq⟩, C2, s412, ?_, ?_, ?_, ⟨rfl, ?_, ?_⟩, ?_, ?_, ?_⟩, ndv v hv⟩
      · intro k hk
        obtain ⟨j, hj, rfl⟩ := sur k hk
        obtain ⟨c, c1, c2, c3, c4⟩ := kdv j hj
        have kk := kn_nk c1
        simp only [ndv j hj, c4]
        refine ⟨c1, c3, hj, (h417 j hj).1, (h417 j hj).2, ?_⟩
        rw [f4.2 6 (by decide)]
        simp only [hs_I_pI, hs_I_pA, hs_A_pI, hs_A_pA, and_true, true_and, and_false, false_and, and_self, eq_self, Nat.reduceEqDiff, ↓reduceIte]
        rw [n3 j hj]
        unfold rkS rk
        simp only [c4]
        by_cases c5 : c = 2
        · have h6 : hs_A m 6 j = nI 1 := by rw [c2, kk.1.mpr c5]
          obtain ⟨b, b1, b2, b3, b4, b5⟩ := meanv j hj h6
          rw [if_pos c5, if_pos ⟨h6, by rw [b3, ne_eq, z_em (by omega)]; exact not_false⟩, b3, nI_clamp (by omega)]
          simp only [b5]
          obtain ⟨cb, cb1, cb2, cb3, cb4⟩ := kdv b b1
          have kb := kn_nk cb1
          simp only [cb4]
          by_cases c6 : cb = 4
          · rw [if_pos c6, if_pos (by rw [cb2, kb.2.1.mpr c6])]
          · rw [if_neg c6, if_neg (by rw [cb2, nI_eq (by omega) (by omega)]; exact fun q => c6 (kb.2.1.mp q))]
        · rw [if_neg c5, if_neg (fun q => c5 (kk.1.mp ((nI_eq (by omega) (by omega)).mp (c2.symm.trans q.1)))), c2]
      · intro k hk d hd
        obtain ⟨j, hj, rfl⟩ := sur k hk
        obtain ⟨c, c1, c2, c3, c4⟩ := kdv j hj
        simp only [c4] at hd
        obtain ⟨-, -, ⟨-, k', k1, k2, k3⟩, -⟩ := hS.2.2.2.2.1 j (by omega) hj
        have ke : k' = c := by
          have a1 := kn_nk c1
          have a2 := kn_nk k1
          rw [c2, nI_eq (by omega) (by omega)] at k2
          exact (kn_inj c1 k1 k2).symm
        rw [ke] at k3
        obtain ⟨a, -, a2, a3⟩ := k3 d hd
        have d3 := ar_le c
        have e19 : hs_A s (19 + d) (nu m q j) = nI (nu m q a) := by
          rcases (C5 j hj).2.1 d (by omega) with ⟨-, z⟩ | ⟨b, b1, b2, b3⟩
          · rw [a3, z_em (by omega)] at z; exact z.elim
          · rw [a3, nI_eq (by omega) (by omega)] at b2
            rw [b3, b2]
        have la := nu_lt (m := m) a2
        have ec : (hs_A s (19 + d) (nu m q j)).toNatClampNeg = nu m q a := by rw [e19]; exact nI_clamp (by omega)
        simp only [ec, ndv j hj, ndv a a2]
        refine ⟨la, e19, ?_⟩
        rw [fr4.2 (7 + d) (by simp; omega)]
        exact a3
      · intro k hk hk2
        obtain ⟨j, hj, rfl⟩ := sur k hk
        obtain ⟨c, c1, c2, c3, c4⟩ := kdv j hj
        have kk := kn_nk c1
        simp only [c4] at hk2
        have h6 : hs_A m 6 j = nI 1 := by rw [c2, kk.1.mpr hk2]
        obtain ⟨b, b1, b2, b3, b4, b5⟩ := meanv j hj h6
        obtain ⟨cb, cb1, cb2, cb3, cb4⟩ := kdv b b1
        have kb := kn_nk cb1
        simp only [b5, ndv j hj, ndv b b1, cb4]
        refine ⟨nu_lt b1, ?_, b4, ?_⟩
        · rcases b2 with g | g
          · rw [cb2, nI_eq (by omega) (by omega)] at g; exact Or.inl (kb.2.1.mp g)
          · rw [cb2, nI_eq (by omega) (by omega)] at g; exact Or.inr (kb.2.2.1.mp g)
        · rw [f4.2 19 (by decide)]
          simp only [hs_I_pI, hs_I_pA, hs_A_pI, hs_A_pA, and_true, true_and, and_false, false_and, and_self, eq_self, Nat.reduceEqDiff, ↓reduceIte]
          rw [f3.2 19 (by decide)]
          exact b3
      · intro k hk
        obtain ⟨j, hj, rfl⟩ := sur k hk
        obtain ⟨c, c1, c2, c3, c4⟩ := kdv j hj
        have kk := kn_nk c1
        simp only [fbn, c3, nI_clamp (show c < 2 ^ 31 by omega), z_eq (show c < 2 ^ 31 by omega) (show 4 < 2 ^ 31 by omega)]
      · intro k hk
        exact ⟨C6 k hk, n4 k hk⟩
      · intro k hk hk5
        obtain ⟨j, hj, rfl⟩ := sur k hk
        obtain ⟨c, c1, c2, c3, c4⟩ := kdv j hj
        have kk := kn_nk c1
        simp only [c4] at hk5
        have h6 : hs_A m 6 j = nI 4 := by rw [c2, kk.2.2.1.mpr hk5]
        obtain ⟨-, -, -, hL, -⟩ := hS.2.2.2.2.1 j (by omega) hj
        obtain ⟨e, a1, a2, a3, a4, a5, a6, a7, a8, a9, a, -, b2, b3, b4, b5⟩ := hL h6
        have fj1 := hf j hj
        -- tokens behind the word are the let's own
        have o1 : ∀ i, i < q → fj m i ≠ fj m j + 1 := fun i hi g => by
          have := (hf i hi).2
          rw [g, a7, nI_eq (by omega) (by omega)] at this
          subst this; omega
        have o2 : ∀ i, i < q → fj m i ≠ fj m j + 2 := fun i hi g => by
          have := (hf i hi).2
          rw [g, a8, nI_eq (by omega) (by omega)] at this
          subst this; omega
        have bl3 : bl m (fj m j + 3) q = nu m q j + 1 := by
          rw [show fj m j + 3 = fj m j + 2 + 1 by omega, bl_no m q o2, show fj m j + 2 = fj m j + 1 + 1 by omega, bl_no m q o1, bl_yes m q j hj rfl hI]
          rfl
        have e23 := (C5 j hj).2.2.2 h6 e a4 a2
        have le := bl_le m e q
        have ebe : (hs_A s 23 (nu m q j)).toNatClampNeg = bl m e q := by rw [e23]; exact nI_clamp (by omega)
        have ea : nu m q j + 1 ≤ nu m q a := by rw [← bl3]; exact (nu_ge b2).mp b4
        have ea2 : nu m q a < bl m e q := bl_lt m (Nat.le_refl _) b5 q b2
        have e19 : hs_A s 19 (nu m q j) = nI (nu m q a) := by
          rcases (C5 j hj).2.1 0 (by omega) with ⟨-, z⟩ | ⟨b, b1, b2', b3'⟩
          · rw [Nat.add_zero, b3, z_em (by omega)] at z; exact z.elim
          · rw [Nat.add_zero, b3, nI_eq (by omega) (by omega)] at b2'
            rw [Nat.add_zero] at b3'
            rw [b3', b2']
        have la := nu_lt (m := m) b2
        have ec : (hs_A s (19 + 0) (nu m q j)).toNatClampNeg = nu m q a := by rw [Nat.add_zero, e19]; exact nI_clamp (by omega)
        simp only [ebe, ec, ndv j hj]
        refine ⟨by omega, le, e23, ⟨ea, ea2⟩, fun i i1 i2 d hd => ?_, fj m j + 3, e, by omega, by omega, ?_, ?_, ?_, ?_⟩
        · obtain ⟨i', hi', rfl⟩ := sur i (by omega)
          obtain ⟨c', c1', c2', c3', c4'⟩ := kdv i' hi'
          simp only [c4'] at hd
          have g1 : fj m j + 3 ≤ fj m i' := (nu_ge hi').mpr (by rw [bl3]; exact i1)
          have g2 : fj m i' < e := by
            by_cases g : fj m i' < e
            · exact g
            · have := bl_mono m (show e ≤ fj m i' by omega) q
              unfold nu at i2
              omega
          obtain ⟨-, -, ⟨-, k', k1, k2, k3⟩, -⟩ := hS.2.2.2.2.1 i' (by omega) hi'
          have ke : k' = c' := by
            have a1 := kn_nk c1'
            have a2 := kn_nk k1
            rw [c2', nI_eq (by omega) (by omega)] at k2
            exact (kn_inj c1' k1 k2).symm
          rw [ke] at k3
          obtain ⟨x, -, x2, x3⟩ := k3 d hd
          have d3 := ar_le c'
          obtain ⟨y1, y2⟩ := a9 i' (by omega) hi' g1 g2 d (by omega) x (by omega) x3
          have e19 : hs_A s (19 + d) (nu m q i') = nI (nu m q x) := by
            rcases (C5 i' hi').2.1 d (by omega) with ⟨-, z⟩ | ⟨b, b1, b2, b3⟩
            · rw [x3, z_em (by omega)] at z; exact z.elim
            · rw [x3, nI_eq (by omega) (by omega)] at b2
              rw [b3, b2]
          have lx := nu_lt (m := m) x2
          have ec : (hs_A s (19 + d) (nu m q i')).toNatClampNeg = nu m q x := by rw [e19]; exact nI_clamp (by omega)
          rw [ec]
          exact ⟨by rw [← bl3]; exact (nu_ge x2).mp y1, bl_lt m (Nat.le_refl _) y2 q x2⟩
        · rw [fr4.2 14 (by decide)]; exact a1
        · rw [fr4.2 15 (by decide)]; exact a2
        · rw [hbe]; exact bl3
        · exact hbe e
      · intro j hj
        rw [hfe, hne, fr4.2 10 (by decide)]
        exact ⟨(hfj j hj).1, by have := (hf j hj).1; omega, ndv j hj⟩
      · intro k hk
        obtain ⟨j, hj, rfl⟩ := sur k hk
        simp only [ndv j hj, hne]
  · -- a stray name
    have fu := hf u u1
    refine ⟨nI (tk_p T n (fj m u)), s4, fun F hF => ?_, fr4, Or.inl ⟨fj m u, fu.1, rfl, ?_⟩⟩
    · obtain ⟨G, hG⟩ := fin F hF
      have c : q ≤ q := Nat.le_refl _
      have e10 : hs_A s4 10 u = nI (fj m u) := by rw [fr4.2 10 (by decide)]; exact (hfj u u1).1
      have e3 : hs_A s4 3 (fj m u) = nI (tk_p T n (fj m u)) := by rw [fr4.2 3 (by decide)]; exact (hQ.2.2.2.2.1 _ fu.1).1
      rw [hG, u2, l_M_X11_settle_0_353.eq_2]
      simp (disch := omega) only [↓reduceIte, z_lit, z_m1, z_gd, z_le, z_lt, z_eq, z_em, z_me, z_ml, z_mle, z_lm, z_lem, z_pos, z_sub, nI_add, nI_clamp, ib_nI, pm_let, pm_bd, pm_b1, if_true, if_false, ite_true, ite_false, Nat.not_lt_zero, Nat.zero_le, s412, c, e10, e3]
    · have m13 : hs_A s0 13 (fj m u) = nM := by
        rcases mean u u1 u3 with ⟨-, g⟩ | ⟨b, b1, b2, b3, b4⟩
        · exact g
        · rw [u4, z_me (by omega)] at b3; exact b3.elim
      rcases hU with ⟨-, g2⟩ | ⟨w, w1, w2, w3, w4, w5⟩
      · exact absurd m13 (g2 u u1 u3)
      · have l1 := w5 u u1 u3 m13
        have l2 : fj m u ≤ fj m w := by
          refine u5 w w1 w3 ?_
          rcases mean w w1 w3 with ⟨g, -⟩ | ⟨b, b1, b2, b3, b4⟩
          · exact g
          · have := hf b b1
            rw [w4, z_me (by omega)] at b4; exact b4.elim
        rw [w2, show fj m w = fj m u by omega]
