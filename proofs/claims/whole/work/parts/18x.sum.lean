/-! SUMS and COMPARISONS -/
def foldP (m : hp_S) (d j : Nat) : hp_S := hs_pA (hs_pI (hs_pA m 8 j (hs_I m 0 56)) 0 56 (nI j)) 37 (d - 1) nM
theorem M_calledF {F d j c : Nat} {m : hp_S} (h23 : hs_I m 0 23 = nI d) (hd : 1 ≤ d) (hd2 : d ≤ 20) (h6 : hs_I m 0 6 = nI c) (hc : c ≠ 16) (hc2 : c < 100) (h37 : hs_A m 37 (d - 1) = nI j) (hj : j < 101) : f_M_X11_called_0 F m = f_M_X11_called_0 F (foldP m d j) := by
  unfold f_M_X11_called_0 foldP
  simp (disch := omega) only [↓reduceIte, z_lit, z_m1, z_gd, z_le, z_lt, z_eq, z_em, z_me, z_ml, z_mle, z_lm, z_lem, z_pos, z_sub, nI_add, nI_clamp, ib_nI, pm_let, pm_bd, pm_b1, if_true, if_false, ite_true, ite_false, Nat.not_lt_zero, Nat.zero_le, hs_I_pI, hs_I_pA, hs_A_pI, hs_A_pA, and_true, true_and, and_false, false_and, and_self, eq_self, Nat.reduceEqDiff, ↓reduceIte, h23, h6, hc, h37, z_mz]
theorem rn_fold {d j c v : Nat} {m : hp_S} (hM : MI m d 2 v) (hb : hs_I m 0 50 = nI 0) (hd : 1 ≤ d) (hd2 : d ≤ 20) (h6 : hs_I m 0 6 = nI c) (hc : c ≠ 16) (hc2 : c < 100) (h37 : hs_A m 37 (d - 1) = nI j) (hj : j < 101) : rn m (foldP m d j) := by
  refine ⟨0, fun F hF => ?_⟩
  obtain ⟨F, rfl⟩ : ∃ z, F = z + 1 := ⟨F - 1, by omega⟩
  have b50 : hs_I (foldP m d j) 0 50 = nI 0 := by simp only [foldP, hs_I_pI, hs_I_pA, hs_A_pI, hs_A_pA, and_true, true_and, and_false, false_and, and_self, eq_self, Nat.reduceEqDiff, ↓reduceIte]; exact hb
  have b55 : hs_I (foldP m d j) 0 55 = nI 2 := by simp only [foldP, hs_I_pI, hs_I_pA, hs_A_pI, hs_A_pA, and_true, true_and, and_false, false_and, and_self, eq_self, Nat.reduceEqDiff, ↓reduceIte]; exact hM.2.1
  rw [Nat.add_zero, l_M_X11_parse_0_16.eq_2, l_M_X11_parse_0_16.eq_2, M_calledF (F := F) hM.1 hd hd2 h6 hc hc2 h37 hj]
  simp (disch := omega) only [↓reduceIte, z_lit, z_m1, z_gd, z_le, z_lt, z_eq, z_em, z_me, z_ml, z_mle, z_lm, z_lem, z_pos, z_sub, nI_add, nI_clamp, ib_nI, pm_let, pm_bd, pm_b1, if_true, if_false, ite_true, ite_false, Nat.not_lt_zero, Nat.zero_le, hb, hM.2.1, b50, b55]
  simp
theorem M_calledP {F d q : Nat} {m m2 : hp_S} (h23 : hs_I m 0 23 = nI d) (hd : 1 ≤ d) (hd2 : d ≤ 20) (h6 : hs_I m 0 6 = nI 19) (h37 : hs_A m 37 (d - 1) = nM) (h : f_M_X11_single_0 F (nI 19) m = some (nI q, m2)) (hq : q < 101) : f_M_X11_called_0 F m = some (hs_pI (hs_pA (hs_pA (hs_pA m2 7 q (hs_I m2 0 56)) 37 (d - 1) (nI q)) 36 (d - 1) (hs_A m2 36 (d - 1))) 0 55 (nI 1)) := by
  unfold f_M_X11_called_0
  simp (disch := omega) only [↓reduceIte, z_lit, z_m1, z_gd, z_le, z_lt, z_eq, z_em, z_me, z_ml, z_mle, z_lm, z_lem, z_pos, z_sub, nI_add, nI_clamp, ib_nI, pm_let, pm_bd, pm_b1, if_true, if_false, ite_true, ite_false, Nat.not_lt_zero, Nat.zero_le, hs_I_pI, hs_I_pA, hs_A_pI, hs_A_pA, and_true, true_and, and_false, false_and, and_self, eq_self, Nat.reduceEqDiff, ↓reduceIte, h23, h6, h37, z_mz, h]
  all_goals simp
theorem M_calledL {F d q : Nat} {m m2 : hp_S} (h23 : hs_I m 0 23 = nI d) (hd : 1 ≤ d) (hd2 : d ≤ 20) (h6 : hs_I m 0 6 = nI 20) (h37 : hs_A m 37 (d - 1) = nM) (h36 : hs_A m 36 (d - 1) = nM) (h : f_M_X11_single_0 F (nI 20) m = some (nI q, m2)) (hq : q < 101) : f_M_X11_called_0 F m = some (hs_pI (hs_pA (hs_pA (hs_pA m2 7 q (hs_I m2 0 56)) 37 (d - 1) (hs_A m2 37 (d - 1))) 36 (d - 1) (nI q)) 0 55 (nI 1)) := by
  have e : (nI 0 ≤ nM) = False := by decide
  unfold f_M_X11_called_0
  simp (disch := omega) only [↓reduceIte, z_lit, z_m1, z_gd, z_le, z_lt, z_eq, z_em, z_me, z_ml, z_mle, z_lm, z_lem, z_pos, z_sub, nI_add, nI_clamp, ib_nI, pm_let, pm_bd, pm_b1, if_true, if_false, ite_true, ite_false, Nat.not_lt_zero, Nat.zero_le, hs_I_pI, hs_I_pA, hs_A_pI, hs_A_pA, and_true, true_and, and_false, false_and, and_self, eq_self, Nat.reduceEqDiff, ↓reduceIte, h23, h6, h37, h36, z_mz, e, h]
  all_goals simp
theorem M_calledE0 {F d c : Nat} {m : hp_S} (h23 : hs_I m 0 23 = nI d) (hd : 1 ≤ d) (hd2 : d ≤ 20) (h6 : hs_I m 0 6 = nI c) (hc : c ≠ 16 ∧ c ≠ 19 ∧ c ≠ 20) (hc2 : c < 100) (h37 : hs_A m 37 (d - 1) = nM) (h36 : hs_A m 36 (d - 1) = nM) : f_M_X11_called_0 F m = some (hs_pI m 0 55 (nI 3)) := by
  unfold f_M_X11_called_0
  simp (disch := omega) only [↓reduceIte, z_lit, z_m1, z_gd, z_le, z_lt, z_eq, z_em, z_me, z_ml, z_mle, z_lm, z_lem, z_pos, z_sub, nI_add, nI_clamp, ib_nI, pm_let, pm_bd, pm_b1, if_true, if_false, ite_true, ite_false, Nat.not_lt_zero, Nat.zero_le, hs_I_pI, hs_I_pA, hs_A_pI, hs_A_pA, and_true, true_and, and_false, false_and, and_self, eq_self, Nat.reduceEqDiff, ↓reduceIte, h23, h6, hc.1, hc.2.1, hc.2.2, h37, h36, z_mz]
theorem M_calledE1 {F d c j : Nat} {m : hp_S} (h23 : hs_I m 0 23 = nI d) (hd : 1 ≤ d) (hd2 : d ≤ 20) (h6 : hs_I m 0 6 = nI c) (hc : c ≠ 16 ∧ c ≠ 19) (hc2 : c < 100) (h37 : hs_A m 37 (d - 1) = nM) (h36 : hs_A m 36 (d - 1) = nI j) (hj : j < 101) : f_M_X11_called_0 F m = some (hs_pI (hs_pI (hs_pA m 8 j (hs_I m 0 56)) 0 56 (nI j)) 0 55 (nI 3)) := by
  unfold f_M_X11_called_0
  by_cases c20 : c = 20
  · subst c20
    simp (disch := omega) only [↓reduceIte, z_lit, z_m1, z_gd, z_le, z_lt, z_eq, z_em, z_me, z_ml, z_mle, z_lm, z_lem, z_pos, z_sub, nI_add, nI_clamp, ib_nI, pm_let, pm_bd, pm_b1, if_true, if_false, ite_true, ite_false, Nat.not_lt_zero, Nat.zero_le, hs_I_pI, hs_I_pA, hs_A_pI, hs_A_pA, and_true, true_and, and_false, false_and, and_self, eq_self, Nat.reduceEqDiff, ↓reduceIte, h23, h6, h37, h36, z_mz]
    all_goals simp
  · simp (disch := omega) only [↓reduceIte, z_lit, z_m1, z_gd, z_le, z_lt, z_eq, z_em, z_me, z_ml, z_mle, z_lm, z_lem, z_pos, z_sub, nI_add, nI_clamp, ib_nI, pm_let, pm_bd, pm_b1, if_true, if_false, ite_true, ite_false, Nat.not_lt_zero, Nat.zero_le, hs_I_pI, hs_I_pA, hs_A_pI, hs_A_pA, and_true, true_and, and_false, false_and, and_self, eq_self, Nat.reduceEqDiff, ↓reduceIte, h23, h6, hc.1, hc.2, c20, h37, h36, z_mz]
    all_goals simp
theorem L6_dead {R : Nat → Int32 → Int32 → Int32 → hp_S → Option (Int32 × hp_S)} {F : Nat} {a x y : Int32} {s : hp_S} (h : Dd s) (hF : 1 ≤ F) : l_C_X4_sum_7_8 R F a x y s = some (x, s) := by
  obtain ⟨F, rfl⟩ : ∃ z, F = z + 1 := ⟨F - 1, by omega⟩
  rw [l_C_X4_sum_7_8.eq_2, C_cur0 h.1]
  simp only [pm_bd]
  rw [if_neg (show ¬ ((0 : Int32) = 20) by decide)]
  split <;> rfl
theorem L6_end {T : Nat → Nat} {n K : Nat} {R : Nat → Int32 → Int32 → Int32 → hp_S → Option (Int32 × hp_S)} {F p q : Nat} {a x y : Int32} {s m : hp_S} (h : PQ T n K s m p q) (hk : tk_K T n K p ≠ 20) (hF : 1 ≤ F) : l_C_X4_sum_7_8 R F a x y s = some (x, s) := by
  obtain ⟨F, rfl⟩ : ∃ z, F = z + 1 := ⟨F - 1, by omega⟩
  have hl := tk_K_lt T n K p
  rw [l_C_X4_sum_7_8.eq_2, C_curN h]
  simp only [pm_bd]
  rw [if_neg (show ¬ (nI (tk_K T n K p) = 20) by rw [show (20 : Int32) = nI 20 from rfl, nI_eq (by omega) (by omega)]; exact hk)]
  split <;> rfl
theorem L6_step {R : Nat → Int32 → Int32 → Int32 → hp_S → Option (Int32 × hp_S)} {F d y : Nat} {x x1 x2 : Int32} {s s1 s2 s3 : hp_S} (hy : y ≤ 100) (hc : f_C_X4_current_7 s = some (nI 20, s)) (h1 : f_C_X4_beginNode_7 (nI 20) x s = some (x1, s1)) (h2 : R 7 (nI d) (nI 0) (nI 0) s1 = some (x2, s2)) (h3 : f_C_X2_setSecond_8 x1 x2 s2 = some s3) : l_C_X4_sum_7_8 R (F + 1) (nI d) x (nI y) s = l_C_X4_sum_7_8 R F (nI d) x1 (nI (y + 1)) s3 := by
  rw [l_C_X4_sum_7_8.eq_2]
  have c : ¬ 100 < y := by omega
  simp (disch := omega) only [↓reduceIte, z_lit, z_m1, z_gd, z_le, z_lt, z_eq, z_em, z_me, z_ml, z_mle, z_lm, z_lem, z_pos, z_sub, nI_add, nI_clamp, ib_nI, pm_let, pm_bd, pm_b1, if_true, if_false, ite_true, ite_false, Nat.not_lt_zero, Nat.zero_le, c, hc, h1, h2, h3]
theorem k_M_ne {T : Nat → Nat} {n K p c : Nat} (h : tk_K T n K p ≠ c) (hc : c < 22) : k_M (tk_K T n K p) ≠ k_M c := fun g => h (k_M_inj (tk_K_lt T n K p) hc g)
theorem L6 {k L N : Nat} {T : Nat → Nat} {n K d : Nat} {s m : hp_S} {p q z : Nat} {sc : Nat → Nat} (hk : 2000 ≤ k) (hL : 5 ≤ L) (H : ∀ N, L ≤ N → EE k N T n K d) (hN : L + 4 ≤ N) (hz : z + 1 ≤ d) (hd : d ≤ 20) (hs4 : hs_I s 7 4 = nI z) (h37 : hs_A m 37 (d - 1) = nM) : ∀ (w F : Nat) (s1 m1 : hp_S) (x1 : Int32) (y p1 q1 v1 : Nat), AX T n K s m s1 m1 p q z sc p1 q1 v1 → MI m1 d 2 v1 → x1 = nI (fj m1 v1) → SF m m1 d d → tk_K T n K p1 ≠ 17 → y ≤ q1 → 100 < q1 + w → w + 2 ≤ F →
    ∃ x s' m', l_C_X4_sum_7_8 (f_C_rec k N) F (nI d) x1 (nI y) s1 = some (x, s') ∧ rn m1 m' ∧ hs_fr rP rA m1 m' ∧ (DE T n K s s' m' ∨ (∃ p' q' v, AX T n K s m s' m' p q z sc p' q' v ∧ MI m' d 2 v ∧ x = nI (fj m' v) ∧ SF m m' d d ∧ tk_K T n K p' ≠ 17 ∧ tk_K T n K p' ≠ 20)) := by
  intro w
  induction w with
  | zero =>
    intro F s1 m1 x1 y p1 q1 v1 A MM hx hSF h17 hy hw hF
    have := A.2.1.1.2.2.2.1
    omega
  | succ w ih =>
    intro F s1 m1 x1 y p1 q1 v1 A MM hx hSF h17 hy hw hF
    have PQ1 := A.2.1.1
    have hK := PQ1.1.2.2.1
    have hp1K := PQ1.2.2.1
    have hq1 := PQ1.2.2.2.1
    by_cases c20 : tk_K T n K p1 = 20
    · obtain ⟨F, rfl⟩ : ∃ z, F = z + 1 := ⟨F - 1, by omega⟩
      have hp1 : p1 < K := tk_K_p (T := T) (n := n) (by omega)
      have cur := C_curN PQ1
      rw [c20] at cur
      have h6 : hs_I m1 0 6 = nI 19 := by have := PQ1.2.2.2.2.2.1.2.2.2.1; rw [c20] at this; exact this
      have hb : hs_I m1 0 50 = nI 0 := PQ1.2.2.2.2.2.1.2.2.1
      have hv1 := A.2.2.2.2.2.2.1
      have s14 : hs_I s1 7 4 = nI z := A.2.1.2.2.2.1
      have p37 : hs_A m1 37 (d - 1) = nM := ((hSF.2 (d - 1) (by omega)).2).trans h37
      by_cases hq : q1 < 100
      · obtain ⟨e1, -, xx, -, e2, S2⟩ := ST_mk (k := 20) (f := x1) (v := nI v1) A.2.1 hp1 (by omega) hq (by simp [nk]) (by omega) (by rw [hx]; exact cr_v hv1)
        obtain ⟨m0, hm0⟩ : ∃ m0, m0 = mS T n K m1 p1 q1 (nI (kn 20)) xx := ⟨_, rfl⟩
        have m0A : ∀ a j, hs_A m0 a j = hs_A (mS T n K m1 p1 q1 (nI (kn 20)) xx) a j := fun a j => by rw [hm0]
        obtain ⟨m2, hm2⟩ : ∃ m2, m2 = hs_pI (hs_pA (hs_pA (hs_pA m0 7 q1 (nI v1)) 37 (d - 1) (nI q1)) 36 (d - 1) (hs_A m0 36 (d - 1))) 0 55 (nI 1) := ⟨_, rfl⟩
        have S2' : ST T n K (cN s1 p1 q1 (nI 20) x1) m2 (p1 + 1) (q1 + 1) z sc := by
          rw [hm2, hm0]
          exact ST_m S2 ((mS_fr.mono (by decide) (by decide)).cons ((hs_fr_pA (by decide)).cons ((hs_fr_pA (by decide)).cons (hs_fr_pI (by decide)))))
        have m2A : ∀ a j, a ≠ 36 → a ≠ 37 → hs_A m2 a j = if a = 7 ∧ j = q1 then nI v1 else hs_A (mS T n K m1 p1 q1 (nI (kn 20)) xx) a j := fun a j g1 g2 => by rw [hm2]; simp only [hs_I_pI, hs_I_pA, hs_A_pI, hs_A_pA, and_true, true_and, and_false, false_and, and_self, eq_self, Nat.reduceEqDiff, ↓reduceIte, g1, g2, m0A]
        have m2B : ∀ j, hs_A m2 36 j = hs_A m1 36 j := fun j => by
          rw [hm2]
          simp only [hs_I_pI, hs_I_pA, hs_A_pI, hs_A_pA, and_true, true_and, and_false, false_and, and_self, eq_self, Nat.reduceEqDiff, ↓reduceIte]
          by_cases g : j = d - 1
          · rw [if_pos g, g, m0A, mS_A]; simp
          · rw [if_neg g, m0A, mS_A]; simp
        have m2C : ∀ j, hs_A m2 37 j = if j = d - 1 then nI q1 else hs_A m1 37 j := fun j => by
          rw [hm2]
          simp only [hs_I_pI, hs_I_pA, hs_A_pI, hs_A_pA, and_true, true_and, and_false, false_and, and_self, eq_self, Nat.reduceEqDiff, ↓reduceIte]
          by_cases g : j = d - 1
          · rw [if_pos g, if_pos g]
          · rw [if_neg g, if_neg g, m0A, mS_A]; simp
        have m2I : hs_I m2 0 23 = nI d := by
          rw [hm2, hm0]; simp only [hs_I_pI, hs_I_pA, hs_A_pI, hs_A_pA, and_true, true_and, and_false, false_and, and_self, eq_self, Nat.reduceEqDiff, ↓reduceIte, mS_I]; exact MM.1
        have m255 : hs_I m2 0 55 = nI 1 := by rw [hm2]; simp only [hs_I_pI, hs_I_pA, hs_A_pI, hs_A_pA, and_true, true_and, and_false, false_and, and_self, eq_self, Nat.reduceEqDiff, ↓reduceIte]
        have r2 : rn m1 m2 := rn_called hb MM.2.1 (fun F hF => by
          rw [M_calledP MM.1 (by omega) hd h6 p37 (e2 F hF) (by omega), hm2, hm0, show hs_I (mS T n K m1 p1 q1 (nI (kn 20)) xx) 0 56 = nI v1 by rw [mS_I]; simp; exact MM.2.2])
        obtain ⟨x4, s3, m4, ec, er, eg, out⟩ := A7 hk hL H hN S2' hz hd m2I m255 (nI 0) (nI 0)
        have b2 : BF m1 m2 p1 q1 := by
          refine ⟨fun a j a1 a2 hj => ?_, fun t ht => ?_⟩
          · have g : ¬ j = q1 := by omega
            have g3 : ¬ a = 5 := by omega
            have g4 : ¬ a = 4 := by omega
            have g5 : ¬ a = 3 := by omega
            rw [m2A a j (by omega) (by omega)]
            simp only [mS_A, g, g3, g4, g5, and_false, false_and, if_false]
          · have g : ¬ t = p1 := by omega
            rw [m2A 5 t (by omega) (by omega)]
            simp [mS_A, g]
        have G2 : hs_fr rP rA m1 m2 := by
          rw [hm2, hm0]
          unfold mS
          exact ((GF_mM.cons GF_mP).cons ((hs_fr_pA (by decide)).cons (hs_fr_pA (by decide)))).cons (((hs_fr_pA (by decide)).cons (hs_fr_pA (by decide))).cons ((hs_fr_pA (by decide)).cons (hs_fr_pI (by decide))))
        have C2 : hs_fr cP cA s1 (cN s1 p1 q1 (nI 20) x1) := CF_cN
        have C24 : hs_I (cN s1 p1 q1 (nI 20) x1) 7 4 = hs_I s 7 4 := by rw [S2'.2.2.2.1, hs4]
        rcases out with D | ⟨p3, q3, v3, B, MM3, hx3, j2, n17⟩
        · have hD := D.dd hK S2'.2.2.1 S2'.2.2.2.1
          obtain ⟨u5, e5, d5⟩ := C_setSecond_any (nI p1) x4 s3
          have hD5 := hD.go (Dr.of d5)
          refine ⟨nI p1, u5, m4, ?_, r2.tr er, G2.cons eg, Or.inl ((D.pre (A.2.2.2.1.cons C2) C24).post (Dr.of d5))⟩
          rw [L6_step (by omega) cur e1 ec e5]
          exact L6_dead hD5 (by omega)
        · have bp := B.1
          have bq := B.2.2.2.2.2.2.2.1.1
          have hp3 := B.2.1.1.2.2.1
          have fq3 : fj m4 q1 = p1 := by
            rw [fj_BF B.2.2.2.2.1 (by omega)]
            exact fj_of (by rw [m2A 10 q1 (by omega) (by omega)]; simp [mS_A]) (by omega)
          have hv3 := B.2.2.2.2.2.2.1
          have hb4 : hs_I m4 0 50 = nI 0 := B.2.1.1.2.2.2.2.2.1.2.2.1
          have h37' : hs_A m4 37 (d - 1) = nI q1 := by rw [(j2.2 (d - 1) (by omega)).2, m2C, if_pos rfl]
          have r4 : rn m4 (foldP m4 d q1) := rn_fold MM3 hb4 (by omega) hd B.2.1.1.2.2.2.2.2.1.2.2.2.1 (k_M_ne n17 (by omega)) (by have := k_M_lt (tk_K_lt T n K p3); omega) h37' (by omega)
          have S4 : ST T n K (hs_pA s3 11 p1 x4) (foldP m4 d q1) p3 q3 z sc := by
            have := ST_set (d := 1) (j := q1) (x := x4) (y := nI v3) B.2.1 (by omega) (by omega) (by rw [hx3]; exact cr_v hv3)
            rw [fq3] at this
            unfold foldP
            rw [MM3.2.2]
            exact ST_m this ((hs_fr_pI (by decide)).cons (hs_fr_pA (by decide)))
          have cs : f_C_X2_setSecond_8 (nI p1) x4 s3 = some (hs_pA s3 11 p1 x4) := C_setSecond (by omega)
          have fA : ∀ a j, a ≠ 37 → hs_A (foldP m4 d q1) a j = if a = 8 ∧ j = q1 then nI v3 else hs_A m4 a j := fun a j g => by
            simp only [foldP, hs_I_pI, hs_I_pA, hs_A_pI, hs_A_pA, and_true, true_and, and_false, false_and, and_self, eq_self, Nat.reduceEqDiff, ↓reduceIte, g, MM3.2.2]
          obtain ⟨A9, f9⟩ := AX_bin (kk := 20) (m4 := foldP m4 d q1) (s4 := hs_pA s3 11 p1 x4) (p4 := p3) A c20 (Or.inr (Or.inl rfl)) b2 (by rw [m2A 6 q1 (by omega) (by omega)]; simp [mS_A]) (by rw [m2A 7 q1 (by omega) (by omega)]; simp) (by rw [m2A 9 q1 (by omega) (by omega)]; simp [mS_A]) (by rw [m2A 10 q1 (by omega) (by omega)]; simp [mS_A]) C2 (fun t ht => by simp only [cN, cT, hs_I_pI, hs_I_pA, hs_A_pI, hs_A_pA, and_true, true_and, and_false, false_and, and_self, eq_self, Nat.reduceEqDiff, ↓reduceIte, ht]) B (fun a j a1 a2 g => by rw [fA a j (by omega), if_neg g]) (by rw [fA 8 q1 (by omega)]; simp) (fun t ht => by rw [fA 5 t (by omega), if_neg (by omega)]) (hs_fr_pA (by decide)) (fun t => by simp only [hs_I_pI, hs_I_pA, hs_A_pI, hs_A_pA, and_true, true_and, and_false, false_and, and_self, eq_self, Nat.reduceEqDiff, ↓reduceIte]) S4 (by omega) (fun t t1 t2 g => by omega)
          have MI9 : MI (foldP m4 d q1) d 2 q1 := by
            refine ⟨?_, ?_, ?_⟩
            · simp only [foldP, hs_I_pI, hs_I_pA, hs_A_pI, hs_A_pA, and_true, true_and, and_false, false_and, and_self, eq_self, Nat.reduceEqDiff, ↓reduceIte]; exact MM3.1
            · simp only [foldP, hs_I_pI, hs_I_pA, hs_A_pI, hs_A_pA, and_true, true_and, and_false, false_and, and_self, eq_self, Nat.reduceEqDiff, ↓reduceIte]; exact MM3.2.1
            · simp only [foldP, hs_I_pI, hs_I_pA, hs_A_pI, hs_A_pA, and_true, true_and, and_false, false_and, and_self, eq_self, Nat.reduceEqDiff, ↓reduceIte]
          have SF9 : SF m (foldP m4 d q1) d d := by
            refine ⟨fun i hi => ⟨?_, ?_⟩, fun i hi => ⟨?_, ?_⟩⟩
            · rw [fA 34 i (by omega), if_neg (by omega), (j2.1 i hi).1, m2A 34 i (by omega) (by omega), ← (hSF.1 i hi).1]; simp [mS_A]
            · rw [fA 35 i (by omega), if_neg (by omega), (j2.1 i hi).2, m2A 35 i (by omega) (by omega), ← (hSF.1 i hi).2]; simp [mS_A]
            · rw [fA 36 i (by omega), if_neg (by omega), (j2.2 i hi).1, m2B, (hSF.2 i hi).1]
            · by_cases g : i = d - 1
              · rw [g, h37]; simp only [foldP, hs_I_pI, hs_I_pA, hs_A_pI, hs_A_pA, and_true, true_and, and_false, false_and, and_self, eq_self, Nat.reduceEqDiff, ↓reduceIte]
              · have : hs_A (foldP m4 d q1) 37 i = hs_A m4 37 i := by simp only [foldP, hs_I_pI, hs_I_pA, hs_A_pI, hs_A_pA, and_true, true_and, and_false, false_and, and_self, eq_self, Nat.reduceEqDiff, ↓reduceIte, g]
                rw [this, (j2.2 i hi).2, m2C, if_neg g, (hSF.2 i hi).2]
          obtain ⟨x, s', m', g1, g2, g3, g4⟩ := ih F _ (foldP m4 d q1) (nI p1) (y + 1) _ _ _ A9 MI9 (by rw [f9]) SF9 n17 (by omega) (by omega) (by omega)
          refine ⟨x, s', m', ?_, ((r2.tr er).tr r4).tr g2, ?_, g4⟩
          · rw [L6_step (by omega) cur e1 ec cs]
            exact g1
          · refine hs_fr.cons ?_ g3
            refine (G2.cons eg).cons ?_
            unfold foldP
            exact (hs_fr_pA (by decide)).cons ((hs_fr_pI (by decide)).cons (hs_fr_pA (by decide)))
      · obtain ⟨⟨u, e1, D, u15⟩, -, e2⟩ := PQ_mk0 (nI 20) x1 (nI 19) PQ1 hq
        have D1 := D.pre A.2.2.2.1 (by rw [s14, hs4])
        have hD := D1.dd hK (by omega) hs4
        obtain ⟨y5, hy5⟩ : ∃ y5, N = y5 + 2 := ⟨N - 2, by omega⟩
        obtain ⟨x4, u4, e4, d4⟩ := D_7 k y5 (by omega) u (nI d) (nI 0) (nI 0) hD
        rw [← hy5] at e4
        obtain ⟨u5, e5, d5⟩ := C_setSecond_any (nI p1) x4 u4
        have hD5 := (hD.go d4).go (Dr.of d5)
        refine ⟨nI p1, u5, _, ?_, rn_called hb MM.2.1 (fun F hF => M_calledP MM.1 (by omega) hd h6 p37 (e2 F) (by omega)), GF_mB.cons (((hs_fr_pA (by decide)).cons (hs_fr_pA (by decide))).cons ((hs_fr_pA (by decide)).cons (hs_fr_pI (by decide)))), Or.inl (((mB_G D1 (by simp only [hs_I_pI, hs_I_pA, hs_A_pI, hs_A_pA, and_true, true_and, and_false, false_and, and_self, eq_self, Nat.reduceEqDiff, ↓reduceIte]) (by simp only [hs_I_pI, hs_I_pA, hs_A_pI, hs_A_pA, and_true, true_and, and_false, false_and, and_self, eq_self, Nat.reduceEqDiff, ↓reduceIte])).post d4).post (Dr.of d5))⟩
        rw [L6_step (by omega) cur e1 e4 e5]
        exact L6_dead hD5 (by omega)
    · exact ⟨x1, s1, m1, L6_end PQ1 c20 (by omega), rn.rf, hs_fr.rf, Or.inr ⟨p1, q1, v1, A, MM, hx, hSF, h17, c20⟩⟩
theorem A6 {k L N : Nat} {T : Nat → Nat} {n K d : Nat} {s m : hp_S} {p q z : Nat} {sc : Nat → Nat} (hk : 2000 ≤ k) (hL : 5 ≤ L) (H : ∀ N, L ≤ N → EE k N T n K d) (hN : L + 5 ≤ N) (h : ST T n K s m p q z sc) (hz : z + 1 ≤ d) (hd : d ≤ 20) (h23 : hs_I m 0 23 = nI d) (h55 : hs_I m 0 55 = nI 1) (h37 : hs_A m 37 (d - 1) = nM) (b c : Int32) :
    ∃ x s' m', f_C_rec k N 6 (nI d) b c s = some (x, s') ∧ rn m m' ∧ hs_fr rP rA m m' ∧ (DE T n K s s' m' ∨ (∃ p' q' v, AX T n K s m s' m' p q z sc p' q' v ∧ MI m' d 2 v ∧ x = nI (fj m' v) ∧ SF m m' d d ∧ tk_K T n K p' ≠ 17 ∧ tk_K T n K p' ≠ 20)) := by
  obtain ⟨N, rfl⟩ : ∃ y, N = y + 1 := ⟨N - 1, by omega⟩
  obtain ⟨x, s1, m1, e1, e2, e3, e4⟩ := A7 hk hL H (show L + 4 ≤ N by omega) h hz hd h23 h55 (nI 0) (nI 0)
  have e1' : f_C_rec k N 7 (nI d) 0 0 s = some (x, s1) := e1
  rw [rec_6]
  unfold f_C_X4_sum_7
  rw [e1']
  simp only [pm_bd]
  rcases e4 with D | ⟨p1, q1, v1, A, MM, hx, hSF, h17⟩
  · exact ⟨x, s1, m1, L6_dead (D.dd h.1.1.2.2.1 h.2.2.1 h.2.2.2.1) (by omega), e2, e3, Or.inl D⟩
  · obtain ⟨x', s', m', g1, g2, g3, g4⟩ := L6 hk hL H (show L + 4 ≤ N by omega) hz hd h.2.2.2.1 h37 101 k s1 m1 x 0 p1 q1 v1 A MM hx hSF h17 (by omega) (by omega) (by omega)
    exact ⟨x', s', m', g1, e2.tr g2, e3.cons g3, g4⟩
theorem C_comp0 {R : Nat → Int32 → Int32 → Int32 → hp_S → Option (Int32 × hp_S)} {k c : Nat} {a x : Int32} {s s1 : hp_S} (h : R 6 a (nI 0) (nI 0) s = some (x, s1)) (hc : f_C_X4_current_7 s1 = some (nI c, s1)) (h21 : c ≠ 21) (hc2 : c < 100) : f_C_X4_comparison_7 R k a s = some (x, s1) := by
  unfold f_C_X4_comparison_7
  simp (disch := omega) only [↓reduceIte, z_lit, z_m1, z_gd, z_le, z_lt, z_eq, z_em, z_me, z_ml, z_mle, z_lm, z_lem, z_pos, z_sub, nI_add, nI_clamp, ib_nI, pm_let, pm_bd, pm_b1, if_true, if_false, ite_true, ite_false, Nat.not_lt_zero, Nat.zero_le, h, hc, h21]
theorem C_comp1 {R : Nat → Int32 → Int32 → Int32 → hp_S → Option (Int32 × hp_S)} {k : Nat} {a x x2 x3 : Int32} {s s1 s2 s3 s4 : hp_S} (h : R 6 a (nI 0) (nI 0) s = some (x, s1)) (hc : f_C_X4_current_7 s1 = some (nI 21, s1)) (h2 : f_C_X4_beginNode_7 (nI 21) x s1 = some (x2, s2)) (h3 : R 6 a (nI 0) (nI 0) s2 = some (x3, s3)) (h4 : f_C_X2_setSecond_8 x2 x3 s3 = some s4) : f_C_X4_comparison_7 R k a s = some (x2, s4) := by
  unfold f_C_X4_comparison_7
  simp (disch := omega) only [↓reduceIte, z_lit, z_m1, z_gd, z_le, z_lt, z_eq, z_em, z_me, z_ml, z_mle, z_lm, z_lem, z_pos, z_sub, nI_add, nI_clamp, ib_nI, pm_let, pm_bd, pm_b1, if_true, if_false, ite_true, ite_false, Nat.not_lt_zero, Nat.zero_le, h, hc, h2, h3, h4]
theorem A5 {k L N : Nat} {T : Nat → Nat} {n K d : Nat} {s m : hp_S} {p q z : Nat} {sc : Nat → Nat} (hk : 2000 ≤ k) (hL : 5 ≤ L) (H : ∀ N, L ≤ N → EE k N T n K d) (hN : L + 6 ≤ N) (h : ST T n K s m p q z sc) (hz : z + 1 ≤ d) (hd : d ≤ 20) (h23 : hs_I m 0 23 = nI d) (h55 : hs_I m 0 55 = nI 1) (h37 : hs_A m 37 (d - 1) = nM) (h36 : hs_A m 36 (d - 1) = nM) (b c : Int32) :
    ∃ x s' m', f_C_rec k N 5 (nI d) b c s = some (x, s') ∧ rn m m' ∧ hs_fr rP rA m m' ∧ (DE T n K s s' m' ∨ (∃ p' q' v, AX T n K s m s' m' p q z sc p' q' v ∧ MI m' d 3 v ∧ x = nI (fj m' v) ∧ SF m m' d (d - 1))) := by
  obtain ⟨N, rfl⟩ : ∃ y, N = y + 1 := ⟨N - 1, by omega⟩
  obtain ⟨x1, s1, m1, e1, e2, e3, e4⟩ := A6 hk hL H (show L + 5 ≤ N by omega) h hz hd h23 h55 h37 (nI 0) (nI 0)
  have hK := h.1.1.2.2.1
  have hs4 := h.2.2.2.1
  rw [rec_5]
  rcases e4 with D | ⟨p1, q1, v1, A, MM, hx, hSF, h17, h20⟩
  · exact ⟨x1, s1, m1, C_comp0 (c := 0) e1 (C_cur0 (D.dd hK h.2.2.1 hs4).1) (by omega) (by omega), e2, e3, Or.inl D⟩
  have PQ1 := A.2.1.1
  have hp1K := PQ1.2.2.1
  have hq1 := PQ1.2.2.2.1
  have cur := C_curN PQ1
  have hl := tk_K_lt T n K p1
  have hl2 := k_M_lt hl
  have h6 := PQ1.2.2.2.2.2.1.2.2.2.1
  have hb : hs_I m1 0 50 = nI 0 := PQ1.2.2.2.2.2.1.2.2.1
  have hv1 := A.2.2.2.2.2.2.1
  have s14 : hs_I s1 7 4 = nI z := A.2.1.2.2.2.1
  have p37 : hs_A m1 37 (d - 1) = nM := ((hSF.2 (d - 1) (by omega)).2).trans h37
  have p36 : hs_A m1 36 (d - 1) = nM := ((hSF.2 (d - 1) (by omega)).1).trans h36
  by_cases c21 : tk_K T n K p1 = 21
  · have hp1 : p1 < K := tk_K_p (T := T) (n := n) (by omega)
    rw [c21] at cur h6
    by_cases hq : q1 < 100
    · obtain ⟨f1, -, xx, -, f2, S2⟩ := ST_mk (k := 21) (f := x1) (v := nI v1) A.2.1 hp1 (by omega) hq (by simp [nk]) (by omega) (by rw [hx]; exact cr_v hv1)
      obtain ⟨m0, hm0⟩ : ∃ m0, m0 = mS T n K m1 p1 q1 (nI (kn 21)) xx := ⟨_, rfl⟩
      have m0A : ∀ a j, hs_A m0 a j = hs_A (mS T n K m1 p1 q1 (nI (kn 21)) xx) a j := fun a j => by rw [hm0]
      obtain ⟨m2, hm2⟩ : ∃ m2, m2 = hs_pI (hs_pA (hs_pA (hs_pA m0 7 q1 (nI v1)) 37 (d - 1) (hs_A m0 37 (d - 1))) 36 (d - 1) (nI q1)) 0 55 (nI 1) := ⟨_, rfl⟩
      have S2' : ST T n K (cN s1 p1 q1 (nI 21) x1) m2 (p1 + 1) (q1 + 1) z sc := by
        rw [hm2, hm0]
        exact ST_m S2 ((mS_fr.mono (by decide) (by decide)).cons ((hs_fr_pA (by decide)).cons ((hs_fr_pA (by decide)).cons (hs_fr_pI (by decide)))))
      have m2A : ∀ a j, a ≠ 36 → a ≠ 37 → hs_A m2 a j = if a = 7 ∧ j = q1 then nI v1 else hs_A (mS T n K m1 p1 q1 (nI (kn 21)) xx) a j := fun a j g1 g2 => by rw [hm2]; simp only [hs_I_pI, hs_I_pA, hs_A_pI, hs_A_pA, and_true, true_and, and_false, false_and, and_self, eq_self, Nat.reduceEqDiff, ↓reduceIte, g1, g2, m0A]
      have m2B : ∀ j, hs_A m2 37 j = hs_A m1 37 j := fun j => by
        rw [hm2]
        simp only [hs_I_pI, hs_I_pA, hs_A_pI, hs_A_pA, and_true, true_and, and_false, false_and, and_self, eq_self, Nat.reduceEqDiff, ↓reduceIte]
        by_cases g : j = d - 1
        · rw [if_pos g, g, m0A, mS_A]; simp
        · rw [if_neg g, m0A, mS_A]; simp
      have m2C : ∀ j, hs_A m2 36 j = if j = d - 1 then nI q1 else hs_A m1 36 j := fun j => by
        rw [hm2]
        simp only [hs_I_pI, hs_I_pA, hs_A_pI, hs_A_pA, and_true, true_and, and_false, false_and, and_self, eq_self, Nat.reduceEqDiff, ↓reduceIte]
        by_cases g : j = d - 1
        · rw [if_pos g, if_pos g]
        · rw [if_neg g, if_neg g, m0A, mS_A]; simp
      have m2I : hs_I m2 0 23 = nI d := by
        rw [hm2, hm0]; simp only [hs_I_pI, hs_I_pA, hs_A_pI, hs_A_pA, and_true, true_and, and_false, false_and, and_self, eq_self, Nat.reduceEqDiff, ↓reduceIte, mS_I]; exact MM.1
      have m255 : hs_I m2 0 55 = nI 1 := by rw [hm2]; simp only [hs_I_pI, hs_I_pA, hs_A_pI, hs_A_pA, and_true, true_and, and_false, false_and, and_self, eq_self, Nat.reduceEqDiff, ↓reduceIte]
      have r2 : rn m1 m2 := rn_called hb MM.2.1 (fun F hF => by
        rw [M_calledL MM.1 (by omega) hd h6 p37 p36 (f2 F hF) (by omega), hm2, hm0, show hs_I (mS T n K m1 p1 q1 (nI (kn 21)) xx) 0 56 = nI v1 by rw [mS_I]; simp; exact MM.2.2])
      obtain ⟨x4, s3, m4, ec, er, eg, out⟩ := A6 hk hL H (show L + 5 ≤ N by omega) S2' hz hd m2I m255 (by rw [m2B]; exact p37) (nI 0) (nI 0)
      have b2 : BF m1 m2 p1 q1 := by
        refine ⟨fun a j a1 a2 hj => ?_, fun t ht => ?_⟩
        · have g : ¬ j = q1 := by omega
          have g3 : ¬ a = 5 := by omega
          have g4 : ¬ a = 4 := by omega
          have g5 : ¬ a = 3 := by omega
          rw [m2A a j (by omega) (by omega)]
          simp only [mS_A, g, g3, g4, g5, and_false, false_and, if_false]
        · have g : ¬ t = p1 := by omega
          rw [m2A 5 t (by omega) (by omega)]
          simp [mS_A, g]
      have G2 : hs_fr rP rA m1 m2 := by
        rw [hm2, hm0]
        unfold mS
        exact ((GF_mM.cons GF_mP).cons ((hs_fr_pA (by decide)).cons (hs_fr_pA (by decide)))).cons (((hs_fr_pA (by decide)).cons (hs_fr_pA (by decide))).cons ((hs_fr_pA (by decide)).cons (hs_fr_pI (by decide))))
      have C2 : hs_fr cP cA s1 (cN s1 p1 q1 (nI 21) x1) := CF_cN
      have C24 : hs_I (cN s1 p1 q1 (nI 21) x1) 7 4 = hs_I s 7 4 := by rw [S2'.2.2.2.1, hs4]
      rcases out with D | ⟨p3, q3, v3, B, MM3, hx3, j2, n17, n20⟩
      · obtain ⟨u5, e5, d5⟩ := C_setSecond_any (nI p1) x4 s3
        exact ⟨nI p1, u5, m4, C_comp1 e1 cur f1 ec e5, (e2.tr r2).tr er, (e3.cons G2).cons eg, Or.inl ((D.pre (A.2.2.2.1.cons C2) C24).post (Dr.of d5))⟩
      · have bp := B.1
        have bq := B.2.2.2.2.2.2.2.1.1
        have hp3 := B.2.1.1.2.2.1
        have fq3 : fj m4 q1 = p1 := by
          rw [fj_BF B.2.2.2.2.1 (by omega)]
          exact fj_of (by rw [m2A 10 q1 (by omega) (by omega)]; simp [mS_A]) (by omega)
        have hv3 := B.2.2.2.2.2.2.1
        have hb4 : hs_I m4 0 50 = nI 0 := B.2.1.1.2.2.2.2.2.1.2.2.1
        have h36' : hs_A m4 36 (d - 1) = nI q1 := by rw [(j2.2 (d - 1) (by omega)).1, m2C, if_pos rfl]
        have h37' : hs_A m4 37 (d - 1) = nM := by rw [(j2.2 (d - 1) (by omega)).2, m2B, p37]
        obtain ⟨m5, hm5⟩ : ∃ m5, m5 = hs_pI (hs_pI (hs_pA m4 8 q1 (nI v3)) 0 56 (nI q1)) 0 55 (nI 3) := ⟨_, rfl⟩
        have r4 : rn m4 m5 := rn_called hb4 MM3.2.1 (fun F hF => by
          rw [M_calledE1 MM3.1 (by omega) hd B.2.1.1.2.2.2.2.2.1.2.2.2.1 ⟨k_M_ne n17 (by omega), k_M_ne n20 (by omega)⟩ (by have := k_M_lt (tk_K_lt T n K p3); omega) h37' h36' (by omega), hm5, MM3.2.2])
        have S4 : ST T n K (hs_pA s3 11 p1 x4) m5 p3 q3 z sc := by
          have := ST_set (d := 1) (j := q1) (x := x4) (y := nI v3) B.2.1 (by omega) (by omega) (by rw [hx3]; exact cr_v hv3)
          rw [fq3] at this
          rw [hm5]
          exact ST_m this ((hs_fr_pI (by decide)).cons (hs_fr_pI (by decide)))
        have cs : f_C_X2_setSecond_8 (nI p1) x4 s3 = some (hs_pA s3 11 p1 x4) := C_setSecond (by omega)
        have fA : ∀ a j, hs_A m5 a j = if a = 8 ∧ j = q1 then nI v3 else hs_A m4 a j := fun a j => by rw [hm5]; simp only [hs_I_pI, hs_I_pA, hs_A_pI, hs_A_pA, and_true, true_and, and_false, false_and, and_self, eq_self, Nat.reduceEqDiff, ↓reduceIte]
        obtain ⟨A9, f9⟩ := AX_bin (kk := 21) (m4 := m5) (s4 := hs_pA s3 11 p1 x4) (p4 := p3) A c21 (Or.inr (Or.inr rfl)) b2 (by rw [m2A 6 q1 (by omega) (by omega)]; simp [mS_A]) (by rw [m2A 7 q1 (by omega) (by omega)]; simp) (by rw [m2A 9 q1 (by omega) (by omega)]; simp [mS_A]) (by rw [m2A 10 q1 (by omega) (by omega)]; simp [mS_A]) C2 (fun t ht => by simp only [cN, cT, hs_I_pI, hs_I_pA, hs_A_pI, hs_A_pA, and_true, true_and, and_false, false_and, and_self, eq_self, Nat.reduceEqDiff, ↓reduceIte, ht]) B (fun a j a1 a2 g => by rw [fA, if_neg g]) (by rw [fA]; simp) (fun t ht => by rw [fA, if_neg (by omega)]) (hs_fr_pA (by decide)) (fun t => by simp only [hs_I_pI, hs_I_pA, hs_A_pI, hs_A_pA, and_true, true_and, and_false, false_and, and_self, eq_self, Nat.reduceEqDiff, ↓reduceIte]) S4 (by omega) (fun t t1 t2 g => by omega)
        refine ⟨nI p1, hs_pA s3 11 p1 x4, m5, C_comp1 e1 cur f1 ec cs, ((e2.tr r2).tr er).tr r4, ?_, Or.inr ⟨p3, q3, q1, A9, ?_, by rw [f9], ?_⟩⟩
        · rw [hm5]
          exact ((e3.cons G2).cons eg).cons ((hs_fr_pA (by decide)).cons ((hs_fr_pI (by decide)).cons (hs_fr_pI (by decide))))
        · rw [hm5]
          refine ⟨?_, ?_, ?_⟩
          · simp only [hs_I_pI, hs_I_pA, hs_A_pI, hs_A_pA, and_true, true_and, and_false, false_and, and_self, eq_self, Nat.reduceEqDiff, ↓reduceIte]; exact MM3.1
          · simp only [hs_I_pI, hs_I_pA, hs_A_pI, hs_A_pA, and_true, true_and, and_false, false_and, and_self, eq_self, Nat.reduceEqDiff, ↓reduceIte]
          · simp only [hs_I_pI, hs_I_pA, hs_A_pI, hs_A_pA, and_true, true_and, and_false, false_and, and_self, eq_self, Nat.reduceEqDiff, ↓reduceIte]
        · refine ⟨fun i hi => ⟨?_, ?_⟩, fun i hi => ⟨?_, ?_⟩⟩
          · rw [fA, if_neg (by omega), (j2.1 i hi).1, m2A 34 i (by omega) (by omega), ← (hSF.1 i hi).1]; simp [mS_A]
          · rw [fA, if_neg (by omega), (j2.1 i hi).2, m2A 35 i (by omega) (by omega), ← (hSF.1 i hi).2]; simp [mS_A]
          · rw [fA, if_neg (by omega), (j2.2 i (by omega)).1, m2C, if_neg (by omega), (hSF.2 i (by omega)).1]
          · rw [fA, if_neg (by omega), (j2.2 i (by omega)).2, m2B, (hSF.2 i (by omega)).2]
    · obtain ⟨⟨u, f1, D, u15⟩, -, f2⟩ := PQ_mk0 (nI 21) x1 (nI 20) PQ1 hq
      have D1 := D.pre A.2.2.2.1 (by rw [s14, hs4])
      have hD := D1.dd hK h.2.2.1 hs4
      obtain ⟨y5, hy5⟩ : ∃ y5, N = y5 + 3 := ⟨N - 3, by omega⟩
      obtain ⟨x4, u4, f4, d4⟩ := D_6 k y5 (by omega) u (nI d) (nI 0) (nI 0) hD
      rw [← hy5] at f4
      obtain ⟨u5, f5, d5⟩ := C_setSecond_any (nI p1) x4 u4
      exact ⟨nI p1, u5, _, C_comp1 e1 cur f1 f4 f5, e2.tr (rn_called hb MM.2.1 (fun F hF => M_calledL MM.1 (by omega) hd h6 p37 p36 (f2 F) (by omega))), (e3.cons GF_mB).cons (((hs_fr_pA (by decide)).cons (hs_fr_pA (by decide))).cons ((hs_fr_pA (by decide)).cons (hs_fr_pI (by decide)))), Or.inl (((mB_G D1 (by simp only [hs_I_pI, hs_I_pA, hs_A_pI, hs_A_pA, and_true, true_and, and_false, false_and, and_self, eq_self, Nat.reduceEqDiff, ↓reduceIte]) (by simp only [hs_I_pI, hs_I_pA, hs_A_pI, hs_A_pA, and_true, true_and, and_false, false_and, and_self, eq_self, Nat.reduceEqDiff, ↓reduceIte])).post d4).post (Dr.of d5))⟩
  · have r4 : rn m1 (hs_pI m1 0 55 (nI 3)) := rn_called hb MM.2.1 (fun F hF => M_calledE0 MM.1 (by omega) hd h6 ⟨k_M_ne h17 (by omega), k_M_ne h20 (by omega), k_M_ne c21 (by omega)⟩ (by omega) p37 p36)
    refine ⟨x1, s1, hs_pI m1 0 55 (nI 3), C_comp0 e1 cur c21 (by omega), e2.tr r4, e3.cons (hs_fr_pI (by decide)), Or.inr ⟨p1, q1, v1, AX_m A (hs_fr_pI (by decide)), ⟨?_, ?_, ?_⟩, hx, ?_⟩⟩
    · simp only [hs_I_pI, hs_I_pA, hs_A_pI, hs_A_pA, and_true, true_and, and_false, false_and, and_self, eq_self, Nat.reduceEqDiff, ↓reduceIte]; exact MM.1
    · simp only [hs_I_pI, hs_I_pA, hs_A_pI, hs_A_pA, and_true, true_and, and_false, false_and, and_self, eq_self, Nat.reduceEqDiff, ↓reduceIte]
    · simp only [hs_I_pI, hs_I_pA, hs_A_pI, hs_A_pA, and_true, true_and, and_false, false_and, and_self, eq_self, Nat.reduceEqDiff, ↓reduceIte]; exact MM.2.2
    · exact ⟨fun i hi => hSF.1 i hi, fun i hi => hSF.2 i (by omega)⟩
