/-! EXPRESSIONS of every depth -/
theorem C_expr {R : Nat → Int32 → Int32 → Int32 → hp_S → Option (Int32 × hp_S)} {k d c g : Nat} {x : Int32} {s s1 : hp_S} (hd : d ≤ 20) (hc : f_C_X4_current_7 s = some (nI c, s)) (hc2 : c < 100) (hg : (c = 4 ∧ g = 1) ∨ (c = 5 ∧ g = 2) ∨ (c = 7 ∧ g = 4) ∨ (c ≠ 4 ∧ c ≠ 5 ∧ c ≠ 7 ∧ g = 5)) (h : R g (nI d) (nI 0) (nI 0) s = some (x, s1)) : f_C_X4_expression_7 R k (nI d) s = some (x, s1) := by
  unfold f_C_X4_expression_7
  rcases hg with ⟨rfl, rfl⟩ | ⟨rfl, rfl⟩ | ⟨rfl, rfl⟩ | ⟨c4, c5, c7, rfl⟩
  · simp (disch := omega) only [↓reduceIte, z_lit, z_m1, z_gd, z_le, z_lt, z_eq, z_em, z_me, z_ml, z_mle, z_lm, z_lem, z_pos, z_sub, nI_add, nI_clamp, ib_nI, pm_let, pm_bd, pm_b1, if_true, if_false, ite_true, ite_false, Nat.not_lt_zero, Nat.zero_le, hd, hc, h]
    all_goals simp
  · simp (disch := omega) only [↓reduceIte, z_lit, z_m1, z_gd, z_le, z_lt, z_eq, z_em, z_me, z_ml, z_mle, z_lm, z_lem, z_pos, z_sub, nI_add, nI_clamp, ib_nI, pm_let, pm_bd, pm_b1, if_true, if_false, ite_true, ite_false, Nat.not_lt_zero, Nat.zero_le, hd, hc, h]
    all_goals simp
  · simp (disch := omega) only [↓reduceIte, z_lit, z_m1, z_gd, z_le, z_lt, z_eq, z_em, z_me, z_ml, z_mle, z_lm, z_lem, z_pos, z_sub, nI_add, nI_clamp, ib_nI, pm_let, pm_bd, pm_b1, if_true, if_false, ite_true, ite_false, Nat.not_lt_zero, Nat.zero_le, hd, hc, h]
    all_goals simp
  · by_cases c6 : c = 6
    · subst c6
      simp (disch := omega) only [↓reduceIte, z_lit, z_m1, z_gd, z_le, z_lt, z_eq, z_em, z_me, z_ml, z_mle, z_lm, z_lem, z_pos, z_sub, nI_add, nI_clamp, ib_nI, pm_let, pm_bd, pm_b1, if_true, if_false, ite_true, ite_false, Nat.not_lt_zero, Nat.zero_le, hd, hc, h]
      all_goals simp
    · simp (disch := omega) only [↓reduceIte, z_lit, z_m1, z_gd, z_le, z_lt, z_eq, z_em, z_me, z_ml, z_mle, z_lm, z_lem, z_pos, z_sub, nI_add, nI_clamp, ib_nI, pm_let, pm_bd, pm_b1, if_true, if_false, ite_true, ite_false, Nat.not_lt_zero, Nat.zero_le, hd, hc, h, c4, c5, c6, c7]
theorem A0 {k L N : Nat} {T : Nat → Nat} {n K d : Nat} {s m : hp_S} {p q z : Nat} {sc : Nat → Nat} (hk : 2000 ≤ k) (hL : 5 ≤ L) (H : ∀ N, L ≤ N → EE k N T n K d) (hN : L + 7 ≤ N) (h : ST T n K s m p q z sc) (hz : z + 1 ≤ d) (hd : d ≤ 20) (h23 : hs_I m 0 23 = nI d) (h55 : hs_I m 0 55 = nI 0) (h36 : hs_A m 36 (d - 1) = nM) (h37 : hs_A m 37 (d - 1) = nM) (b c : Int32) :
    ∃ x s' m', f_C_rec k N 0 (nI d) b c s = some (x, s') ∧ rn m m' ∧ hs_fr rP rA m m' ∧ (DE T n K s s' m' ∨ (∃ p' q' v, AX T n K s m s' m' p q z sc p' q' v ∧ MI m' d 3 v ∧ x = nI (fj m' v) ∧ SF m m' d (d - 1))) := by
  obtain ⟨N, rfl⟩ : ∃ y, N = y + 1 := ⟨N - 1, by omega⟩
  have cur := C_curN h.1
  have hl := tk_K_lt T n K p
  have hl2 := k_M_lt hl
  by_cases c4 : tk_K T n K p = 4
  · obtain ⟨x, s', m', e1, e2, e3, e4⟩ := A1 hk hL H (show L + 6 ≤ N by omega) h hz hd h23 h55 c4 (nI 0) (nI 0)
    exact ⟨x, s', m', by rw [rec_0]; exact C_expr hd cur (by omega) (Or.inl ⟨c4, rfl⟩) e1, e2, e3, e4⟩
  by_cases c5 : tk_K T n K p = 5
  · obtain ⟨x, s', m', e1, e2, e3, e4⟩ := A2 hk hL H (show L + 6 ≤ N by omega) h hz hd h23 h55 c5 (nI 0) (nI 0)
    exact ⟨x, s', m', by rw [rec_0]; exact C_expr hd cur (by omega) (Or.inr (Or.inl ⟨c5, rfl⟩)) e1, e2, e3, e4⟩
  by_cases c7 : tk_K T n K p = 7
  · obtain ⟨x, s', m', e1, e2, e3, e4⟩ := A4 hk hL H (show L + 6 ≤ N by omega) h hz hd h23 h55 c7 (nI 0) (nI 0)
    exact ⟨x, s', m', by rw [rec_0]; exact C_expr hd cur (by omega) (Or.inr (Or.inr (Or.inl ⟨c7, rfl⟩))) e1, e2, e3, e4⟩
  have hb : hs_I m 0 50 = nI 0 := h.1.2.2.2.2.2.1.2.2.1
  have r1 : rn m (hs_pI m 0 55 (nI 1)) := rn_begins hb h55 (fun F hF => M_begins0 h.1.2.2.2.2.2.1.2.2.2.1 ⟨k_M_ne c4 (by omega), k_M_ne c5 (by omega), k_M_ne c7 (by omega)⟩ (by omega))
  have f1 : hs_fr [(0, 4), (0, 23), (0, 55), (0, 56)] [34, 35, 36, 37] m (hs_pI m 0 55 (nI 1)) := hs_fr_pI (by decide)
  obtain ⟨x, s', m', e1, e2, e3, e4⟩ := A5 hk hL H (show L + 6 ≤ N by omega) (ST_m h (f1.mono (by decide) (by decide))) hz hd (by simp only [hs_I_pI, hs_I_pA, hs_A_pI, hs_A_pA, and_true, true_and, and_false, false_and, and_self, eq_self, Nat.reduceEqDiff, ↓reduceIte]; exact h23) (by simp only [hs_I_pI, hs_I_pA, hs_A_pI, hs_A_pA, and_true, true_and, and_false, false_and, and_self, eq_self, Nat.reduceEqDiff, ↓reduceIte]) (by simp only [hs_I_pI, hs_I_pA, hs_A_pI, hs_A_pA, and_true, true_and, and_false, false_and, and_self, eq_self, Nat.reduceEqDiff, ↓reduceIte]; exact h37) (by simp only [hs_I_pI, hs_I_pA, hs_A_pI, hs_A_pA, and_true, true_and, and_false, false_and, and_self, eq_self, Nat.reduceEqDiff, ↓reduceIte]; exact h36) (nI 0) (nI 0)
  refine ⟨x, s', m', by rw [rec_0]; exact C_expr hd cur (by omega) (Or.inr (Or.inr (Or.inr ⟨c4, c5, c7, rfl⟩))) e1, r1.tr e2, (hs_fr_pI (by decide)).cons e3, ?_⟩
  rcases e4 with D | ⟨p', q', v, A, MM, hx, hSF⟩
  · exact Or.inl D
  · exact Or.inr ⟨p', q', v, AX_pre A (BF_of f1), MM, hx, SF_I.tr hSF (Nat.le_refl _) (Nat.le_refl _)⟩
theorem mE_A (m : hp_S) (d : Nat) (w v : Int32) (a i : Nat) : hs_A (mE m d w v) a i = if a = 37 ∧ i = d then nM else if a = 36 ∧ i = d then nM else if a = 35 ∧ i = d then v else if a = 34 ∧ i = d then w else hs_A m a i := by simp only [mE, hs_I_pI, hs_I_pA, hs_A_pI, hs_A_pA, and_true, true_and, and_false, false_and, and_self, eq_self, Nat.reduceEqDiff, ↓reduceIte]
theorem EE_all {k : Nat} {T : Nat → Nat} {n K : Nat} (hk : 2000 ≤ k) : ∀ D d, D + d = 20 → ∀ N, 7 * D + 5 ≤ N → EE k N T n K d := by
  intro D
  induction D with
  | zero =>
    intro d hd N hN s m p q z sc w v h1 h2 h3 hz h23
    obtain ⟨N, rfl⟩ : ∃ y, N = y + 1 := ⟨N - 1, by omega⟩
    have hb : hs_I m 0 50 = nI 0 := h1.2.2.2.2.2.1.2.2.1
    refine ⟨mB m, M_enter0 h23 (by omega) (by omega) hb, nM, cR s p, mB m, ?_, rn.rf, GF_mB, Or.inl (mB_DE h1.2.2.2.2.2.1.2.2.2.2.1 h1.2.2.1)⟩
    rw [rec_0]
    unfold f_C_X4_expression_7
    have c : ¬ d + 1 ≤ 20 := by omega
    have er : f_C_X4_refuse_7 s = some (cR s p) := by rw [C_ref h1.2.2.2.2.1.2.2, h1.2.2.2.2.1.1]; rfl
    simp (disch := omega) only [↓reduceIte, z_lit, z_m1, z_gd, z_le, z_lt, z_eq, z_em, z_me, z_ml, z_mle, z_lm, z_lem, z_pos, z_sub, nI_add, nI_clamp, ib_nI, pm_let, pm_bd, pm_b1, if_true, if_false, ite_true, ite_false, Nat.not_lt_zero, Nat.zero_le, c, er]
  | succ D ih =>
    intro d hd N hN s m p q z sc w v h1 h2 h3 hz h23
    have hE := M_enter (w := w) (v := v) h23 (show d < 20 by omega)
    have fE : hs_fr [(0, 4), (0, 23), (0, 55), (0, 56)] [34, 35, 36, 37] m (mE m d w v) := by
      unfold mE
      exact (((hs_fr_pA (by decide)).cons (hs_fr_pA (by decide))).cons ((hs_fr_pA (by decide)).cons (hs_fr_pA (by decide)))).cons ((hs_fr_pI (by decide)).cons (hs_fr_pI (by decide)))
    have hST : ST T n K s (mE m d w v) p q z sc := ST_m ⟨h1, h2, h3⟩ (fE.mono (by decide) (by decide))
    obtain ⟨x, s', m', e1, e2, e3, e4⟩ := A0 (L := 7 * D + 5) hk (by omega) (ih (d + 1) (by omega)) (show 7 * D + 5 + 7 ≤ N by omega) hST (show z + 1 ≤ d + 1 by omega) (by omega) (by simp only [mE, hs_I_pI, hs_I_pA, hs_A_pI, hs_A_pA, and_true, true_and, and_false, false_and, and_self, eq_self, Nat.reduceEqDiff, ↓reduceIte]) (by simp only [mE, hs_I_pI, hs_I_pA, hs_A_pI, hs_A_pA, and_true, true_and, and_false, false_and, and_self, eq_self, Nat.reduceEqDiff, ↓reduceIte]) (by rw [Nat.add_sub_cancel, mE_A]; simp) (by rw [Nat.add_sub_cancel, mE_A]; simp) (nI 0) (nI 0)
    refine ⟨_, hE, x, s', m', e1, e2, GF_mE.cons e3, ?_⟩
    rcases e4 with Dd | ⟨p', q', v', A, MM, hx, hSF⟩
    · exact Or.inl Dd
    · rw [Nat.add_sub_cancel] at hSF
      refine Or.inr ⟨AX_AL (AX_pre A (BF_of fE)) MM hx, ?_, ?_, ?_⟩
      · refine SF.tr (d' := d) (e' := d) ⟨fun i hi => ?_, fun i hi => ?_⟩ ⟨fun i hi => hSF.1 i (by omega), fun i hi => hSF.2 i hi⟩ (Nat.le_refl _) (Nat.le_refl _)
        · have g : ¬ i = d := by omega
          simp [mE_A, g]
        · have g : ¬ i = d := by omega
          simp [mE_A, g]
      · rw [(hSF.1 d (by omega)).1, mE_A]; simp
      · rw [(hSF.1 d (by omega)).2, mE_A]; simp
/-! THE WHOLE TEXT -/
theorem M_ended0 {F c : Nat} {m : hp_S} (h23 : hs_I m 0 23 = nI 1) (h34 : hs_A m 34 0 = nI 0) (h6 : hs_I m 0 6 = nI c) (hc : c < 100) (hb : hs_I m 0 50 = nI 0) : f_M_X11_ended_0 F m = some (hs_pI (if c = 0 then hs_pI m 0 23 (nI 0) else mB (hs_pI m 0 23 (nI 0))) 0 55 (nI 4)) := by
  have hb' : hs_I (hs_pI m 0 23 (nI 0)) 0 50 = nI 0 := by simp only [hs_I_pI, hs_I_pA, hs_A_pI, hs_A_pA, and_true, true_and, and_false, false_and, and_self, eq_self, Nat.reduceEqDiff, ↓reduceIte]; exact hb
  have hn := M_need0 hb'
  unfold f_M_X11_ended_0
  by_cases c0 : c = 0
  · subst c0
    simp (disch := omega) only [↓reduceIte, z_lit, z_m1, z_gd, z_le, z_lt, z_eq, z_em, z_me, z_ml, z_mle, z_lm, z_lem, z_pos, z_sub, nI_add, nI_clamp, ib_nI, pm_let, pm_bd, pm_b1, if_true, if_false, ite_true, ite_false, Nat.not_lt_zero, Nat.zero_le, hs_I_pI, hs_I_pA, hs_A_pI, hs_A_pA, and_true, true_and, and_false, false_and, and_self, eq_self, Nat.reduceEqDiff, ↓reduceIte, h23, h34, h6, Nat.sub_self, M_need1]
  · simp (disch := omega) only [↓reduceIte, z_lit, z_m1, z_gd, z_le, z_lt, z_eq, z_em, z_me, z_ml, z_mle, z_lm, z_lem, z_pos, z_sub, nI_add, nI_clamp, ib_nI, pm_let, pm_bd, pm_b1, if_true, if_false, ite_true, ite_false, Nat.not_lt_zero, Nat.zero_le, hs_I_pI, hs_I_pA, hs_A_pI, hs_A_pA, and_true, true_and, and_false, false_and, and_self, eq_self, Nat.reduceEqDiff, ↓reduceIte, h23, h34, h6, Nat.sub_self, hn, c0]
theorem rn_done {m m' : hp_S} (h : rn m m') (hd : hs_I m' 0 50 ≠ nI 0 ∨ hs_I m' 0 55 = nI 4) : ∃ N, ∀ F, N ≤ F → l_M_X11_parse_0_16 F m = some (hs_I m' 0 56, m') := by
  obtain ⟨k, h⟩ := h
  refine ⟨k + 1101, fun F hF => ?_⟩
  obtain ⟨F, rfl⟩ : ∃ y, F = (y + 1) + k := ⟨F - k - 1, by omega⟩
  rw [h (F + 1) (by omega), l_M_X11_parse_0_16.eq_2]
  by_cases c : hs_I m' 0 50 = nI 0
  · rcases hd with g | g
    · exact absurd c g
    · simp (disch := omega) only [↓reduceIte, z_lit, z_m1, z_gd, z_le, z_lt, z_eq, z_em, z_me, z_ml, z_mle, z_lm, z_lem, z_pos, z_sub, nI_add, nI_clamp, ib_nI, pm_let, pm_bd, pm_b1, if_true, if_false, ite_true, ite_false, Nat.not_lt_zero, Nat.zero_le, c, g]
  · have c' : ¬ hs_I m' 0 50 = 0 := c
    rw [if_neg c']
def cS (s : hp_S) : hp_S := hs_pI (hs_pI (hs_pI (hs_pI (hs_pI s 7 4 (nI 0)) 7 5 (nI 0)) 7 6 (nI 0)) 7 7 nM) 7 8 nM
def mZ (m : hp_S) : hp_S := hs_pI (hs_pI m 0 50 (nI 0)) 0 23 (nI 0)
theorem C_parse {k : Nat} {x : Int32} {s s1 : hp_S} {c : Nat} (h : f_C_rec k 160 0 (nI 1) (nI 0) (nI 0) (cS s) = some (x, s1)) (hc : f_C_X4_current_7 (hs_pI s1 7 9 x) = some (nI c, hs_pI s1 7 9 x)) (hc2 : c < 100) : f_C_X4_parse_7 k s = if c = 0 then some (if hs_I s1 7 7 = nM then nI 1 else nI 0, hs_pI s1 7 9 x) else pm_b1 (f_C_X4_refuse_7 (hs_pI s1 7 9 x)) (fun u => some (if hs_I u 7 7 = nM then nI 1 else nI 0, u)) := by
  unfold cS at h
  unfold f_C_X4_parse_7
  by_cases c0 : c = 0
  · subst c0
    simp (disch := omega) only [↓reduceIte, z_lit, z_m1, z_gd, z_le, z_lt, z_eq, z_em, z_me, z_ml, z_mle, z_lm, z_lem, z_pos, z_sub, nI_add, nI_clamp, ib_nI, pm_let, pm_bd, pm_b1, if_true, if_false, ite_true, ite_false, Nat.not_lt_zero, Nat.zero_le, h, hc]
    simp only [hs_I_pI, hs_I_pA, hs_A_pI, hs_A_pA, and_true, true_and, and_false, false_and, and_self, eq_self, Nat.reduceEqDiff, ↓reduceIte]
    split <;> rfl
  · simp (disch := omega) only [↓reduceIte, z_lit, z_m1, z_gd, z_le, z_lt, z_eq, z_em, z_me, z_ml, z_mle, z_lm, z_lem, z_pos, z_sub, nI_add, nI_clamp, ib_nI, pm_let, pm_bd, pm_b1, if_true, if_false, ite_true, ite_false, Nat.not_lt_zero, Nat.zero_le, h, hc, c0]
    cases f_C_X4_refuse_7 (hs_pI s1 7 9 x) with
    | none => rfl
    | some u =>
      simp only [pm_b1]
      by_cases g : hs_I u 7 7 = nM
      · simp only [g, if_true]
      · simp only [g, if_false]
/-- what is known of a text that was read -/
def RD (T : Nat → Nat) (n K : Nat) (s m : hp_S) (q v : Nat) : Prop := PQ T n K s m K q ∧ un s m q ∧ SG T n K m 0 0 K q ∧ NM T n s m 0 q 0 (fun _ => 0) ∧ v < q ∧ hs_I s 7 9 = nI (fj m v) ∧ hs_I m 0 56 = nI v
def rQ : List (Nat × Nat) := [(7, 4), (7, 5), (7, 6), (7, 7), (7, 8), (7, 9)]
theorem PARSE {k : Nat} {T : Nat → Nat} {n K : Nat} {s m : hp_S} (hk : 2000 ≤ k) (h1 : C_T s T n K) (h2 : M_tx m T n) (h11 : hs_I m 0 11 = nI 0) (h12 : hs_I m 0 12 = nI 0) (h6 : hs_I m 0 6 = nI (k_M (tk_K T n K 0))) (h7 : hs_I m 0 7 = nI (tk_p T n 0)) (h5 : tk_K T n K 0 ≠ 1 → 0 < K → hs_I m 0 5 = nI (tk_e T n 0)) :
    ∃ b s' y m', f_C_X4_parse_7 k s = some (nI b, s') ∧ (∃ N, ∀ F, N ≤ F → f_M_X11_parse_0 F m = some (y, m')) ∧ hs_fr cP cA s s' ∧ hs_fr rP rA m m' ∧
      ((b = 0 ∧ hs_I m' 0 50 = nI 1 ∧ ∃ t, t ≤ K ∧ hs_I s' 7 7 = nI t ∧ hs_I m' 0 4 = nI (tk_p T n t)) ∨ (b = 1 ∧ hs_I m' 0 50 = nI 0 ∧ hs_I s' 7 7 = nM ∧ ∃ q v, RD T n K s' m' q v ∧ y = nI v)) := by
  have hK := h1.2.2.1
  have cf : hs_fr cP cA s (cS s) := by
    unfold cS
    exact (((hs_fr_pI (by decide)).cons (hs_fr_pI (by decide))).cons (hs_fr_pI (by decide))).cons ((hs_fr_pI (by decide)).cons (hs_fr_pI (by decide)))
  have mf : hs_fr rP rA m (mZ m) := by
    unfold mZ
    exact (hs_fr_pI (by decide)).cons (hs_fr_pI (by decide))
  have P0 : PQ T n K (cS s) (mZ m) 0 0 := by
    refine ⟨C_T_fr h1 cf (by decide), M_tx_fr (P := [(0, 50), (0, 23)]) (A := []) h2 ((hs_fr_pI (by decide)).cons (hs_fr_pI (by decide))) (by decide), by omega, by omega, ?_, ?_, fun j hj => by omega, fun t ht => by omega⟩
    · simp only [cS, hs_I_pI, hs_I_pA, hs_A_pI, hs_A_pA, and_true, true_and, and_false, false_and, and_self, eq_self, Nat.reduceEqDiff, ↓reduceIte]
    · simp only [mZ, hs_I_pI, hs_I_pA, hs_A_pI, hs_A_pA, and_true, true_and, and_false, false_and, and_self, eq_self, Nat.reduceEqDiff, ↓reduceIte]; exact ⟨h11, h12, h6, h7, h5⟩
  have U0 : un (cS s) (mZ m) 0 := Or.inl ⟨by simp only [cS, hs_I_pI, hs_I_pA, hs_A_pI, hs_A_pA, and_true, true_and, and_false, false_and, and_self, eq_self, Nat.reduceEqDiff, ↓reduceIte], fun j hj => by omega⟩
  have Z0 : SCp (cS s) 0 (fun _ => 0) 0 := ⟨by omega, by simp only [cS, hs_I_pI, hs_I_pA, hs_A_pI, hs_A_pA, and_true, true_and, and_false, false_and, and_self, eq_self, Nat.reduceEqDiff, ↓reduceIte], fun i hi => by omega⟩
  obtain ⟨m1, e1, x, s1, m2, ec, er, eg, out⟩ := EE_all (T := T) (n := n) (K := K) hk 20 0 (by omega) 160 (by omega) (cS s) (mZ m) 0 0 0 (fun _ => 0) (nI 0) nM P0 U0 Z0 (by omega) (by simp only [mZ, hs_I_pI, hs_I_pA, hs_A_pI, hs_A_pA, and_true, true_and, and_false, false_and, and_self, eq_self, Nat.reduceEqDiff, ↓reduceIte])
  have ep : ∀ F, f_M_X11_parse_0 F m = l_M_X11_parse_0_16 F m1 := by
    intro F
    unfold f_M_X11_parse_0
    unfold mZ at e1
    simp only [↓reduceIte, z_lit, z_m1, z_gd, z_le, z_lt, z_eq, z_em, z_me, z_ml, z_mle, z_lm, z_lem, z_pos, z_sub, nI_add, nI_clamp, ib_nI, pm_let, pm_bd, pm_b1, if_true, if_false, ite_true, ite_false, Nat.not_lt_zero, Nat.zero_le, e1]
  have x9 : hs_fr cP cA s1 (hs_pI s1 7 9 x) := hs_fr_pI (by decide)
  rcases out with D | ⟨AL3, j2, j3, j4⟩
  · obtain ⟨d1, d2, t, d3, d4, d5, d6⟩ := D
    have ne : hs_I (hs_pI s1 7 9 x) 7 7 ≠ nM := by
      simp only [hs_I_pI, hs_I_pA, hs_A_pI, hs_A_pA, and_true, true_and, and_false, false_and, and_self, eq_self, Nat.reduceEqDiff, ↓reduceIte]; rw [d4]; intro q; rw [z_em (by omega)] at q; exact q
    obtain ⟨N, hN⟩ := rn_done er (Or.inl (by rw [d5]; decide))
    refine ⟨0, hs_pI s1 7 9 x, hs_I m2 0 56, m2, ?_, ⟨N, fun F hF => by rw [ep F]; exact hN F hF⟩, (cf.cons d1).cons x9, mf.cons eg, Or.inl ⟨rfl, d5, t, d3, by simp only [hs_I_pI, hs_I_pA, hs_A_pI, hs_A_pA, and_true, true_and, and_false, false_and, and_self, eq_self, Nat.reduceEqDiff, ↓reduceIte]; exact d4, d6⟩⟩
    rw [C_parse (c := 0) ec (C_cur0 ne) (by omega), if_pos rfl, if_neg (by simp only [hs_I_pI, hs_I_pA, hs_A_pI, hs_A_pA, and_true, true_and, and_false, false_and, and_self, eq_self, Nat.reduceEqDiff, ↓reduceIte] at ne; exact ne)]
  · obtain ⟨p', q', v, i1, i2, i3, i4, i5, i6, i7, i8, i9, i10, i11, i12, i13, i14, i15⟩ := AL3
    have hp := i2.2.2.1
    have P9 : PQ T n K (hs_pI s1 7 9 x) m2 p' q' := PQ_fr (P := [(7, 9)]) (A := []) (P' := []) (A' := []) i2 (hs_fr_pI (by decide)) hs_fr.rf (by simp) (by simp)
    have cur := C_curN P9
    have hl := tk_K_lt T n K p'
    have hl2 := k_M_lt hl
    have hb : hs_I m2 0 50 = nI 0 := i2.2.2.2.2.2.1.2.2.1
    have r3 := er.tr (rn_ended hb i9 (fun F hF => M_ended0 i8 j3 i2.2.2.2.2.2.1.2.2.2.1 (by omega) hb))
    by_cases c0 : tk_K T n K p' = 0
    · have hpK : p' = K := by
        unfold tk_K at c0
        split at c0
        · exact absurd c0 (lx_kd_lt T n (tk_p T n p')).2
        · omega
      have k0 : k_M (tk_K T n K p') = 0 := by rw [c0]; rfl
      rw [k0, if_pos rfl] at r3
      rw [c0] at cur
      have fm : hs_fr [(0, 4), (0, 23), (0, 55), (0, 56)] [34, 35, 36, 37] m2 (hs_pI (hs_pI m2 0 23 (nI 0)) 0 55 (nI 4)) := (hs_fr_pI (by decide)).cons (hs_fr_pI (by decide))
      obtain ⟨N, hN⟩ := rn_done r3 (Or.inr (by simp only [hs_I_pI, hs_I_pA, hs_A_pI, hs_A_pA, and_true, true_and, and_false, false_and, and_self, eq_self, Nat.reduceEqDiff, ↓reduceIte]))
      refine ⟨1, hs_pI s1 7 9 x, hs_I (hs_pI (hs_pI m2 0 23 (nI 0)) 0 55 (nI 4)) 0 56, hs_pI (hs_pI m2 0 23 (nI 0)) 0 55 (nI 4), ?_, ⟨N, fun F hF => by rw [ep F]; exact hN F hF⟩, (cf.cons i6).cons x9, (mf.cons eg).cons ((hs_fr_pI (by decide)).cons (hs_fr_pI (by decide))), Or.inr ⟨rfl, by simp only [hs_I_pI, hs_I_pA, hs_A_pI, hs_A_pA, and_true, true_and, and_false, false_and, and_self, eq_self, Nat.reduceEqDiff, ↓reduceIte]; exact hb, by simp only [hs_I_pI, hs_I_pA, hs_A_pI, hs_A_pA, and_true, true_and, and_false, false_and, and_self, eq_self, Nat.reduceEqDiff, ↓reduceIte]; exact i2.2.2.2.2.1.2.2, q', v, ⟨?_, ?_, ?_, ?_, i13, ?_, ?_⟩, ?_⟩⟩
      · rw [C_parse ec cur (by omega), if_pos rfl, if_pos i2.2.2.2.2.1.2.2]
      · have := PQ_fr (P := []) (A := []) (P' := [(0, 23), (0, 55)]) (A' := []) (m' := hs_pI (hs_pI m2 0 23 (nI 0)) 0 55 (nI 4)) P9 hs_fr.rf ((hs_fr_pI (by decide)).cons (hs_fr_pI (by decide))) (by simp) (by simp)
        rw [hpK] at this
        exact this
      · exact un_id i3 (by simp only [hs_I_pI, hs_I_pA, hs_A_pI, hs_A_pA, and_true, true_and, and_false, false_and, and_self, eq_self, Nat.reduceEqDiff, ↓reduceIte]) (fun _ => rfl) (fun _ => rfl) (fun _ => rfl)
      · have := SG_BF i14 (BF_of fm)
        rw [hpK] at this
        exact this
      · exact NM_BF i14 i15 (BF_of fm) (fun _ _ => rfl)
      · simp only [hs_I_pI, hs_I_pA, hs_A_pI, hs_A_pA, and_true, true_and, and_false, false_and, and_self, eq_self, Nat.reduceEqDiff, ↓reduceIte]; exact i11
      · simp only [hs_I_pI, hs_I_pA, hs_A_pI, hs_A_pA, and_true, true_and, and_false, false_and, and_self, eq_self, Nat.reduceEqDiff, ↓reduceIte]; exact i10
      · simp only [hs_I_pI, hs_I_pA, hs_A_pI, hs_A_pA, and_true, true_and, and_false, false_and, and_self, eq_self, Nat.reduceEqDiff, ↓reduceIte]; exact i10
    · have k0 : k_M (tk_K T n K p') ≠ 0 := fun g => c0 (k_M_inj hl (by omega) g)
      rw [if_neg k0] at r3
      have ne : hs_I (hs_pI (mB (hs_pI m2 0 23 (nI 0))) 0 55 (nI 4)) 0 50 = nI 1 := by simp only [mB, hs_I_pI, hs_I_pA, hs_A_pI, hs_A_pA, and_true, true_and, and_false, false_and, and_self, eq_self, Nat.reduceEqDiff, ↓reduceIte]
      obtain ⟨N, hN⟩ := rn_done r3 (Or.inl (by rw [ne]; decide))
      have er2 : f_C_X4_refuse_7 (hs_pI s1 7 9 x) = some (cR (hs_pI s1 7 9 x) p') := by rw [C_ref P9.2.2.2.2.1.2.2, P9.2.2.2.2.1.1]; rfl
      have n7 : hs_I (cR (hs_pI s1 7 9 x) p') 7 7 ≠ nM := by
        simp only [cR, hs_I_pI, hs_I_pA, hs_A_pI, hs_A_pA, and_true, true_and, and_false, false_and, and_self, eq_self, Nat.reduceEqDiff, ↓reduceIte]; intro q; rw [z_em (by omega)] at q; exact q
      refine ⟨0, cR (hs_pI s1 7 9 x) p', _, _, ?_, ⟨N, fun F hF => by rw [ep F]; exact hN F hF⟩, ((cf.cons i6).cons x9).cons (hs_fr_pI (by decide)), (mf.cons eg).cons (((hs_fr_pI (by decide)).cons GF_mB).cons (hs_fr_pI (by decide))), Or.inl ⟨rfl, ne, p', hp, by simp only [cR, hs_I_pI, hs_I_pA, hs_A_pI, hs_A_pA, and_true, true_and, and_false, false_and, and_self, eq_self, Nat.reduceEqDiff, ↓reduceIte], ?_⟩⟩
      · rw [C_parse ec cur (by omega), if_neg c0, er2]
        simp only [pm_b1]
        rw [if_neg n7]
      · simp only [mB, hs_I_pI, hs_I_pA, hs_A_pI, hs_A_pA, and_true, true_and, and_false, false_and, and_self, eq_self, Nat.reduceEqDiff, ↓reduceIte]
        exact i2.2.2.2.2.2.1.2.2.2.2.1
