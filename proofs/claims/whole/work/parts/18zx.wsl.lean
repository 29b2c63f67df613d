/-! WRITING A SLICE -/
theorem C_st3 {s : hp_S} {T : Nat → Nat} {n K t : Nat} (h : C_T s T n K) (ht : t < K) : f_C_X6_start_3 (nI t) s = some (nI (tk_p T n t), s) ∧ f_C_X6_end_3 (nI t) s = some (nI (tk_e T n t), s) := by
  obtain ⟨h1, ⟨h2, h3⟩, h4, h5⟩ := h
  obtain ⟨a1, a2, a3, a4⟩ := h3 t ht
  have c1 : ¬ K ≤ t := by omega
  constructor
  · unfold f_C_X6_start_3
    simp (disch := omega) only [↓reduceIte, z_lit, z_m1, z_gd, z_le, z_lt, z_eq, z_em, z_me, z_ml, z_mle, z_lm, z_lem, z_pos, z_sub, nI_add, nI_clamp, ib_nI, pm_let, pm_bd, pm_b1, if_true, if_false, ite_true, ite_false, Nat.not_lt_zero, Nat.zero_le, h2, c1, a3]
  · unfold f_C_X6_end_3
    simp (disch := omega) only [↓reduceIte, z_lit, z_m1, z_gd, z_le, z_lt, z_eq, z_em, z_me, z_ml, z_mle, z_lm, z_lem, z_pos, z_sub, nI_add, nI_clamp, ib_nI, pm_let, pm_bd, pm_b1, if_true, if_false, ite_true, ite_false, Nat.not_lt_zero, Nat.zero_le, h2, c1, a4]
    rfl
theorem C_st3n {s : hp_S} {T : Nat → Nat} {n K : Nat} (h : C_T s T n K) : f_C_X6_start_3 (nI K) s = some (nI (tk_p T n K), s) := by
  obtain ⟨h1, ⟨h2, h3⟩, h4, h5⟩ := h
  have c1 : K ≤ K := Nat.le_refl _
  unfold f_C_X6_start_3 f_C_X5_length_1
  simp (disch := omega) only [↓reduceIte, z_lit, z_m1, z_gd, z_le, z_lt, z_eq, z_em, z_me, z_ml, z_mle, z_lm, z_lem, z_pos, z_sub, nI_add, nI_clamp, ib_nI, pm_let, pm_bd, pm_b1, if_true, if_false, ite_true, ite_false, Nat.not_lt_zero, Nat.zero_le, h2, c1, h1.1, h5]
/-- what doesn't change while a slice is written -/
def WS (s m : hp_S) (T : Nat → Nat) (n K q : Nat) : Prop := C_T s T n K ∧ M_tx m T n ∧ q ≤ 100 ∧ hs_I s 0 11 = nI q ∧ hs_I m 0 11 = nI K ∧ (∀ t, t < K → hs_A m 3 t = nI (tk_p T n t) ∧ hs_A m 4 t = nI (tk_e T n t) ∧ ((hs_A m 5 t = nM ∧ hs_A s 25 t = nM) ∨ ∃ a i, a < q ∧ i < q ∧ hs_A m 5 t = nI a ∧ hs_A s 25 t = nI i ∧ hs_A m 16 a = nI i)) ∧ ∀ i, i < q → (hs_A s 42 i = 0 ↔ hs_A m 30 i = 0)
theorem WS_fr {s m s' m' : hp_S} {T : Nat → Nat} {n K q : Nat} (h : WS s m T n K q) (f : hs_fr oP oA s s') (f' : hs_fr pP pA' m m') : WS s' m' T n K q := by
  obtain ⟨h1, h2, h3, h4, h5, h6, h7⟩ := h
  refine ⟨C_T_fr h1 f (by decide), M_tx_fr h2 f' (by decide), h3, by rw [f.1 _ _ (by decide)]; exact h4, by rw [f'.1 _ _ (by decide)]; exact h5, fun t ht => ?_, fun i hi => ?_⟩
  · rw [f'.2 3 (by decide), f'.2 4 (by decide), f'.2 5 (by decide), f.2 25 (by decide)]
    simp only [f'.2 16 (by decide)]
    exact h6 t ht
  · rw [f.2 42 (by decide), f'.2 30 (by decide)]
    exact h7 i hi
theorem sb_8 : ∀ c, c < 256 → (nI c).toInt8 = (sb_b c).toInt8 := by decide +kernel
theorem tk_e_le {T : Nat → Nat} {n K t : Nat} (h : TK T n K) (ht : t < K) : tk_e T n t ≤ n := Nat.le_trans (tk_p_lt T n t (h.2.2.2.2 t ht)).2 (tk_p_le T n (t + 1))
/-- a token's bytes, in both -/
theorem W_cp {T : Nat → Nat} {n K q t : Nat} (ht : t < K) : ∀ (d i : Nat) (s m : hp_S) (w : Nat), i + d = tk_e T n t → WS s m T n K q → OU s m w → ∃ s' m' w', (∀ G, d + 1 ≤ G → l_C_X6_copyTo_3_39_6 G (nI t) (nI i) s = some s') ∧ (∀ j G, d + 1 ≤ G → l_M_X11_writeSlice_0_101 j G (nI t) (nI i) m = j 1 0 (nI t) m') ∧ OU s' m' w' ∧ hs_fr oP oA s s' ∧ hs_fr pP pA' m m' := by
  intro d
  induction d with
  | zero =>
    intro i s m w hi hS hO
    have hK := hS.1.2.2.1
    have eE := (C_st3 hS.1 ht).2
    have e4 := (hS.2.2.2.2.2.1 t ht).2.1
    have ie : i = tk_e T n t := by omega
    refine ⟨s, m, w, fun G hG => ?_, fun j G hG => ?_, hO, hs_fr.rf, hs_fr.rf⟩
    · obtain ⟨G, rfl⟩ : ∃ z, G = z + 1 := ⟨G - 1, by omega⟩
      rw [l_C_X6_copyTo_3_39_6.eq_2, eE, ← ie]
      simp only [pm_bd]
      rw [if_pos (Int32.le_refl _)]
    · obtain ⟨G, rfl⟩ : ∃ z, G = z + 1 := ⟨G - 1, by omega⟩
      rw [l_M_X11_writeSlice_0_101.eq_2, show pm_ib (nI t) 501 = true from ib_nI (by omega) (by omega), z_gd, nI_clamp (by omega), e4, ← ie, if_pos (Int32.le_refl _)]
  | succ d ih =>
    intro i s m w hi hS hO
    have hK := hS.1.2.2.1
    have hn := hS.1.1.2.1
    have eE := (C_st3 hS.1 ht).2
    have e4 := (hS.2.2.2.2.2.1 t ht).2.1
    have le := tk_e_le (TK_of hS.1) ht
    have at1 := C_at hS.1.1 (p := i) (by omega)
    rw [if_pos (by omega)] at at1
    obtain ⟨T1, T2⟩ := hS.2.1.2.2 i (by omega)
    obtain ⟨s1, m1, w1, a1, a2, a3, a4, a5, -⟩ := OU_add hO (sb_8 _ T1)
    obtain ⟨s2, m2, w2, b1, b2, b3, b4, b5⟩ := ih (i + 1) s1 m1 w1 (by omega) (WS_fr hS a4 a5) a3
    have e1 : nI i + (1 : Int32) = nI (i + 1) := by simp (disch := omega) only [↓reduceIte, z_lit, z_m1, z_gd, z_le, z_lt, z_eq, z_em, z_me, z_ml, z_mle, z_lm, z_lem, z_pos, z_sub, nI_add, nI_clamp, ib_nI, pm_let, pm_bd, pm_b1, if_true, if_false, ite_true, ite_false, Nat.not_lt_zero, Nat.zero_le]
    refine ⟨s2, m2, w2, fun G hG => ?_, fun j G hG => ?_, b3, a4.cons b4, a5.cons b5⟩
    · obtain ⟨G, rfl⟩ : ∃ z, G = z + 1 := ⟨G - 1, by omega⟩
      rw [l_C_X6_copyTo_3_39_6.eq_2, eE]
      simp only [pm_bd]
      rw [if_neg (show ¬ nI (tk_e T n t) ≤ nI i by rw [z_le (by omega) (by omega)]; omega), at1]
      simp only [a1, pm_b1, pm_let, e1]
      exact b1 G (by omega)
    · obtain ⟨G, rfl⟩ : ∃ z, G = z + 1 := ⟨G - 1, by omega⟩
      rw [l_M_X11_writeSlice_0_101.eq_2, show pm_ib (nI t) 501 = true from ib_nI (by omega) (by omega), z_gd, nI_clamp (by omega), e4, if_neg (show ¬ nI (tk_e T n t) ≤ nI i by rw [z_le (by omega) (by omega)]; omega), show pm_ib (nI i) 500 = true from ib_nI (by omega) (by omega), z_gd, nI_clamp (by omega), T2, a2]
      simp only [pm_b1, pm_let, e1]
      exact b2 j G (by omega)
def wi (p t : Nat) : Nat := if p < t then (if p = 0 then 9 else 10) else if p = 0 then 2 else 11
def pv (p : Nat) : Int32 := if p = 0 then nM else nI (p - 1)
theorem pv_1 {p : Nat} (h : p < 1000) : pv p + (1 : Int32) = nI p := by
  unfold pv
  by_cases c : p = 0
  · subst c; decide
  · rw [if_neg c]
    rw [show (1 : Int32) = nI 1 from rfl, nI_add]
    congr 1
    omega
theorem pv_m {p : Nat} (h : p < 1000) : pv p = (-1 : Int32) ↔ p = 0 := by
  unfold pv
  by_cases c : p = 0
  · rw [if_pos c]; exact ⟨fun _ => c, fun _ => rfl⟩
  · rw [if_neg c]
    have := z_em (a := p - 1) (by omega)
    change nI (p - 1) = nM ↔ _
    rw [this]
    exact ⟨fun q => q.elim, fun q => absurd q c⟩
theorem C_ws_no {s : hp_S} {K t G : Nat} {y1 x : Int32} (h4 : hs_I s 3 4 = nI K) (hK : K ≤ 500) (ht : t < K) (ho : hs_A s 25 t = x) (hi : f_C_X10_isIn_0 x s = some (nI 0, s)) : l_C_X10_writeSlice_0_4 (G + 1) y1 (nI t) s = l_C_X10_writeSlice_0_4 G y1 (nI (t + 1)) s := by
  have c1 : ¬ K ≤ t := by omega
  have hi' : f_C_X10_isIn_0 x s = some (0, s) := hi
  rw [l_C_X10_writeSlice_0_4.eq_2]
  unfold f_C_X6_size_3 f_C_X7_ownerOf_16
  simp (disch := omega) only [↓reduceIte, z_lit, z_m1, z_gd, z_le, z_lt, z_eq, z_em, z_me, z_ml, z_mle, z_lm, z_lem, z_pos, z_sub, nI_add, nI_clamp, ib_nI, pm_let, pm_bd, pm_b1, if_true, if_false, ite_true, ite_false, Nat.not_lt_zero, Nat.zero_le, h4, c1, ho, hi', show ¬ 500 ≤ t by omega]
theorem C_ws_yes {s s1 s2 : hp_S} {K t p G : Nat} {x : Int32} (h4 : hs_I s 3 4 = nI K) (hK : K ≤ 500) (ht : t < K) (hp : p ≤ t) (ho : hs_A s 25 t = x) (hi : f_C_X10_isIn_0 x s = some (nI 1, s)) (hx : cFd (tx_L (wi p t)) s = some s1) (hc : f_C_X6_copyTo_3_39 G (nI t) s1 = some s2) (hG : 10 ≤ G) : l_C_X10_writeSlice_0_4 (G + 1) (pv p) (nI t) s = l_C_X10_writeSlice_0_4 G (nI t) (nI (t + 1)) s2 := by
  have e1 : nI t + (1 : Int32) = nI (t + 1) := by simp (disch := omega) only [↓reduceIte, z_lit, z_m1, z_gd, z_le, z_lt, z_eq, z_em, z_me, z_ml, z_mle, z_lm, z_lem, z_pos, z_sub, nI_add, nI_clamp, ib_nI, pm_let, pm_bd, pm_b1, if_true, if_false, ite_true, ite_false, Nat.not_lt_zero, Nat.zero_le]
  rw [l_C_X10_writeSlice_0_4.eq_2]
  unfold f_C_X6_size_3 f_C_X7_ownerOf_16
  simp only [pm_bd, h4]
  rw [if_neg (show ¬ nI K ≤ nI t by rw [z_le (by omega) (by omega)]; omega), if_neg (show ¬ nI t < (0 : Int32) by rw [show (0 : Int32) = nI 0 from rfl, z_lt (by omega) (by omega)]; omega), if_neg (show ¬ (500 : Int32) ≤ nI t by rw [show (500 : Int32) = nI 500 from rfl, z_le (by omega) (by omega)]; omega), show pm_ib (nI t) 500 = true from ib_nI (by omega) (by omega), z_gd, nI_clamp (by omega), ho]
  simp only [pm_bd, hi, pl_u]
  rw [if_neg (show ¬ nI 1 = (0 : Int32) by decide), pv_1 (by omega)]
  unfold wi at hx
  by_cases c : p < t
  · rw [if_neg (show ¬ nI t ≤ nI p by rw [z_le (by omega) (by omega)]; omega)]
    rw [if_pos c] at hx
    by_cases c0 : p = 0
    · rw [if_pos ((pv_m (by omega)).mpr c0)]
      rw [if_pos c0, ← C_text (G := G) (by omega) (by omega) hG] at hx
      simp only [hx, pm_b1, hc, e1]
    · rw [if_neg (fun q => c0 ((pv_m (by omega)).mp q))]
      rw [if_neg c0, ← C_text (G := G) (by omega) (by omega) hG] at hx
      simp only [hx, pm_b1, hc, e1]
  · rw [if_pos (show nI t ≤ nI p by rw [z_le (by omega) (by omega)]; omega)]
    rw [if_neg c] at hx
    by_cases c0 : p = 0
    · rw [if_pos ((pv_m (by omega)).mpr c0)]
      rw [if_pos c0] at hx
      have : s = s1 := Option.some.inj hx
      subst this
      simp only [pm_b1, hc, e1]
    · rw [if_neg (fun q => c0 ((pv_m (by omega)).mp q))]
      rw [if_neg c0, ← C_text (G := G) (by omega) (by omega) hG] at hx
      simp only [hx, pm_b1, hc, e1]
