/-! ISFINE: the loops -/
def AC (s m : hp_S) (q : Nat) : Prop := ∀ k, k < q → (hs_A s 38 k = nI 0 ↔ hs_A m 29 k = nI 0)
theorem AC_fr {s m s' m' : hp_S} {q : Nat} (h : AC s m q) (f : hs_fr xP xA s s') (f' : hs_fr yP yA m m') : AC s' m' q := by
  intro k hk
  rw [f.2 38 (by decide), f'.2 29 (by decide)]
  exact h k hk
theorem M_f74O {s m : hp_S} {t : TT} {g : GG} {z V c : Nat} (h : TRt s m t) (hc : CP s m t g z V) (hcz : c < z) (h41 : hs_I m 0 41 = nI 1) (K : Int32 → Int32 → hp_S → Option (Int32 × hp_S)) : ∀ (d k G : Nat) (w : Int32), k + d = en t g c → 103 + d ≤ G → ∃ w', l_M_X11_isFine_0_74 K G w (nI c) (nI k) m = K w' (nI (c + 1)) m := by
  obtain ⟨r1, r2⟩ := CP_rng h hc hcz
  have q1 := h.1.2
  have z2 := hc.1.2.1
  intro d
  induction d with
  | zero =>
    intro k G w e hG
    obtain rfl : k = en t g c := by omega
    obtain ⟨G, rfl⟩ : ∃ y, G = y + 1 := ⟨G - 1, by omega⟩
    have c1 : en t g c ≤ en t g c := Nat.le_refl _
    refine ⟨w, ?_⟩
    rw [l_M_X11_isFine_0_74.eq_2]
    simp (disch := omega) only [↓reduceIte, z_lit, z_m1, z_gd, z_le, z_lt, z_eq, z_em, z_me, z_ml, z_mle, z_lm, z_lem, z_pos, z_sub, nI_add, nI_clamp, ib_nI, pm_let, pm_bd, pm_b1, if_true, if_false, ite_true, ite_false, Nat.not_lt_zero, Nat.zero_le, M_high h hc hcz (show 102 ≤ G by omega), c1]
  | succ d ih =>
    intro k G w e hG
    obtain ⟨G, rfl⟩ : ∃ y, G = y + 1 := ⟨G - 1, by omega⟩
    obtain ⟨a1, a2, a3, a4, a5, a6⟩ := h.2.2.2.1 k (by omega)
    obtain ⟨b1, b2⟩ := rk_33 h (show k < tq t by omega)
    have c1 : ¬ en t g c ≤ k := by omega
    by_cases c33 : rk (tkd t) (tmn t) k = 33
    · obtain ⟨w', hw'⟩ := ih (k + 1) G (w + nI 1) (by omega) (by omega)
      refine ⟨w', ?_⟩
      rw [← hw', l_M_X11_isFine_0_74.eq_2]
      simp (disch := omega) only [↓reduceIte, z_lit, z_m1, z_gd, z_le, z_lt, z_eq, z_em, z_me, z_ml, z_mle, z_lm, z_lem, z_pos, z_sub, nI_add, nI_clamp, ib_nI, pm_let, pm_bd, pm_b1, if_true, if_false, ite_true, ite_false, Nat.not_lt_zero, Nat.zero_le, M_high h hc hcz (show 102 ≤ G by omega), c1, a4, a6, c33, h41]
      simp
    · obtain ⟨w', hw'⟩ := ih (k + 1) G (w + nI 0) (by omega) (by omega)
      refine ⟨w', ?_⟩
      rw [← hw', l_M_X11_isFine_0_74.eq_2]
      simp (disch := omega) only [↓reduceIte, z_lit, z_m1, z_gd, z_le, z_lt, z_eq, z_em, z_me, z_ml, z_mle, z_lm, z_lem, z_pos, z_sub, nI_add, nI_clamp, ib_nI, pm_let, pm_bd, pm_b1, if_true, if_false, ite_true, ite_false, Nat.not_lt_zero, Nat.zero_le, M_high h hc hcz (show 102 ≤ G by omega), c1, a4, a6, c33, h41]
      simp
theorem IF_in {t : TT} {g : GG} {z V c q : Nat} {σ τ : Nat → Nat} (hP : PM t g z V σ τ) (hcz : c < z) (hq : q = tq t) (K : Int32 → hp_S → Option (Int32 × hp_S)) (K' : Int32 → Int32 → hp_S → Option (Int32 × hp_S)) : ∀ (d k : Nat) (s m : hp_S) (A : AA) (R G G' : Nat), k + d = en t g c → UD s m t g z V → AC s m q → JA s m A R σ V → fn g c ≤ k → R ≤ V + 2 + 4 * cv t g c k → nt A R ≤ 2 * cv t g c k → 20200 + d ≤ G → 20200 + d ≤ G' →
    (∃ s' m' w, l_C_X0_isFine_37_45 K G (nI c) (nI (en t g c)) (nI k) s = some (nI 0, s') ∧ l_M_X11_isFine_0_74 K' G' (nI (ui t g c k - 1)) (nI c) (nI k) m = K' w (nI (c + 1)) m' ∧ hs_I m' 0 41 = nI 1 ∧ hs_fr xP xA s s' ∧ hs_fr yP yA m m') ∨
    (∃ s' m' A' R', l_C_X0_isFine_37_45 K G (nI c) (nI (en t g c)) (nI k) s = K (nI (c + 1)) s' ∧ l_M_X11_isFine_0_74 K' G' (nI (ui t g c k - 1)) (nI c) (nI k) m = K' (nI (ui t g c (en t g c) - 1)) (nI (c + 1)) m' ∧ hs_fr xP xA s s' ∧ hs_fr yP yA m m' ∧ JA s' m' A' R' σ V ∧ R' ≤ V + 2 + 4 * gb g (c + 1) ∧ nt A' R' ≤ 2 * gb g (c + 1)) := by
  intro d
  induction d with
  | zero =>
    intro k s m A R G G' e hU hA hJ h1 hR ht hG hG'
    obtain rfl : k = en t g c := by omega
    obtain ⟨h, hc, hu0, hu1, -⟩ := id hU
    obtain ⟨r1, r2⟩ := CP_rng h hc hcz
    have q1 := h.1.2
    have z2 := hc.1.2.1
    obtain ⟨G, rfl⟩ : ∃ y, G = y + 1 := ⟨G - 1, by omega⟩
    obtain ⟨G', rfl⟩ : ∃ y, G' = y + 1 := ⟨G' - 1, by omega⟩
    have c1 : en t g c ≤ en t g c := Nat.le_refl _
    obtain ⟨b1, b2⟩ := CP_bs h hc hcz
    have ec : cv t g c (en t g c) = gb g (c + 1) := by unfold cv; omega
    rw [ec] at hR ht
    refine Or.inr ⟨s, m, A, R, ?_, ?_, hs_fr.rf, hs_fr.rf, hJ, hR, ht⟩
    · rw [l_C_X0_isFine_37_45.eq_2]
      simp (disch := omega) only [↓reduceIte, z_lit, z_m1, z_gd, z_le, z_lt, z_eq, z_em, z_me, z_ml, z_mle, z_lm, z_lem, z_pos, z_sub, nI_add, nI_clamp, ib_nI, pm_let, pm_bd, pm_b1, if_true, if_false, ite_true, ite_false, Nat.not_lt_zero, Nat.zero_le, c1]
    · rw [l_M_X11_isFine_0_74.eq_2]
      simp (disch := omega) only [↓reduceIte, z_lit, z_m1, z_gd, z_le, z_lt, z_eq, z_em, z_me, z_ml, z_mle, z_lm, z_lem, z_pos, z_sub, nI_add, nI_clamp, ib_nI, pm_let, pm_bd, pm_b1, if_true, if_false, ite_true, ite_false, Nat.not_lt_zero, Nat.zero_le, M_high h hc hcz (show 102 ≤ G' by omega), c1]
  | succ d ih =>
    intro k s m A R G G' e hU hA hJ h1 hR ht hG hG'
    obtain ⟨h, hc, hu0, hu1, hTG⟩ := id hU
    obtain ⟨r1, r2⟩ := CP_rng h hc hcz
    have q1 := h.1.2
    have z2 := hc.1.2.1
    have V2 := hc.1.2.2.2
    obtain ⟨G, rfl⟩ : ∃ y, G = y + 1 := ⟨G - 1, by omega⟩
    obtain ⟨G', rfl⟩ : ∃ y, G' = y + 1 := ⟨G' - 1, by omega⟩
    have c1 : ¬ en t g c ≤ k := by omega
    have c2 : ¬ 100 ≤ k := by omega
    obtain ⟨a1, a2, a3, a4, a5, a6⟩ := h.2.2.2.1 k (by omega)
    obtain ⟨b1, b2⟩ := rk_33 h (show k < tq t by omega)
    obtain ⟨v1, v2, v3, v4, v5, v6⟩ := cv_in h hc hcz h1 (show k < en t g c by omega)
    have sl1 := sl_lt h (show k < k + 1 by omega) (by omega)
    have cv1 : cv t g c k + 1 ≤ cv t g c (k + 1) := by unfold cv; omega
    -- how many copies have been asked for
    have us := ui_s (t := t) h1
    have u1 : 1 ≤ ui t g c k := by
      have : ∀ i, i ≤ c → 1 ≤ gu g i := by
        intro i
        induction i with
        | zero => intro _; rw [hu0]; exact Nat.le_refl _
        | succ i ihi =>
          intro hi
          have := ihi (by omega)
          rw [hu1 i (by omega)]
          omega
      have := this c (Nat.le_refl _)
      unfold ui
      omega
    have lnb : ∀ n, ln t n ≤ n := by
      intro n
      induction n with
      | zero => exact Nat.le_refl _
      | succ n ihn =>
        simp only [ln]
        split <;> omega
    have gub : ∀ i, i ≤ c → gu g i ≤ 1 + 100 * i := by
      intro i
      induction i with
      | zero => intro _; rw [hu0]; omega
      | succ i ihi =>
        intro hi
        have := ihi (by omega)
        have e1 := (CP_rng h hc (show i < z by omega)).2
        have := lnb (en t g i)
        rw [hu1 i (by omega)]
        omega
    have uB : ui t g c k < 300000 := by
      have l1 := lnb k
      have l2 := gub c (Nat.le_refl _)
      unfold ui
      omega
    have st0 : hs_A m 29 k = nI 0 → l_M_X11_isFine_0_74 K' (G' + 1) (nI (ui t g c k - 1)) (nI c) (nI k) m = l_M_X11_isFine_0_74 K' G' (nI (ui t g c (k + 1) - 1)) (nI c) (nI (k + 1)) m := by
      intro h29
      rw [l_M_X11_isFine_0_74.eq_2]
      by_cases c33 : rk (tkd t) (tmn t) k = 33
      · rw [us, if_pos (b1.mp c33)]
        simp (disch := omega) only [↓reduceIte, z_lit, z_m1, z_gd, z_le, z_lt, z_eq, z_em, z_me, z_ml, z_mle, z_lm, z_lem, z_pos, z_sub, nI_add, nI_clamp, ib_nI, pm_let, pm_bd, pm_b1, if_true, if_false, ite_true, ite_false, Nat.not_lt_zero, Nat.zero_le, M_high h hc hcz (show 102 ≤ G' by omega), c1, a4, a6, c33, h29]
        rw [show ui t g c k - 1 + 1 = ui t g c k + 1 - 1 by omega]
      · rw [us, if_neg (fun q => c33 (b1.mpr q))]
        simp (disch := omega) only [↓reduceIte, z_lit, z_m1, z_gd, z_le, z_lt, z_eq, z_em, z_me, z_ml, z_mle, z_lm, z_lem, z_pos, z_sub, nI_add, nI_clamp, ib_nI, pm_let, pm_bd, pm_b1, if_true, if_false, ite_true, ite_false, Nat.not_lt_zero, Nat.zero_le, M_high h hc hcz (show 102 ≤ G' by omega), c1, a4, a6, c33, h29]
        rw [show ui t g c k - 1 + 0 = ui t g c k + 0 - 1 by omega]
    have st1 : hs_A m 29 k ≠ nI 0 → ∀ m', f_M_X11_ask_0 G' (nI c) (nI (tnd t k)) (nI (ui t g c (k + 1) - 1)) m = some m' → l_M_X11_isFine_0_74 K' (G' + 1) (nI (ui t g c k - 1)) (nI c) (nI k) m = l_M_X11_isFine_0_74 K' G' (nI (ui t g c (k + 1) - 1)) (nI c) (nI (k + 1)) m' := by
      intro h29 m' ha
      rw [l_M_X11_isFine_0_74.eq_2]
      by_cases c33 : rk (tkd t) (tmn t) k = 33
      · rw [us, if_pos (b1.mp c33)] at ha ⊢
        rw [show ui t g c k + 1 - 1 = ui t g c k - 1 + 1 by omega] at ha ⊢
        simp (disch := omega) only [↓reduceIte, z_lit, z_m1, z_gd, z_le, z_lt, z_eq, z_em, z_me, z_ml, z_mle, z_lm, z_lem, z_pos, z_sub, nI_add, nI_clamp, ib_nI, pm_let, pm_bd, pm_b1, if_true, if_false, ite_true, ite_false, Nat.not_lt_zero, Nat.zero_le, M_high h hc hcz (show 102 ≤ G' by omega), c1, a4, a6, c33, h29, hJ.1.2.1, ha]
      · rw [us, if_neg (fun q => c33 (b1.mpr q))] at ha ⊢
        rw [show ui t g c k + 0 - 1 = ui t g c k - 1 + 0 by omega] at ha ⊢
        simp (disch := omega) only [↓reduceIte, z_lit, z_m1, z_gd, z_le, z_lt, z_eq, z_em, z_me, z_ml, z_mle, z_lm, z_lem, z_pos, z_sub, nI_add, nI_clamp, ib_nI, pm_let, pm_bd, pm_b1, if_true, if_false, ite_true, ite_false, Nat.not_lt_zero, Nat.zero_le, M_high h hc hcz (show 102 ≤ G' by omega), c1, a4, a6, c33, h29, hJ.1.2.1, ha]
    by_cases c38 : hs_A s 38 k = nI 0
    · have h29 := (hA k (by omega)).mp c38
      have sC : l_C_X0_isFine_37_45 K (G + 1) (nI c) (nI (en t g c)) (nI k) s = l_C_X0_isFine_37_45 K G (nI c) (nI (en t g c)) (nI (k + 1)) s := by
        rw [l_C_X0_isFine_37_45.eq_2]
        simp (disch := omega) only [↓reduceIte, z_lit, z_m1, z_gd, z_le, z_lt, z_eq, z_em, z_me, z_ml, z_mle, z_lm, z_lem, z_pos, z_sub, nI_add, nI_clamp, ib_nI, pm_let, pm_bd, pm_b1, if_true, if_false, ite_true, ite_false, Nat.not_lt_zero, Nat.zero_le, c1, c2, c38]
      rw [sC, st0 h29]
      exact ih (k + 1) s m A R G G' (by omega) hU hA hJ (by omega) (by omega) (by omega) (by omega) (by omega)
    · have h29 : hs_A m 29 k ≠ nI 0 := fun q => c38 ((hA k (by omega)).mpr q)
      obtain ⟨r, s', m', k1, k2, k3, k4, k5⟩ := J_ask (kf := G) (F := G') (a3 := nI (ui t g c (k + 1) - 1)) hU hP hJ hcz h1 (by omega) (by omega) (by omega) (by omega) (by omega) (fun e2 e5 => by rw [us, if_pos ⟨e2, e5⟩]; rfl)
      rw [st1 h29 m' k2]
      rcases k5 with ⟨rfl, A', R', J', g1, g2⟩ | ⟨rfl, od⟩
      · have sC : l_C_X0_isFine_37_45 K (G + 1) (nI c) (nI (en t g c)) (nI k) s = l_C_X0_isFine_37_45 K G (nI c) (nI (en t g c)) (nI (k + 1)) s' := by
          rw [l_C_X0_isFine_37_45.eq_2]
          simp (disch := omega) only [↓reduceIte, z_lit, z_m1, z_gd, z_le, z_lt, z_eq, z_em, z_me, z_ml, z_mle, z_lm, z_lem, z_pos, z_sub, nI_add, nI_clamp, ib_nI, pm_let, pm_bd, pm_b1, if_true, if_false, ite_true, ite_false, Nat.not_lt_zero, Nat.zero_le, c1, c2, c38, k1]
          simp
        rw [sC]
        rcases ih (k + 1) s' m' A' R' G G' (by omega) (UD_fr hU k3 k4) (AC_fr hA k3 k4) J' (by omega) (by omega) (by omega) (by omega) (by omega) with ⟨s2, m2, w, x1, x2, x3, x4, x5⟩ | ⟨s2, m2, A2, R2, x1, x2, x3, x4, x5, x6, x7⟩
        · exact Or.inl ⟨s2, m2, w, x1, x2, x3, k3.cons x4, k4.cons x5⟩
        · exact Or.inr ⟨s2, m2, A2, R2, x1, x2, k3.cons x3, k4.cons x4, x5, x6, x7⟩
      · have sC : l_C_X0_isFine_37_45 K (G + 1) (nI c) (nI (en t g c)) (nI k) s = some (nI 0, s') := by
          rw [l_C_X0_isFine_37_45.eq_2]
          simp (disch := omega) only [↓reduceIte, z_lit, z_m1, z_gd, z_le, z_lt, z_eq, z_em, z_me, z_ml, z_mle, z_lm, z_lem, z_pos, z_sub, nI_add, nI_clamp, ib_nI, pm_let, pm_bd, pm_b1, if_true, if_false, ite_true, ite_false, Nat.not_lt_zero, Nat.zero_le, c1, c2, c38, k1]
        have U' := UD_fr hU k3 k4
        obtain ⟨w', hw'⟩ := M_f74O U'.1 U'.2.1 hcz od K' d (k + 1) G' (nI (ui t g c (k + 1) - 1)) (by omega) (by omega)
        exact Or.inl ⟨s', m', w', sC, hw', od, k3, k4⟩
theorem M_f60O {s m : hp_S} {t : TT} {g : GG} {z V : Nat} (h : TRt s m t) (hc : CP s m t g z V) (h41 : hs_I m 0 41 = nI 1) : ∀ (D c G : Nat) (w : Int32), c + D = z → 300 + D ≤ G → l_M_X11_isFine_0_60 G w (nI c) m = some (nI 0, m) := by
  have z2 := hc.1.2.1
  intro D
  induction D with
  | zero =>
    intro c G w e hG
    obtain rfl : c = z := by omega
    obtain ⟨G, rfl⟩ : ∃ y, G = y + 1 := ⟨G - 1, by omega⟩
    have c1 : c ≤ c := Nat.le_refl _
    rw [l_M_X11_isFine_0_60.eq_2]
    simp (disch := omega) only [↓reduceIte, z_lit, z_m1, z_gd, z_le, z_lt, z_eq, z_em, z_me, z_ml, z_mle, z_lm, z_lem, z_pos, z_sub, nI_add, nI_clamp, ib_nI, pm_let, pm_bd, pm_b1, if_true, if_false, ite_true, ite_false, Nat.not_lt_zero, Nat.zero_le, hc.2.1.2.2.1, c1, h41]
    simp
  | succ D ih =>
    intro c G w e hG
    obtain ⟨G, rfl⟩ : ∃ y, G = y + 1 := ⟨G - 1, by omega⟩
    have c1 : ¬ z ≤ c := by omega
    obtain ⟨r1, r2⟩ := CP_rng h hc (show c < z by omega)
    have q1 := h.1.2
    obtain ⟨w', hw'⟩ := M_f74O h hc (show c < z by omega) h41 (l_M_X11_isFine_0_60 G) (en t g c - fn g c) (fn g c) G w (by omega) (by omega)
    rw [l_M_X11_isFine_0_60.eq_2]
    simp (disch := omega) only [↓reduceIte, z_lit, z_m1, z_gd, z_le, z_lt, z_eq, z_em, z_me, z_ml, z_mle, z_lm, z_lem, z_pos, z_sub, nI_add, nI_clamp, ib_nI, pm_let, pm_bd, pm_b1, if_true, if_false, ite_true, ite_false, Nat.not_lt_zero, Nat.zero_le, hc.2.1.2.2.1, c1, M_low h hc (show c < z by omega) (show 102 ≤ G by omega), hw']
    exact ih (c + 1) G w' (by omega) (by omega)
theorem IF_out {t : TT} {g : GG} {z V q B : Nat} {σ τ : Nat → Nat} (hP : PM t g z V σ τ) (hq : q = tq t) (hB : 20400 ≤ B) : ∀ (D c : Nat) (s m : hp_S) (A : AA) (R G G' : Nat), c + D = z → UD s m t g z V → AC s m q → JA s m A R σ V → R ≤ V + 2 + 4 * gb g c → nt A R ≤ 2 * gb g c → B + 1 + D ≤ G → B + 1 + D ≤ G' →
    (∃ s' m', l_C_X0_isFine_37_16 G (nI c) s = some (nI 0, s') ∧ l_M_X11_isFine_0_60 G' (nI (gu g c - 1)) (nI c) m = some (nI 0, m') ∧ hs_fr xP xA s s' ∧ hs_fr yP yA m m') ∨
    (∃ s' m' A' R' g1 g2, l_C_X0_isFine_37_16 G (nI c) s = pm_bd (f_C_X9_areFinite_31 g1 s') (fun x7 t6 => pm_gd1 (pm_bl x7) (some (x7, t6))) ∧ l_M_X11_isFine_0_60 G' (nI (gu g c - 1)) (nI c) m = pm_bd (f_M_X11_isFinite_0 g2 m') (fun x10 t9 => if x10 = 0 then some ((0 : Int32), t9) else some ((1 : Int32), t9)) ∧ B ≤ g1 ∧ B ≤ g2 ∧ hs_fr xP xA s s' ∧ hs_fr yP yA m m' ∧ JA s' m' A' R' σ V ∧ R' ≤ 10002 ∧ nt A' R' ≤ 4000) := by
  intro D
  induction D with
  | zero =>
    intro c s m A R G G' e hU hA hJ hR ht hG hG'
    obtain rfl : c = z := by omega
    obtain ⟨h, hc, hu0, hu1, -⟩ := id hU
    have z2 := hc.1.2.1
    have V2 := hc.1.2.2.2
    obtain ⟨G, rfl⟩ : ∃ y, G = y + 1 := ⟨G - 1, by omega⟩
    obtain ⟨G', rfl⟩ : ∃ y, G' = y + 1 := ⟨G' - 1, by omega⟩
    have c1 : c ≤ c := Nat.le_refl _
    have gV : gb g c = V := hc.2.2.2.2.2.2
    refine Or.inr ⟨s, m, A, R, G, G', ?_, ?_, by omega, by omega, hs_fr.rf, hs_fr.rf, hJ, by omega, by omega⟩
    · rw [l_C_X0_isFine_37_16.eq_2]
      unfold f_C_X1_size_26
      simp only [pm_bd, hc.2.1.1]
      rw [if_pos (Int32.le_refl _)]
    · rw [l_M_X11_isFine_0_60.eq_2, hc.2.1.2.2.1, if_pos (Int32.le_refl _), if_pos (show hs_I m 0 41 = 0 from hJ.1.2.1)]
  | succ D ih =>
    intro c s m A R G G' e hU hA hJ hR ht hG hG'
    obtain ⟨h, hc, hu0, hu1, -⟩ := id hU
    have z2 := hc.1.2.1
    have hcz : c < z := by omega
    obtain ⟨r1, r2⟩ := CP_rng h hc hcz
    have q1 := h.1.2
    obtain ⟨G, rfl⟩ : ∃ y, G = y + 1 := ⟨G - 1, by omega⟩
    obtain ⟨G', rfl⟩ : ∃ y, G' = y + 1 := ⟨G' - 1, by omega⟩
    have c1 : ¬ z ≤ c := by omega
    have ec : cv t g c (fn g c) = gb g c := by unfold cv; omega
    have eu : ui t g c (fn g c) = gu g c := by unfold ui; omega
    have sC : l_C_X0_isFine_37_16 (G + 1) (nI c) s = l_C_X0_isFine_37_45 (l_C_X0_isFine_37_16 G) G (nI c) (nI (en t g c)) (nI (fn g c)) s := by
      rw [l_C_X0_isFine_37_16.eq_2]
      unfold f_C_X1_size_26
      simp (disch := omega) only [↓reduceIte, z_lit, z_m1, z_gd, z_le, z_lt, z_eq, z_em, z_me, z_ml, z_mle, z_lm, z_lem, z_pos, z_sub, nI_add, nI_clamp, ib_nI, pm_let, pm_bd, pm_b1, if_true, if_false, ite_true, ite_false, Nat.not_lt_zero, Nat.zero_le, hc.2.1.1, c1, C_endNode h hc hcz, C_firstNode h hc hcz]
    have sM : l_M_X11_isFine_0_60 (G' + 1) (nI (gu g c - 1)) (nI c) m = l_M_X11_isFine_0_74 (l_M_X11_isFine_0_60 G') G' (nI (ui t g c (fn g c) - 1)) (nI c) (nI (fn g c)) m := by
      rw [l_M_X11_isFine_0_60.eq_2, eu]
      simp (disch := omega) only [↓reduceIte, z_lit, z_m1, z_gd, z_le, z_lt, z_eq, z_em, z_me, z_ml, z_mle, z_lm, z_lem, z_pos, z_sub, nI_add, nI_clamp, ib_nI, pm_let, pm_bd, pm_b1, if_true, if_false, ite_true, ite_false, Nat.not_lt_zero, Nat.zero_le, hc.2.1.2.2.1, c1, M_low h hc hcz (show 102 ≤ G' by omega)]
    rw [sC, sM]
    rcases IF_in hP hcz hq (l_C_X0_isFine_37_16 G) (l_M_X11_isFine_0_60 G') (en t g c - fn g c) (fn g c) s m A R G G' (by omega) hU hA hJ (Nat.le_refl _) (by rw [ec]; exact hR) (by rw [ec]; exact ht) (by omega) (by omega) with ⟨s', m', w, x1, x2, x3, x4, x5⟩ | ⟨s', m', A', R', x1, x2, x3, x4, x5, x6, x7⟩
    · have U' := UD_fr hU x4 x5
      refine Or.inl ⟨s', m', x1, ?_, x4, x5⟩
      rw [x2]
      exact M_f60O U'.1 U'.2.1 x3 D (c + 1) G' w (by omega) (by omega)
    · have e2 : ui t g c (en t g c) = gu g (c + 1) := by rw [hu1 c hcz]; rfl
      rw [x1, x2, e2]
      rcases ih (c + 1) s' m' A' R' G G' (by omega) (UD_fr hU x3 x4) (AC_fr hA x3 x4) x5 x6 x7 (by omega) (by omega) with ⟨s2, m2, y1, y2, y3, y4⟩ | ⟨s2, m2, A2, R2, g1, g2, y1, y2, y3, y4, y5, y6, y7⟩
      · exact Or.inl ⟨s2, m2, y1, y2, x3.cons y3, x4.cons y4⟩
      · exact Or.inr ⟨s2, m2, A2, R2, g1, g2, y1, y2, y3, y4, x3.cons y5, x4.cons y6, y7⟩
