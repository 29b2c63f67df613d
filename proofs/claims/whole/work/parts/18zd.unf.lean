/-! the two loops -/
def UL (s m : hp_S) (t : TT) (g : GG) (z V c k : Nat) : Prop := TRt s m t ∧ CP s m t g z V ∧ c < z ∧ gu g 0 = 1 ∧ (∀ i, i < c → gu g (i + 1) = gu g i + (ln t (en t g i) - ln t (fn g i))) ∧ (fn g c ≤ k ∧ k ≤ en t g c) ∧ z = ui t g c k ∧ ∀ c' k', c' < z → fn g c' ≤ k' → k' < en t g c' → (c' < c ∨ (c' = c ∧ k' < k)) → TG s t g z c' k'
theorem ln_le (t : TT) : ∀ d k, ln t k ≤ ln t (k + d)
  | 0, k => Nat.le_refl _
  | d + 1, k => by
    have := ln_le t d k
    rw [← Nat.add_assoc]
    simp only [ln]
    omega
theorem ui_s {t : TT} {g : GG} {c k : Nat} (h : fn g c ≤ k) : ui t g c (k + 1) = ui t g c k + if tkd t k = 2 ∧ tkd t (tmn t k) = 5 then 1 else 0 := by
  have := ln_le t (k - fn g c) (fn g c)
  rw [show fn g c + (k - fn g c) = k by omega] at this
  unfold ui
  simp only [ln]
  omega
theorem C_unfN {s m : hp_S} {t : TT} {g : GG} {z V c k F : Nat} {K : Int32 → Int32 → hp_S → Option (Int32 × hp_S)} (h : TRt s m t) (hc : CP s m t g z V) (hcz : c < z) (h2 : k < en t g c) (hk : tkd t k ≠ 2) : l_C_X1_unfold_26_44 K (F + 1) (nI 1) (nI c) (nI k) s = l_C_X1_unfold_26_44 K F (nI 1) (nI c) (nI (k + 1)) s := by
  obtain ⟨r1, r2⟩ := CP_rng h hc hcz
  have q1 := h.1.2
  obtain ⟨a1, a2, -⟩ := h.2.2.2.1 k (by omega)
  have a3 := (kn_nk a1).2.2.2.2
  have c1 : ¬ en t g c ≤ k := by omega
  rw [l_C_X1_unfold_26_44.eq_2]
  simp (disch := omega) only [↓reduceIte, z_lit, z_m1, z_gd, z_le, z_lt, z_eq, z_em, z_me, z_ml, z_mle, z_lm, z_lem, z_pos, z_sub, nI_add, nI_clamp, ib_nI, pm_let, pm_bd, pm_b1, if_true, if_false, ite_true, ite_false, Nat.not_lt_zero, Nat.zero_le, C_endNode h hc hcz, c1, C_kind17 (show k < 100 by omega), a2, hk]
  all_goals simp
theorem C_unfY {s m s' : hp_S} {t : TT} {g : GG} {z V c k F r : Nat} {K : Int32 → Int32 → hp_S → Option (Int32 × hp_S)} (h : TRt s m t) (hc : CP s m t g z V) (hcz : c < z) (h2 : k < en t g c) (hk : tkd t k = 2) (hr : r < 2) (hf : f_C_X1_follow_26 F (nI c) (nI k) s = some (nI r, s')) : l_C_X1_unfold_26_44 K (F + 1) (nI 1) (nI c) (nI k) s = l_C_X1_unfold_26_44 K F (nI r) (nI c) (nI (k + 1)) s' := by
  obtain ⟨r1, r2⟩ := CP_rng h hc hcz
  have q1 := h.1.2
  obtain ⟨a1, a2, -⟩ := h.2.2.2.1 k (by omega)
  rw [hk] at a2
  have c1 : ¬ en t g c ≤ k := by omega
  rw [l_C_X1_unfold_26_44.eq_2]
  rcases (show r = 0 ∨ r = 1 by omega) with rfl | rfl
  · simp (disch := omega) only [↓reduceIte, z_lit, z_m1, z_gd, z_le, z_lt, z_eq, z_em, z_me, z_ml, z_mle, z_lm, z_lem, z_pos, z_sub, nI_add, nI_clamp, ib_nI, pm_let, pm_bd, pm_b1, if_true, if_false, ite_true, ite_false, Nat.not_lt_zero, Nat.zero_le, C_endNode h hc hcz, c1, C_kind17 (show k < 100 by omega), a2, hf]
    all_goals simp
  · simp (disch := omega) only [↓reduceIte, z_lit, z_m1, z_gd, z_le, z_lt, z_eq, z_em, z_me, z_ml, z_mle, z_lm, z_lem, z_pos, z_sub, nI_add, nI_clamp, ib_nI, pm_let, pm_bd, pm_b1, if_true, if_false, ite_true, ite_false, Nat.not_lt_zero, Nat.zero_le, C_endNode h hc hcz, c1, C_kind17 (show k < 100 by omega), a2, hf]
    all_goals simp
theorem C_unfE {s m : hp_S} {t : TT} {g : GG} {z V c F : Nat} {K : Int32 → Int32 → hp_S → Option (Int32 × hp_S)} (h : TRt s m t) (hc : CP s m t g z V) (hcz : c < z) : l_C_X1_unfold_26_44 K (F + 1) (nI 1) (nI c) (nI (en t g c)) s = K (nI 1) (nI (c + 1)) s := by
  obtain ⟨r1, r2⟩ := CP_rng h hc hcz
  have q1 := h.1.2
  have z2 := hc.1.2.1
  have c1 : en t g c ≤ en t g c := Nat.le_refl _
  rw [l_C_X1_unfold_26_44.eq_2]
  simp (disch := omega) only [↓reduceIte, z_lit, z_m1, z_gd, z_le, z_lt, z_eq, z_em, z_me, z_ml, z_mle, z_lm, z_lem, z_pos, z_sub, nI_add, nI_clamp, ib_nI, pm_let, pm_bd, pm_b1, if_true, if_false, ite_true, ite_false, Nat.not_lt_zero, Nat.zero_le, C_endNode h hc hcz, c1]
  all_goals simp
theorem C_unf0 {s : hp_S} {c F : Nat} {k : Int32} {K : Int32 → Int32 → hp_S → Option (Int32 × hp_S)} (hc : c < 5000) : l_C_X1_unfold_26_44 K (F + 1) (nI 0) (nI c) k s = K (nI 0) (nI (c + 1)) s := by
  rw [l_C_X1_unfold_26_44.eq_2]
  simp (disch := omega) only [↓reduceIte, z_lit, z_m1, z_gd, z_le, z_lt, z_eq, z_em, z_me, z_ml, z_mle, z_lm, z_lem, z_pos, z_sub, nI_add, nI_clamp, ib_nI, pm_let, pm_bd, pm_b1, if_true, if_false, ite_true, ite_false, Nat.not_lt_zero, Nat.zero_le]
theorem M_expE {s m : hp_S} {t : TT} {g : GG} {z V c F : Nat} {K : Int32 → hp_S → Option (Int32 × hp_S)} (h : TRt s m t) (hc : CP s m t g z V) (hcz : c < z) (hF : 102 ≤ F) : l_M_X11_expand_0_48 K (F + 1) (nI c) (nI (en t g c)) m = K (nI (c + 1)) m := by
  obtain ⟨r1, r2⟩ := CP_rng h hc hcz
  have q1 := h.1.2
  have z2 := hc.1.2.1
  have c1 : en t g c ≤ en t g c := Nat.le_refl _
  rw [l_M_X11_expand_0_48.eq_2]
  simp (disch := omega) only [↓reduceIte, z_lit, z_m1, z_gd, z_le, z_lt, z_eq, z_em, z_me, z_ml, z_mle, z_lm, z_lem, z_pos, z_sub, nI_add, nI_clamp, ib_nI, pm_let, pm_bd, pm_b1, if_true, if_false, ite_true, ite_false, Nat.not_lt_zero, Nat.zero_le, M_high h hc hcz hF, c1]
theorem M_exp0 {m : hp_S} {c k e w F : Nat} {K : Int32 → hp_S → Option (Int32 × hp_S)} (hh : f_M_X11_high_0 F (nI c) m = some (nI e, m)) (he : e < 1000) (hk : k < 1000) (hc : c < 5000) (h32 : hs_I m 0 32 = nI w) (hw : 2000 < w) (hw2 : w < 10000) : l_M_X11_expand_0_48 K (F + 1) (nI c) (nI k) m = K (nI (c + 1)) m := by
  rw [l_M_X11_expand_0_48.eq_2]
  by_cases c1 : e ≤ k
  · simp (disch := omega) only [↓reduceIte, z_lit, z_m1, z_gd, z_le, z_lt, z_eq, z_em, z_me, z_ml, z_mle, z_lm, z_lem, z_pos, z_sub, nI_add, nI_clamp, ib_nI, pm_let, pm_bd, pm_b1, if_true, if_false, ite_true, ite_false, Nat.not_lt_zero, Nat.zero_le, hh, c1]
  · simp (disch := omega) only [↓reduceIte, z_lit, z_m1, z_gd, z_le, z_lt, z_eq, z_em, z_me, z_ml, z_mle, z_lm, z_lem, z_pos, z_sub, nI_add, nI_clamp, ib_nI, pm_let, pm_bd, pm_b1, if_true, if_false, ite_true, ite_false, Nat.not_lt_zero, Nat.zero_le, hh, c1, h32, hw]
theorem UN_in {t : TT} {c : Nat} : ∀ (d : Nat) (s m : hp_S) (g : GG) (z V k : Nat), UL s m t g z V c k → k + d = en t g c →
    (∃ s' m' w, hs_fr uP uA s s' ∧ hs_fr vP vA m m' ∧ 2000 < w ∧ w < 10000 ∧ hs_I m' 0 32 = nI w ∧ (∀ K F, 3000 + d ≤ F → l_C_X1_unfold_26_44 K F (nI 1) (nI c) (nI k) s = K (nI 0) (nI (c + 1)) s') ∧ ∀ K F, 3000 + d ≤ F → l_M_X11_expand_0_48 K F (nI c) (nI k) m = K (nI (c + 1)) m') ∨
    (∃ s' m' g' z' V', UL s' m' t g' z' V' c (en t g c) ∧ en t g' c = en t g c ∧ hs_fr uP uA s s' ∧ hs_fr vP vA m m' ∧ (∀ K F, 3000 + d ≤ F → l_C_X1_unfold_26_44 K F (nI 1) (nI c) (nI k) s = K (nI 1) (nI (c + 1)) s') ∧ ∀ K F, 3000 + d ≤ F → l_M_X11_expand_0_48 K F (nI c) (nI k) m = K (nI (c + 1)) m') := by
  intro d
  induction d with
  | zero =>
    intro s m g z V k hU e
    obtain rfl : k = en t g c := by omega
    obtain ⟨h, hc, hcz, -⟩ := id hU
    refine Or.inr ⟨s, m, g, z, V, hU, rfl, hs_fr.rf, hs_fr.rf, fun K F hF => ?_, fun K F hF => ?_⟩
    · obtain ⟨F, rfl⟩ : ∃ y, F = y + 1 := ⟨F - 1, by omega⟩
      exact C_unfE h hc hcz
    · obtain ⟨F, rfl⟩ : ∃ y, F = y + 1 := ⟨F - 1, by omega⟩
      exact M_expE h hc hcz (by omega)
  | succ d ih =>
    intro s m g z V k hU e
    obtain ⟨h, hc, hcz, hu0, hu1, ⟨hk1, hk2⟩, hz, hT⟩ := id hU
    obtain ⟨r1, r2⟩ := CP_rng h hc hcz
    have q1 := h.1.2
    have z2 := hc.1.2.1
    by_cases k2 : tkd t k = 2
    · obtain ⟨m1, m2, m3, m4⟩ := h.2.2.2.2.2.1 k (by omega) k2
      rcases m2 with k4 | k5
      · -- a fn's name
        have nn : ¬ (tkd t k = 2 ∧ tkd t (tmn t k) = 5) := fun q => by omega
        obtain ⟨s1, hs1⟩ : ∃ s1, s1 = hs_pA s 30 (cv t g c k) (nI (cv t g (HO t g (tmn t k) c) (tmn t k) + 1)) := ⟨_, rfl⟩
        have f1 : hs_fr uP uA s s1 := by rw [hs1]; exact hs_fr_pA (by decide)
        have h1 : TRt s1 m t := TRt_u h f1 hs_fr.rf
        have hc1 : CP s1 m t g z V := by
          rw [hs1]
          exact CP_fr (P := []) (A := [30]) (P' := []) (A' := []) hc (hs_fr_pA (by decide)) hs_fr.rf (by simp) (by simp)
        have U1 : UL s1 m t g z V c (k + 1) := by
          refine ⟨h1, hc1, hcz, hu0, hu1, ⟨by omega, by omega⟩, by rw [ui_s hk1, if_neg nn]; exact hz, fun c' k' a1 a2 a3 a4 => ?_⟩
          by_cases q : c' = c ∧ k' = k
          · obtain ⟨rfl, rfl⟩ := q
            intro _
            refine ⟨fun _ => ?_, fun q => by omega⟩
            rw [hs1]; simp only [hs_I_pI, hs_I_pA, hs_A_pI, hs_A_pA, and_true, true_and, and_false, false_and, and_self, eq_self, Nat.reduceEqDiff, ↓reduceIte]
          · have e1 : ¬ cv t g c' k' = cv t g c k := fun q' => q (cv_inj h hc a1 a2 a3 hcz hk1 (by omega) q')
            have := hT c' k' a1 a2 a3 (by omega)
            unfold TG at this ⊢
            rw [hs1]
            simp only [hs_I_pI, hs_I_pA, hs_A_pI, hs_A_pA, and_true, true_and, and_false, false_and, and_self, eq_self, Nat.reduceEqDiff, ↓reduceIte, e1]
            exact this
        have sC : ∀ K F, 2001 ≤ F → l_C_X1_unfold_26_44 K (F + 1) (nI 1) (nI c) (nI k) s = l_C_X1_unfold_26_44 K F (nI 1) (nI c) (nI (k + 1)) s1 := fun K F hF => C_unfY h hc hcz (by omega) k2 (by omega) (by rw [hs1]; exact C_followF h hc hcz hk1 (by omega) k2 k4 hF)
        have sM : ∀ K F, 102 ≤ F → l_M_X11_expand_0_48 K (F + 1) (nI c) (nI k) m = l_M_X11_expand_0_48 K F (nI c) (nI (k + 1)) m := fun K F hF => M_expN h hc hcz (by omega) nn hF
        rcases ih s1 m g z V (k + 1) U1 (by omega) with ⟨s', m', w, a1, a2, a3, a4, a5, a6, a7⟩ | ⟨s', m', g', z', V', a1, a2, a3, a4, a5, a6⟩
        · refine Or.inl ⟨s', m', w, f1.cons a1, a2, a3, a4, a5, fun K F hF => ?_, fun K F hF => ?_⟩
          · obtain ⟨F, rfl⟩ : ∃ y, F = y + 1 := ⟨F - 1, by omega⟩
            rw [sC K F (by omega)]; exact a6 K F (by omega)
          · obtain ⟨F, rfl⟩ : ∃ y, F = y + 1 := ⟨F - 1, by omega⟩
            rw [sM K F (by omega)]; exact a7 K F (by omega)
        · refine Or.inr ⟨s', m', g', z', V', a1, a2, f1.cons a3, a4, fun K F hF => ?_, fun K F hF => ?_⟩
          · obtain ⟨F, rfl⟩ : ∃ y, F = y + 1 := ⟨F - 1, by omega⟩
            rw [sC K F (by omega)]; exact a5 K F (by omega)
          · obtain ⟨F, rfl⟩ : ∃ y, F = y + 1 := ⟨F - 1, by omega⟩
            rw [sM K F (by omega)]; exact a6 K F (by omega)
      · -- a let's name
        obtain ⟨b1, b2, b3, b4, b5⟩ := let_b h m1 k5
        obtain ⟨V1, V2⟩ := hc.1.2.2
        obtain ⟨o1, o2, o3⟩ := HO_ok h hc m1 hcz
        obtain ⟨f1, f2, f3, f4, f5⟩ := fn_ag (t := t) (g := g) (V := V) (b := tmn t k) (h := HO t g (tmn t k) c) hcz
        obtain ⟨z1, z2', z3, z4, z5, z6⟩ := fn_z (t := t) (g := g) (V := V) (b := tmn t k) (h := HO t g (tmn t k) c) hc.1.1
        have sM : ∀ K F, 2001 ≤ F → l_M_X11_expand_0_48 K (F + 1) (nI c) (nI k) m = l_M_X11_expand_0_48 K F (nI c) (nI (k + 1)) (mAd t m z V (tmn t k) (HO t g (tmn t k) c)) := fun K F hF => M_expL h hc hcz (by omega) k2 k5 hF
        by_cases hV : V + sl t (tbe t (tmn t k)) - sl t (tmn t k + 1) ≤ 2000
        · by_cases hz2 : z < 2000
          · obtain ⟨s1, hs1⟩ : ∃ s1, s1 = hs_pA (sAd t s z V (tmn t k) (HO t g (tmn t k) c)) 30 (cv t g c k) (nI (cv t (gA' t g z V (tmn t k) (HO t g (tmn t k) c)) z (tch t 0 (tmn t k)))) := ⟨_, rfl⟩
            have fs : hs_fr uP uA s s1 := by rw [hs1]; exact F_sAd.cons (hs_fr_pA (by decide))
            have h1 : TRt s1 (mAd t m z V (tmn t k) (HO t g (tmn t k) c)) t := TRt_u h fs F_mAd
            have hc0 := CP_add (h' := HO t g (tmn t k) c) h hc m1 k5 hz2 (by omega) hV
            have hc1 : CP s1 (mAd t m z V (tmn t k) (HO t g (tmn t k) c)) t (gA' t g z V (tmn t k) (HO t g (tmn t k) c)) (z + 1) (V + sl t (tbe t (tmn t k)) - sl t (tmn t k + 1)) := by
              rw [hs1]
              exact CP_fr (P := []) (A := [30]) (P' := []) (A' := []) hc0 (hs_fr_pA (by decide)) hs_fr.rf (by simp) (by simp)
            have eu : ∀ x, ui t (gA' t g z V (tmn t k) (HO t g (tmn t k) c)) c x = ui t g c x := fun x => by
              unfold ui
              rw [f1]
              rfl
            have U1 : UL s1 (mAd t m z V (tmn t k) (HO t g (tmn t k) c)) t (gA' t g z V (tmn t k) (HO t g (tmn t k) c)) (z + 1) (V + sl t (tbe t (tmn t k)) - sl t (tmn t k + 1)) c (k + 1) := by
              refine ⟨h1, hc1, by omega, hu0, fun i hi => ?_, ⟨by rw [f1]; omega, by rw [f2]; omega⟩, by rw [eu, ui_s hk1, if_pos ⟨k2, k5⟩]; omega, fun c' k' a1 a2 a3 a4 => ?_⟩
              · obtain ⟨i1, i2, -⟩ := fn_ag (t := t) (g := g) (V := V) (b := tmn t k) (h := HO t g (tmn t k) c) (show i < z by omega)
                rw [i1, i2]
                exact hu1 i hi
              · obtain ⟨i1, i2, -⟩ := fn_ag (t := t) (g := g) (V := V) (b := tmn t k) (h := HO t g (tmn t k) c) (show c' < z by omega)
                rw [i1] at a2
                rw [i2] at a3
                by_cases q : c' = c ∧ k' = k
                · obtain ⟨rfl, rfl⟩ := q
                  intro _
                  refine ⟨fun q => by omega, fun _ => ?_⟩
                  rw [eu, ← hz, z3, cv_ag hcz]
                  refine ⟨hc.1.1, by omega, rfl, ?_⟩
                  rw [hs1]; simp only [hs_I_pI, hs_I_pA, hs_A_pI, hs_A_pA, and_true, true_and, and_false, false_and, and_self, eq_self, Nat.reduceEqDiff, ↓reduceIte]
                · have e1 : ¬ cv t g c' k' = cv t g c k := fun q' => q (cv_inj h hc (by omega) a2 a3 hcz hk1 (by omega) q')
                  have r := (CP_rng h hc (show c' < z by omega)).2
                  refine TG_ag h hc (by omega) (by omega) (hT c' k' (by omega) a2 a3 (by omega)) ?_
                  rw [hs1]
                  simp only [hs_I_pI, hs_I_pA, hs_A_pI, hs_A_pA, and_true, true_and, and_false, false_and, and_self, eq_self, Nat.reduceEqDiff, ↓reduceIte, e1, sAd]
            have sC : ∀ K F, 2001 ≤ F → l_C_X1_unfold_26_44 K (F + 1) (nI 1) (nI c) (nI k) s = l_C_X1_unfold_26_44 K F (nI 1) (nI c) (nI (k + 1)) s1 := fun K F hF => C_unfY h hc hcz (by omega) k2 (by omega) (by rw [hs1]; exact C_followL h hc hcz hk1 (by omega) k2 k5 hF hz2 hV)
            rcases ih s1 _ _ _ _ (k + 1) U1 (by rw [f2]; omega) with ⟨s', m', w, a1, a2, a3, a4, a5, a6, a7⟩ | ⟨s', m', g', z', V', a1, a2, a3, a4, a5, a6⟩
            · refine Or.inl ⟨s', m', w, fs.cons a1, F_mAd.cons a2, a3, a4, a5, fun K F hF => ?_, fun K F hF => ?_⟩
              · obtain ⟨F, rfl⟩ : ∃ y, F = y + 1 := ⟨F - 1, by omega⟩
                rw [sC K F (by omega)]; exact a6 K F (by omega)
              · obtain ⟨F, rfl⟩ : ∃ y, F = y + 1 := ⟨F - 1, by omega⟩
                rw [sM K F (by omega)]; exact a7 K F (by omega)
            · rw [f2] at a1 a2
              refine Or.inr ⟨s', m', g', z', V', a1, a2, fs.cons a3, F_mAd.cons a4, fun K F hF => ?_, fun K F hF => ?_⟩
              · obtain ⟨F, rfl⟩ : ∃ y, F = y + 1 := ⟨F - 1, by omega⟩
                rw [sC K F (by omega)]; exact a5 K F (by omega)
              · obtain ⟨F, rfl⟩ : ∃ y, F = y + 1 := ⟨F - 1, by omega⟩
                rw [sM K F (by omega)]; exact a6 K F (by omega)
          · exfalso
            omega
        · -- too many variables
          have e32 : hs_I (mAd t m z V (tmn t k) (HO t g (tmn t k) c)) 0 32 = nI (V + sl t (tbe t (tmn t k)) - sl t (tmn t k + 1)) := by simp only [mAd, hs_I_pI, hs_I_pA, hs_A_pI, hs_A_pA, and_true, true_and, and_false, false_and, and_self, eq_self, Nat.reduceEqDiff, ↓reduceIte]
          have hm : ∀ F, 102 ≤ F → f_M_X11_high_0 F (nI c) (mAd t m z V (tmn t k) (HO t g (tmn t k) c)) = some (nI (en t g c), mAd t m z V (tmn t k) (HO t g (tmn t k) c)) := by
            intro F hF
            have h1 : TRt s (mAd t m z V (tmn t k) (HO t g (tmn t k) c)) t := TRt_u h hs_fr.rf F_mAd
            unfold f_M_X11_high_0 en
            by_cases c0 : c = 0
            · subst c0
              simp (disch := omega) only [↓reduceIte, z_lit, z_m1, z_gd, z_le, z_lt, z_eq, z_em, z_me, z_ml, z_mle, z_lm, z_lem, z_pos, z_sub, nI_add, nI_clamp, ib_nI, pm_let, pm_bd, pm_b1, if_true, if_false, ite_true, ite_false, Nat.not_lt_zero, Nat.zero_le, h1.2.2.1]
            · obtain ⟨a1, a2, a3, a4, -⟩ := hc.2.2.2.1 c (by omega) hcz
              obtain ⟨-, -, -, -, -, a, b, b1, b2, b3, b4, b5, b6⟩ := h1.2.2.2.2.2.2.2.1 _ a1 a2
              have n1 := TR_nd h a1
              have cz : ¬ c = z := by omega
              have a4' : hs_A (mAd t m z V (tmn t k) (HO t g (tmn t k) c)) 20 c = nI (tnd t (gl g c)) := by simp only [mAd, hs_I_pI, hs_I_pA, hs_A_pI, hs_A_pA, and_true, true_and, and_false, false_and, and_self, eq_self, Nat.reduceEqDiff, ↓reduceIte, cz]; exact a4
              simp (disch := omega) only [↓reduceIte, z_lit, z_m1, z_gd, z_le, z_lt, z_eq, z_em, z_me, z_ml, z_mle, z_lm, z_lem, z_pos, z_sub, nI_add, nI_clamp, ib_nI, pm_let, pm_bd, pm_b1, if_true, if_false, ite_true, ite_false, Nat.not_lt_zero, Nat.zero_le, a4', b4, M_below h1 (show b < 1000 by omega) hF, b6, c0]
          refine Or.inl ⟨if z < 2000 then sAd t s z V (tmn t k) (HO t g (tmn t k) c) else s, mAd t m z V (tmn t k) (HO t g (tmn t k) c), _, ?_, F_mAd, ?_, ?_, e32, fun K F hF => ?_, fun K F hF => ?_⟩
          · split
            · exact F_sAd
            · exact hs_fr.rf
          · omega
          · omega
          · obtain ⟨F, rfl⟩ : ∃ y, F = y + 1 + 1 := ⟨F - 2, by omega⟩
            rw [C_unfY h hc hcz (by omega) k2 (by omega) (C_followN h hc hcz (by omega) k2 k5 (by omega) (by omega))]
            exact C_unf0 (by omega)
          · obtain ⟨F, rfl⟩ : ∃ y, F = y + 1 + 1 := ⟨F - 2, by omega⟩
            rw [sM K (F + 1) (by omega)]
            exact M_exp0 (hm F (by omega)) (by omega) (by omega) (by omega) e32 (by omega) (by omega)
    · -- no name
      have nn : ¬ (tkd t k = 2 ∧ tkd t (tmn t k) = 5) := fun q => k2 q.1
      have U1 : UL s m t g z V c (k + 1) := by
        refine ⟨h, hc, hcz, hu0, hu1, ⟨by omega, by omega⟩, by rw [ui_s hk1, if_neg nn]; exact hz, fun c' k' a1 a2 a3 a4 => ?_⟩
        by_cases q : c' = c ∧ k' = k
        · obtain ⟨rfl, rfl⟩ := q
          intro q'
          exact absurd q' k2
        · exact hT c' k' a1 a2 a3 (by omega)
      have sC : ∀ K F, l_C_X1_unfold_26_44 K (F + 1) (nI 1) (nI c) (nI k) s = l_C_X1_unfold_26_44 K F (nI 1) (nI c) (nI (k + 1)) s := fun K F => C_unfN h hc hcz (by omega) k2
      have sM : ∀ K F, 102 ≤ F → l_M_X11_expand_0_48 K (F + 1) (nI c) (nI k) m = l_M_X11_expand_0_48 K F (nI c) (nI (k + 1)) m := fun K F hF => M_expN h hc hcz (by omega) nn hF
      rcases ih s m g z V (k + 1) U1 (by omega) with ⟨s', m', w, a1, a2, a3, a4, a5, a6, a7⟩ | ⟨s', m', g', z', V', a1, a2, a3, a4, a5, a6⟩
      · refine Or.inl ⟨s', m', w, a1, a2, a3, a4, a5, fun K F hF => ?_, fun K F hF => ?_⟩
        · obtain ⟨F, rfl⟩ : ∃ y, F = y + 1 := ⟨F - 1, by omega⟩
          rw [sC K F]; exact a6 K F (by omega)
        · obtain ⟨F, rfl⟩ : ∃ y, F = y + 1 := ⟨F - 1, by omega⟩
          rw [sM K F (by omega)]; exact a7 K F (by omega)
      · refine Or.inr ⟨s', m', g', z', V', a1, a2, a3, a4, fun K F hF => ?_, fun K F hF => ?_⟩
        · obtain ⟨F, rfl⟩ : ∃ y, F = y + 1 := ⟨F - 1, by omega⟩
          rw [sC K F]; exact a5 K F (by omega)
        · obtain ⟨F, rfl⟩ : ∃ y, F = y + 1 := ⟨F - 1, by omega⟩
          rw [sM K F (by omega)]; exact a6 K F (by omega)
/-- all copies, and what their names' types are the same as -/
def UD (s m : hp_S) (t : TT) (g : GG) (z V : Nat) : Prop := TRt s m t ∧ CP s m t g z V ∧ gu g 0 = 1 ∧ (∀ i, i < z → gu g (i + 1) = gu g i + (ln t (en t g i) - ln t (fn g i))) ∧ ∀ c k, c < z → fn g c ≤ k → k < en t g c → TG s t g z c k
def gU (g : GG) (i x : Nat) : GG := (gl g, gh g, gb g, fup (gu g) i x)
theorem TG_gU {s : hp_S} {t : TT} {g : GG} {z c k i x : Nat} (hc : c ≠ i) (h : TG s t g z c k) : TG s t (gU g i x) z c k := by
  have e : ui t (gU g i x) c k = ui t g c k := by
    unfold ui
    change fup (gu g) i x c + (ln t k - ln t (fn g c)) = _
    rw [fup_ne hc]
  intro h2
  have e2 : ∀ n c', ho t (gU g i x) (tmn t k) n c' = ho t g (tmn t k) n c' := by
    intro n
    induction n with
    | zero => intro c'; rfl
    | succ n ih =>
      intro c'
      simp only [ho]
      rw [ih]
      rfl
  have e3 : HO t (gU g i x) (tmn t k) c = HO t g (tmn t k) c := e2 c c
  rw [e, e3]
  exact h h2
theorem UN_out {t : TT} : ∀ (D : Nat) (s m : hp_S) (g : GG) (z V c : Nat), UL s m t g z V c (fn g c) → c + D = 2000 → ∃ b s' m', (∀ F, 5000 + D ≤ F → l_C_X1_unfold_26_19 F (nI 1) (nI c) s = some (nI b, s')) ∧ (∀ F, 5000 + D ≤ F → l_M_X11_expand_0_24 F (nI c) m = some (nI b, m')) ∧ hs_fr uP uA s s' ∧ hs_fr vP vA m m' ∧ (b = 0 ∨ (b = 1 ∧ ∃ g' z' V', UD s' m' t g' z' V')) := by
  intro D
  induction D with
  | zero =>
    intro s m g z V c hU e
    have := hU.2.1.1.2.1
    have := hU.2.2.1
    omega
  | succ D ih =>
    intro s m g z V c hU e
    obtain ⟨h, hc, hcz, -⟩ := id hU
    have z2 := hc.1.2.1
    obtain ⟨r1, r2⟩ := CP_rng h hc hcz
    have q1 := h.1.2
    have sC : ∀ F, l_C_X1_unfold_26_19 (F + 1) (nI 1) (nI c) s = l_C_X1_unfold_26_44 (l_C_X1_unfold_26_19 F) F (nI 1) (nI c) (nI (fn g c)) s := by
      intro F
      have c1 : ¬ z ≤ c := by omega
      have c2 : ¬ 2000 ≤ c := by omega
      rw [l_C_X1_unfold_26_19.eq_2]
      simp (disch := omega) only [↓reduceIte, z_lit, z_m1, z_gd, z_le, z_lt, z_eq, z_em, z_me, z_ml, z_mle, z_lm, z_lem, z_pos, z_sub, nI_add, nI_clamp, ib_nI, pm_let, pm_bd, pm_b1, if_true, if_false, ite_true, ite_false, Nat.not_lt_zero, Nat.zero_le, hc.2.1.1, c1, c2, C_firstNode h hc hcz]
      all_goals simp
    have sM : ∀ F, 102 ≤ F → l_M_X11_expand_0_24 (F + 1) (nI c) m = l_M_X11_expand_0_48 (l_M_X11_expand_0_24 F) F (nI c) (nI (fn g c)) m := by
      intro F hF
      have c1 : ¬ z ≤ c := by omega
      have V2 := hc.1.2.2.2
      have c2 : ¬ 2000 < V := by omega
      rw [l_M_X11_expand_0_24.eq_2]
      simp (disch := omega) only [↓reduceIte, z_lit, z_m1, z_gd, z_le, z_lt, z_eq, z_em, z_me, z_ml, z_mle, z_lm, z_lem, z_pos, z_sub, nI_add, nI_clamp, ib_nI, pm_let, pm_bd, pm_b1, if_true, if_false, ite_true, ite_false, Nat.not_lt_zero, Nat.zero_le, hc.2.1.2.2.1, hc.2.1.2.2.2, c1, c2, M_low h hc hcz hF]
    rcases UN_in (en t g c - fn g c) s m g z V (fn g c) hU (by omega) with ⟨s', m', w, a1, a2, a3, a4, a5, a6, a7⟩ | ⟨s', m', g', z', V', a1, a2, a3, a4, a5, a6⟩
    · refine ⟨0, s', m', fun F hF => ?_, fun F hF => ?_, a1, a2, Or.inl rfl⟩
      · obtain ⟨F, rfl⟩ : ∃ y, F = y + 1 + 1 := ⟨F - 2, by omega⟩
        rw [sC, a6 _ _ (by omega), l_C_X1_unfold_26_19.eq_2]
        simp (disch := omega) only [↓reduceIte, z_lit, z_m1, z_gd, z_le, z_lt, z_eq, z_em, z_me, z_ml, z_mle, z_lm, z_lem, z_pos, z_sub, nI_add, nI_clamp, ib_nI, pm_let, pm_bd, pm_b1, if_true, if_false, ite_true, ite_false, Nat.not_lt_zero, Nat.zero_le, z_bl0]
      · obtain ⟨F, rfl⟩ : ∃ y, F = y + 1 + 1 := ⟨F - 2, by omega⟩
        rw [sM _ (by omega), a7 _ _ (by omega), l_M_X11_expand_0_24.eq_2]
        simp (disch := omega) only [↓reduceIte, z_lit, z_m1, z_gd, z_le, z_lt, z_eq, z_em, z_me, z_ml, z_mle, z_lm, z_lem, z_pos, z_sub, nI_add, nI_clamp, ib_nI, pm_let, pm_bd, pm_b1, if_true, if_false, ite_true, ite_false, Nat.not_lt_zero, Nat.zero_le, a5, a3]
        split <;> rfl
    · obtain ⟨h', hc', hcz', hu0, hu1, hk, hz, hT⟩ := a1
      have hz' := hc'.1.2.1
      have V2' := hc'.1.2.2.2
      have eg : gu g' c + (ln t (en t g' c) - ln t (fn g' c)) = z' := by rw [a2]; exact hz.symm
      by_cases cz : c + 1 < z'
      · have U2 : UL s' m' t (gU g' (c + 1) z') z' V' (c + 1) (fn (gU g' (c + 1) z') (c + 1)) := by
          refine ⟨h', hc', cz, ?_, fun i hi => ?_, ⟨Nat.le_refl _, Nat.le_of_lt (CP_rng h' hc' cz).1⟩, ?_, fun c'' k' b1 b2 b3 b4 => ?_⟩
          · change fup (gu g') (c + 1) z' 0 = 1
            rw [fup_ne (by omega)]
            exact hu0
          · change fup (gu g') (c + 1) z' (i + 1) = fup (gu g') (c + 1) z' i + (ln t (en t g' i) - ln t (fn g' i))
            by_cases q : i = c
            · subst q
              rw [fup_eq, fup_ne (by omega), eg]
            · rw [fup_ne (by omega), fup_ne (by omega)]
              exact hu1 i (by omega)
          · change z' = fup (gu g') (c + 1) z' (c + 1) + (ln t (fn g' (c + 1)) - ln t (fn g' (c + 1)))
            rw [fup_eq]
            omega
          · have b5 : c'' < c + 1 := by
              rcases b4 with q | ⟨q, q2⟩
              · exact q
              · subst q; omega
            refine TG_gU (by omega) (hT c'' k' b1 b2 b3 ?_)
            change fn g' c'' ≤ k' at b2
            change k' < en t g' c'' at b3
            by_cases q : c'' = c
            · right
              refine ⟨q, ?_⟩
              rw [q, a2] at b3
              exact b3
            · left
              omega
        obtain ⟨b, s2, m2, e1, e2, e3, e4, e5⟩ := ih s' m' _ z' V' (c + 1) U2 (by omega)
        refine ⟨b, s2, m2, fun F hF => ?_, fun F hF => ?_, a3.cons e3, a4.cons e4, e5⟩
        · obtain ⟨F, rfl⟩ : ∃ y, F = y + 1 := ⟨F - 1, by omega⟩
          rw [sC, a5 _ _ (by omega)]
          exact e1 F (by omega)
        · obtain ⟨F, rfl⟩ : ∃ y, F = y + 1 := ⟨F - 1, by omega⟩
          rw [sM _ (by omega), a6 _ _ (by omega)]
          exact e2 F (by omega)
      · have ez : z' = c + 1 := by omega
        refine ⟨1, s', m', fun F hF => ?_, fun F hF => ?_, a3, a4, Or.inr ⟨rfl, gU g' (c + 1) z', z', V', h', hc', ?_, fun i hi => ?_, fun c'' k' b1 b2 b3 => ?_⟩⟩
        · obtain ⟨F, rfl⟩ : ∃ y, F = y + 1 + 1 := ⟨F - 2, by omega⟩
          have c1 : z' ≤ c + 1 := by omega
          rw [sC, a5 _ _ (by omega), l_C_X1_unfold_26_19.eq_2]
          simp (disch := omega) only [↓reduceIte, z_lit, z_m1, z_gd, z_le, z_lt, z_eq, z_em, z_me, z_ml, z_mle, z_lm, z_lem, z_pos, z_sub, nI_add, nI_clamp, ib_nI, pm_let, pm_bd, pm_b1, if_true, if_false, ite_true, ite_false, Nat.not_lt_zero, Nat.zero_le, hc'.2.1.1, c1, z_bl1]
          all_goals simp
        · obtain ⟨F, rfl⟩ : ∃ y, F = y + 1 + 1 := ⟨F - 2, by omega⟩
          have c1 : z' ≤ c + 1 := by omega
          have c2 : ¬ 2000 < V' := by omega
          rw [sM _ (by omega), a6 _ _ (by omega), l_M_X11_expand_0_24.eq_2]
          simp (disch := omega) only [↓reduceIte, z_lit, z_m1, z_gd, z_le, z_lt, z_eq, z_em, z_me, z_ml, z_mle, z_lm, z_lem, z_pos, z_sub, nI_add, nI_clamp, ib_nI, pm_let, pm_bd, pm_b1, if_true, if_false, ite_true, ite_false, Nat.not_lt_zero, Nat.zero_le, hc'.2.1.2.2.1, hc'.2.1.2.2.2, c1, c2]
        · change fup (gu g') (c + 1) z' 0 = 1
          rw [fup_ne (by omega)]
          exact hu0
        · change fup (gu g') (c + 1) z' (i + 1) = fup (gu g') (c + 1) z' i + (ln t (en t g' i) - ln t (fn g' i))
          by_cases q : i = c
          · subst q
            rw [fup_eq, fup_ne (by omega), eg]
          · rw [fup_ne (by omega), fup_ne (by omega)]
            exact hu1 i (by omega)
        · change fn g' c'' ≤ k' at b2
          change k' < en t g' c'' at b3
          refine TG_gU (by omega) (hT c'' k' b1 b2 b3 ?_)
          by_cases q : c'' = c
          · right
            refine ⟨q, ?_⟩
            rw [q, a2] at b3
            exact b3
          · left
            omega
