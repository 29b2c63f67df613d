/-! the copy that holds a binder -/
theorem ho_ok {s m : hp_S} {t : TT} {g : GG} {z V b : Nat} (h : TRt s m t) (hc : CP s m t g z V) (hb : b < tq t) : ∀ n c, c ≤ n → c < z → fn g (ho t g b n c) ≤ b ∧ b < en t g (ho t g b n c) ∧ ho t g b n c ≤ c
  | 0, c, h1, h2 => by
    obtain rfl : c = 0 := by omega
    simp only [ho, fn, en, if_true]
    omega
  | n + 1, c, h1, h2 => by
    simp only [ho]
    by_cases q : fn g c ≤ b ∧ b < en t g c
    · rw [if_pos q]
      exact ⟨q.1, q.2, Nat.le_refl _⟩
    · rw [if_neg q]
      have c0 : c ≠ 0 := by
        intro e
        subst e
        exact q ⟨by simp [fn], by simp [en]; exact hb⟩
      have := (hc.2.2.2.1 c (by omega) h2).2.2.2.2.1
      obtain ⟨a1, a2, a3⟩ := ho_ok h hc hb n (gh g c) (by omega) (by omega)
      exact ⟨a1, a2, by omega⟩
theorem ho_st {s m : hp_S} {t : TT} {g : GG} {z V b : Nat} (hc : CP s m t g z V) (hb : b < tq t) : ∀ n n' c, c ≤ n → c ≤ n' → c < z → ho t g b n c = ho t g b n' c
  | 0, n', c, h1, h2, h3 => by
    obtain rfl : c = 0 := by omega
    cases n' with
    | zero => rfl
    | succ n' =>
      simp only [ho]
      rw [if_pos ⟨by simp [fn], by simp [en]; exact hb⟩]
  | n + 1, n', c, h1, h2, h3 => by
    cases n' with
    | zero =>
      obtain rfl : c = 0 := by omega
      simp only [ho]
      rw [if_pos ⟨by simp [fn], by simp [en]; exact hb⟩]
    | succ n' =>
      simp only [ho]
      by_cases q : fn g c ≤ b ∧ b < en t g c
      · rw [if_pos q, if_pos q]
      · rw [if_neg q, if_neg q]
        have c0 : c ≠ 0 := by
          intro e
          subst e
          exact q ⟨by simp [fn], by simp [en]; exact hb⟩
        have := (hc.2.2.2.1 c (by omega) h3).2.2.2.2.1
        exact ho_st hc hb n n' (gh g c) (by omega) (by omega) (by omega)
theorem M_copyWithL {s m : hp_S} {t : TT} {g : GG} {z V b : Nat} (h : TRt s m t) (hc : CP s m t g z V) (hb : b < tq t) : ∀ n c, c ≤ n → c < z → ∀ F, n + 1 ≤ F → l_M_X11_copyWith_0_2 F (nI (tnd t b)) (nI c) m = some (nI (ho t g b n c), m) := by
  intro n
  have z2 := hc.1.2.1
  induction n with
  | zero =>
    intro c h1 h2 F hF
    obtain rfl : c = 0 := by omega
    obtain ⟨F, rfl⟩ : ∃ y, F = y + 1 := ⟨F - 1, by omega⟩
    have q : fn g 0 ≤ b ∧ b < en t g 0 := ⟨by simp [fn], by simp [en]; exact hb⟩
    have e := M_holds h hc h2 hb
    rw [if_pos q] at e
    rw [l_M_X11_copyWith_0_2.eq_2, e]
    simp (disch := omega) only [↓reduceIte, z_lit, z_m1, z_gd, z_le, z_lt, z_eq, z_em, z_me, z_ml, z_mle, z_lm, z_lem, z_pos, z_sub, nI_add, nI_clamp, ib_nI, pm_let, pm_bd, pm_b1, if_true, if_false, ite_true, ite_false, Nat.not_lt_zero, Nat.zero_le, ho]
    simp
  | succ n ih =>
    intro c h1 h2 F hF
    obtain ⟨F, rfl⟩ : ∃ y, F = y + 1 := ⟨F - 1, by omega⟩
    have e := M_holds h hc h2 hb
    simp only [ho]
    by_cases q : fn g c ≤ b ∧ b < en t g c
    · rw [if_pos q] at e ⊢
      rw [l_M_X11_copyWith_0_2.eq_2, e]
      simp (disch := omega) only [↓reduceIte, z_lit, z_m1, z_gd, z_le, z_lt, z_eq, z_em, z_me, z_ml, z_mle, z_lm, z_lem, z_pos, z_sub, nI_add, nI_clamp, ib_nI, pm_let, pm_bd, pm_b1, if_true, if_false, ite_true, ite_false, Nat.not_lt_zero, Nat.zero_le]
      simp
    · rw [if_neg q] at e ⊢
      have c0 : c ≠ 0 := by
        intro e
        subst e
        exact q ⟨by simp [fn], by simp [en]; exact hb⟩
      obtain ⟨-, -, -, -, a5, -, a7⟩ := hc.2.2.2.1 c (by omega) h2
      rw [l_M_X11_copyWith_0_2.eq_2, e]
      simp (disch := omega) only [↓reduceIte, z_lit, z_m1, z_gd, z_le, z_lt, z_eq, z_em, z_me, z_ml, z_mle, z_lm, z_lem, z_pos, z_sub, nI_add, nI_clamp, ib_nI, pm_let, pm_bd, pm_b1, if_true, if_false, ite_true, ite_false, Nat.not_lt_zero, Nat.zero_le, a7, ih (gh g c) (by omega) (by omega) F (by omega)]
theorem M_copyWith {s m : hp_S} {t : TT} {g : GG} {z V b c F : Nat} (h : TRt s m t) (hc : CP s m t g z V) (hb : b < tq t) (hcz : c < z) (hF : 2001 ≤ F) : f_M_X11_copyWith_0 F (nI c) (nI (tnd t b)) m = some (nI (HO t g b c), m) := by
  unfold f_M_X11_copyWith_0 HO
  have z2 := hc.1.2.1
  exact M_copyWithL h hc hb c c (Nat.le_refl _) hcz F (by omega)
theorem C_homeOfL {s m : hp_S} {t : TT} {g : GG} {z V b : Nat} (h : TRt s m t) (hc : CP s m t g z V) (hb : b < tq t) : ∀ n c y, c ≤ n → c < z → y + n < 2000 → ∀ F, n + 1 ≤ F → l_C_X1_homeOf_26_5 F (nI b) (nI c) (nI y) s = some (nI (ho t g b n c), s) := by
  intro n
  have z2 := hc.1.2.1
  induction n with
  | zero =>
    intro c y h1 h2 hy F hF
    obtain rfl : c = 0 := by omega
    obtain ⟨F, rfl⟩ : ∃ y, F = y + 1 := ⟨F - 1, by omega⟩
    have q : fn g 0 ≤ b ∧ b < en t g 0 := ⟨by simp [fn], by simp [en]; exact hb⟩
    have e := C_holds26 h hc h2 hb
    rw [if_pos q] at e
    have c1 : ¬ 2000 ≤ y := by omega
    rw [l_C_X1_homeOf_26_5.eq_2]
    simp (disch := omega) only [↓reduceIte, z_lit, z_m1, z_gd, z_le, z_lt, z_eq, z_em, z_me, z_ml, z_mle, z_lm, z_lem, z_pos, z_sub, nI_add, nI_clamp, ib_nI, pm_let, pm_bd, pm_b1, if_true, if_false, ite_true, ite_false, Nat.not_lt_zero, Nat.zero_le, ho, c1, C_isCopy hc.2.1.1 h2 z2, e]
    simp
  | succ n ih =>
    intro c y h1 h2 hy F hF
    obtain ⟨F, rfl⟩ : ∃ y, F = y + 1 := ⟨F - 1, by omega⟩
    have e := C_holds26 h hc h2 hb
    have c1 : ¬ 2000 ≤ y := by omega
    simp only [ho]
    by_cases q : fn g c ≤ b ∧ b < en t g c
    · rw [if_pos q] at e ⊢
      rw [l_C_X1_homeOf_26_5.eq_2]
      simp (disch := omega) only [↓reduceIte, z_lit, z_m1, z_gd, z_le, z_lt, z_eq, z_em, z_me, z_ml, z_mle, z_lm, z_lem, z_pos, z_sub, nI_add, nI_clamp, ib_nI, pm_let, pm_bd, pm_b1, if_true, if_false, ite_true, ite_false, Nat.not_lt_zero, Nat.zero_le, c1, C_isCopy hc.2.1.1 h2 z2, e]
      simp
    · rw [if_neg q] at e ⊢
      have c0 : c ≠ 0 := by
        intro e
        subst e
        exact q ⟨by simp [fn], by simp [en]; exact hb⟩
      obtain ⟨-, -, -, -, a5, a6, a7⟩ := hc.2.2.2.1 c (by omega) h2
      rw [l_C_X1_homeOf_26_5.eq_2]
      simp (disch := omega) only [↓reduceIte, z_lit, z_m1, z_gd, z_le, z_lt, z_eq, z_em, z_me, z_ml, z_mle, z_lm, z_lem, z_pos, z_sub, nI_add, nI_clamp, ib_nI, pm_let, pm_bd, pm_b1, if_true, if_false, ite_true, ite_false, Nat.not_lt_zero, Nat.zero_le, c1, C_isCopy hc.2.1.1 h2 z2, e, a6, ih (gh g c) (y + 1) (by omega) (by omega) (by omega) F (by omega)]
      simp
theorem C_homeOf {s m : hp_S} {t : TT} {g : GG} {z V b c F : Nat} (h : TRt s m t) (hc : CP s m t g z V) (hb : b < tq t) (hcz : c < z) (hF : 2001 ≤ F) : f_C_X1_homeOf_26 F (nI b) (nI c) s = some (nI (HO t g b c), s) := by
  unfold f_C_X1_homeOf_26 HO
  have z2 := hc.1.2.1
  exact C_homeOfL h hc hb c c 0 (Nat.le_refl _) hcz (by omega) F (by omega)
theorem HO_ok {s m : hp_S} {t : TT} {g : GG} {z V b c : Nat} (h : TRt s m t) (hc : CP s m t g z V) (hb : b < tq t) (hcz : c < z) : fn g (HO t g b c) ≤ b ∧ b < en t g (HO t g b c) ∧ HO t g b c ≤ c := ho_ok h hc hb c c (Nat.le_refl _) hcz
/-! what doesn't matter to the tree and the copies -/
theorem TRt_fr {s m s' m' : hp_S} {t : TT} {P P' : List (Nat × Nat)} {A A' : List Nat} (h : TRt s m t) (f : hs_fr P A s s') (f' : hs_fr P' A' m m') (g : (16, 4) ∉ P ∧ 18 ∉ A ∧ 19 ∉ A ∧ 20 ∉ A ∧ 21 ∉ A ∧ 22 ∉ A ∧ 23 ∉ A ∧ 24 ∉ A) (g' : (0, 12) ∉ P' ∧ 6 ∉ A' ∧ 7 ∉ A' ∧ 8 ∉ A' ∧ 9 ∉ A' ∧ 10 ∉ A' ∧ 14 ∉ A' ∧ 15 ∉ A' ∧ 16 ∉ A' ∧ 17 ∉ A' ∧ 18 ∉ A' ∧ 19 ∉ A') : TRt s' m' t := by
  obtain ⟨h1, h2, h3, h4, h5, h6, ⟨h7a, h7b, h7c⟩, h8, h9, h10⟩ := h
  obtain ⟨a0, a1, a2, a3, a4, a5, a6, a7⟩ := g
  obtain ⟨b0, b1, b2, b3, b4, b5, b6, b7, b8, b9, b10, b11⟩ := g'
  have ej : ∀ j, fj m' j = fj m j := fun j => by simp only [fj, f'.2 _ b5]
  have eb : ∀ u, bl m' u (tq t) = bl m u (tq t) := fun u => bl_congr u _ (fun j _ => ej j)
  have en : ∀ j, nu m' (tq t) j = nu m (tq t) j := fun j => by unfold nu; rw [ej, eb]
  have d19 : ∀ d, d < 3 → (19 + d) ∉ A := by
    intro d hd
    rcases (show d = 0 ∨ d = 1 ∨ d = 2 by omega) with rfl | rfl | rfl
    · exact a2
    · exact a3
    · exact a4
  have d7 : ∀ d, d < 3 → (7 + d) ∉ A' := by
    intro d hd
    rcases (show d = 0 ∨ d = 1 ∨ d = 2 by omega) with rfl | rfl | rfl
    · exact b2
    · exact b3
    · exact b4
  refine ⟨h1, by rw [f.1 _ _ a0]; exact h2, by rw [f'.1 _ _ b0]; exact h3, fun k hk => ?_, fun k hk d hd => ?_, fun k hk hk2 => ?_, ⟨h7a, h7b, fun k hk => ?_⟩, fun k hk hk5 => ?_, fun j hj => ?_, fun k hk => ?_⟩
  · rw [f.2 _ a1, f'.2 _ b9, f'.2 _ b8, f'.2 _ b1]; exact h4 k hk
  · have := ar_le (tkd t k)
    rw [f.2 _ (d19 d (by omega)), f'.2 _ (d7 d (by omega))]; exact h5 k hk d hd
  · rw [f.2 _ a5, f'.2 _ b11]; exact h6 k hk hk2
  · rw [f.2 _ a7, f'.2 _ b10]; exact h7c k hk
  · obtain ⟨c1, c2, c3, c4, c5, a, b, d1, d2, d3, d4, d5, d6⟩ := h8 k hk hk5
    exact ⟨c1, c2, by rw [f.2 _ a6]; exact c3, c4, c5, a, b, d1, d2, by rw [f'.2 _ b6]; exact d3, by rw [f'.2 _ b7]; exact d4, by rw [eb]; exact d5, by rw [eb]; exact d6⟩
  · rw [f'.2 _ b5, ej, en]; exact h9 j hj
  · rw [en]; exact h10 k hk
theorem CP_fr {s m s' m' : hp_S} {t : TT} {g : GG} {z V : Nat} {P P' : List (Nat × Nat)} {A A' : List Nat} (h : CP s m t g z V) (f : hs_fr P A s s') (f' : hs_fr P' A' m m') (k : (26, 6) ∉ P ∧ (26, 7) ∉ P ∧ 27 ∉ A ∧ 28 ∉ A ∧ 29 ∉ A) (k' : (0, 28) ∉ P' ∧ (0, 32) ∉ P' ∧ 20 ∉ A' ∧ 21 ∉ A' ∧ 22 ∉ A') : CP s' m' t g z V := by
  obtain ⟨h1, h2, h3, h4, h5, h6⟩ := h
  obtain ⟨a1, a2, a3, a4, a5⟩ := k
  obtain ⟨b1, b2, b3, b4, b5⟩ := k'
  refine ⟨h1, by rw [f.1 _ _ a1, f.1 _ _ a2, f'.1 _ _ b1, f'.1 _ _ b2]; exact h2, by rw [f.2 _ a3]; exact h3, fun c c1 c2 => ?_, fun c c1 => ?_, h6⟩
  · rw [f.2 _ a3, f'.2 _ b3, f.2 _ a5, f'.2 _ b4]; exact h4 c c1 c2
  · rw [f.2 _ a4, f'.2 _ b5]; exact h5 c c1
/-! another copy -/
def fup (f : Nat → Nat) (i x : Nat) : Nat → Nat := fun j => if j = i then x else f j
theorem fup_ne {f : Nat → Nat} {i x j : Nat} (h : j ≠ i) : fup f i x j = f j := by simp only [fup, h, if_false]
theorem fup_eq {f : Nat → Nat} {i x : Nat} : fup f i x i = x := by simp only [fup, if_true]
def gA' (t : TT) (g : GG) (z V b h : Nat) : GG := (fup (gl g) z b, fup (gh g) z h, fup (gb g) (z + 1) (V + sl t (tbe t b) - sl t (b + 1)), gu g)
def sAd (t : TT) (s : hp_S) (z V b h : Nat) : hp_S := hs_pI (hs_pI (hs_pA (hs_pA (hs_pA s 27 z (nI b)) 28 z (nI V)) 29 z (nI h)) 26 6 (nI (z + 1))) 26 7 (nI (V + sl t (tbe t b) - sl t (b + 1)))
def mAd (t : TT) (m : hp_S) (z V b h : Nat) : hp_S := hs_pI (hs_pI (hs_pA (hs_pA (hs_pA m 20 z (nI (tnd t b))) 21 z (nI h)) 22 z (nI V)) 0 32 (nI (V + sl t (tbe t b) - sl t (b + 1)))) 0 28 (nI (z + 1))
theorem let_b {s m : hp_S} {t : TT} (h : TRt s m t) {b : Nat} (hb : b < tq t) (h5 : tkd t b = 5) : b + 1 < tbe t b ∧ tbe t b ≤ tq t ∧ sl t (b + 1) < sl t (tbe t b) ∧ sl t (tbe t b) ≤ 200 ∧ tq t ≤ 100 := by
  obtain ⟨b1, b2, -⟩ := h.2.2.2.2.2.2.2.1 b hb h5
  exact ⟨b1, b2, sl_lt h b1 b2, (sl_b h b2).2.1, h.1.2⟩
theorem C_addZ {s m : hp_S} {t : TT} {g : GG} {z V b : Nat} {h' : Nat} (h : TRt s m t) (hc : CP s m t g z V) (hb : b < tq t) (h5 : tkd t b = 5) (hz : z < 2000) : f_C_X1_add_26 (nI b) (nI h') s = some (if 2000 < V + sl t (tbe t b) - sl t (b + 1) then nI 0 else nI 1, sAd t s z V b h') := by
  obtain ⟨b1, b2, b3, b4, b5⟩ := let_b h hb h5
  have V2 := hc.1.2.2.2
  have hbe := (h.2.2.2.2.2.2.2.1 b hb h5).2.2.1
  obtain ⟨s4, hs4⟩ : ∃ s4, s4 = hs_pI (hs_pA (hs_pA (hs_pA s 27 z (nI b)) 28 z (nI V)) 29 z (nI h')) 26 6 (nI (z + 1)) := ⟨_, rfl⟩
  have e6 : hs_I s4 26 6 = nI (z + 1) := by rw [hs4]; simp only [hs_I_pI, hs_I_pA, hs_A_pI, hs_A_pA, and_true, true_and, and_false, false_and, and_self, eq_self, Nat.reduceEqDiff, ↓reduceIte]
  have e27 : hs_A s4 27 z = nI b := by rw [hs4]; simp only [hs_I_pI, hs_I_pA, hs_A_pI, hs_A_pA, and_true, true_and, and_false, false_and, and_self, eq_self, Nat.reduceEqDiff, ↓reduceIte]
  have e23 : hs_A s4 23 b = nI (tbe t b) := by rw [hs4]; simp only [hs_I_pI, hs_I_pA, hs_A_pI, hs_A_pA, and_true, true_and, and_false, false_and, and_self, eq_self, Nat.reduceEqDiff, ↓reduceIte]; exact hbe
  have e24 : ∀ k, k ≤ tq t → hs_A s4 24 k = nI (sl t k) := fun k hk => by rw [hs4]; simp only [hs_I_pI, hs_I_pA, hs_A_pI, hs_A_pA, and_true, true_and, and_false, false_and, and_self, eq_self, Nat.reduceEqDiff, ↓reduceIte]; exact TR_sl h hk
  have ec := C_isCopy e6 (show z < z + 1 by omega) (by omega)
  have eb : f_C_X7_boundEnd_16 (nI b) s4 = some (nI (tbe t b), s4) := by
    unfold f_C_X7_boundEnd_16
    have c1 : ¬ 100 ≤ b := by omega
    simp (disch := omega) only [↓reduceIte, z_lit, z_m1, z_gd, z_le, z_lt, z_eq, z_em, z_me, z_ml, z_mle, z_lm, z_lem, z_pos, z_sub, nI_add, nI_clamp, ib_nI, pm_let, pm_bd, pm_b1, if_true, if_false, ite_true, ite_false, Nat.not_lt_zero, Nat.zero_le, c1, e23]
  have ee : f_C_X1_endNode_26 (nI z) s4 = some (nI (tbe t b), s4) := by
    unfold f_C_X1_endNode_26
    simp (disch := omega) only [↓reduceIte, z_lit, z_m1, z_gd, z_le, z_lt, z_eq, z_em, z_me, z_ml, z_mle, z_lm, z_lem, z_pos, z_sub, nI_add, nI_clamp, ib_nI, pm_let, pm_bd, pm_b1, if_true, if_false, ite_true, ite_false, Nat.not_lt_zero, Nat.zero_le, ec, e27, eb]
    all_goals simp
  have ef : f_C_X1_firstNode_26 (nI z) s4 = some (nI (b + 1), s4) := by
    unfold f_C_X1_firstNode_26
    simp (disch := omega) only [↓reduceIte, z_lit, z_m1, z_gd, z_le, z_lt, z_eq, z_em, z_me, z_ml, z_mle, z_lm, z_lem, z_pos, z_sub, nI_add, nI_clamp, ib_nI, pm_let, pm_bd, pm_b1, if_true, if_false, ite_true, ite_false, Nat.not_lt_zero, Nat.zero_le, ec, e27]
    all_goals simp
  have es1 := C_slot (s := s4) (show tbe t b ≤ 100 by omega)
  have es2 := C_slot (s := s4) (show b + 1 ≤ 100 by omega)
  rw [e24 _ b2] at es1
  rw [e24 _ (by omega)] at es2
  have c2 : ¬ 2000 ≤ z := by omega
  have e7 : hs_I s4 26 7 = nI V := by rw [hs4]; simp only [hs_I_pI, hs_I_pA, hs_A_pI, hs_A_pA, and_true, true_and, and_false, false_and, and_self, eq_self, Nat.reduceEqDiff, ↓reduceIte]; exact hc.2.1.2.1
  have ev : V + (sl t (tbe t b) - sl t (b + 1)) = V + sl t (tbe t b) - sl t (b + 1) := by omega
  unfold f_C_X1_add_26
  simp (disch := omega) only [↓reduceIte, z_lit, z_m1, z_gd, z_le, z_lt, z_eq, z_em, z_me, z_ml, z_mle, z_lm, z_lem, z_pos, z_sub, nI_add, nI_clamp, ib_nI, pm_let, pm_bd, pm_b1, if_true, if_false, ite_true, ite_false, Nat.not_lt_zero, Nat.zero_le, hs_I_pI, hs_I_pA, hs_A_pI, hs_A_pA, and_true, true_and, and_false, false_and, and_self, eq_self, Nat.reduceEqDiff, ↓reduceIte, hc.2.1.1, hc.2.1.2.1, hz, Nat.add_sub_cancel]
  rw [← hs4]
  simp (disch := omega) only [↓reduceIte, z_lit, z_m1, z_gd, z_le, z_lt, z_eq, z_em, z_me, z_ml, z_mle, z_lm, z_lem, z_pos, z_sub, nI_add, nI_clamp, ib_nI, pm_let, pm_bd, pm_b1, if_true, if_false, ite_true, ite_false, Nat.not_lt_zero, Nat.zero_le, hs_I_pI, hs_I_pA, hs_A_pI, hs_A_pA, and_true, true_and, and_false, false_and, and_self, eq_self, Nat.reduceEqDiff, ↓reduceIte, ee, es1, ef, es2, e7, ev, sAd, ← hs4, e6, Nat.add_sub_cancel]
  split <;> rfl
theorem M_openZ {s m : hp_S} {t : TT} {g : GG} {z V b h' F : Nat} (h : TRt s m t) (hc : CP s m t g z V) (hb : b < tq t) (h5 : tkd t b = 5) (hF : 102 ≤ F) : f_M_X11_open_0 F (nI z) (hs_pA (hs_pA m 20 z (nI (tnd t b))) 21 z (nI h')) = some (hs_pI (hs_pA (hs_pA (hs_pA m 20 z (nI (tnd t b))) 21 z (nI h')) 22 z (nI V)) 0 32 (nI (V + sl t (tbe t b) - sl t (b + 1)))) := by
  obtain ⟨b1, b2, b3, b4, b5⟩ := let_b h hb h5
  have V2 := hc.1
  obtain ⟨m1, hm1⟩ : ∃ m1, m1 = hs_pA (hs_pA m 20 z (nI (tnd t b))) 21 z (nI h') := ⟨_, rfl⟩
  have h1 : TRt s m1 t := by
    rw [hm1]
    exact TRt_fr (P := []) (A := []) (P' := []) (A' := [20, 21]) h hs_fr.rf ((hs_fr_pA (by decide)).cons (hs_fr_pA (by decide))) (by simp) (by simp)
  obtain ⟨-, -, -, -, -, a, b', c1, c2, c3, c4, c5, c6⟩ := h1.2.2.2.2.2.2.2.1 b hb h5
  have n1 := TR_nd h hb
  have e20 : hs_A m1 20 z = nI (tnd t b) := by rw [hm1]; simp only [hs_I_pI, hs_I_pA, hs_A_pI, hs_A_pA, and_true, true_and, and_false, false_and, and_self, eq_self, Nat.reduceEqDiff, ↓reduceIte]
  have c0 : ¬ z = 0 := by omega
  have el : f_M_X11_low_0 F (nI z) m1 = some (nI (b + 1), m1) := by
    unfold f_M_X11_low_0
    simp (disch := omega) only [↓reduceIte, z_lit, z_m1, z_gd, z_le, z_lt, z_eq, z_em, z_me, z_ml, z_mle, z_lm, z_lem, z_pos, z_sub, nI_add, nI_clamp, ib_nI, pm_let, pm_bd, pm_b1, if_true, if_false, ite_true, ite_false, Nat.not_lt_zero, Nat.zero_le, e20, c3, M_below h1 (show a < 1000 by omega) hF, c5, c0]
  have eh : f_M_X11_high_0 F (nI z) m1 = some (nI (tbe t b), m1) := by
    unfold f_M_X11_high_0
    simp (disch := omega) only [↓reduceIte, z_lit, z_m1, z_gd, z_le, z_lt, z_eq, z_em, z_me, z_ml, z_mle, z_lm, z_lem, z_pos, z_sub, nI_add, nI_clamp, ib_nI, pm_let, pm_bd, pm_b1, if_true, if_false, ite_true, ite_false, Nat.not_lt_zero, Nat.zero_le, e20, c4, M_below h1 (show b' < 1000 by omega) hF, c6, c0]
  have e32 : hs_I m1 0 32 = nI V := by rw [hm1]; simp only [hs_I_pI, hs_I_pA, hs_A_pI, hs_A_pA, and_true, true_and, and_false, false_and, and_self, eq_self, Nat.reduceEqDiff, ↓reduceIte]; exact hc.2.1.2.2.2
  have e18 : ∀ k, k ≤ tq t → hs_A m1 18 k = nI (tfb t k) := fun k hk => (h1.2.2.2.2.2.2.1.2.2 k hk).2
  have f1 := e18 _ b2
  have f2 := e18 (b + 1) (by omega)
  have f3 := sl_b h b2
  have f4 := sl_b h (show b + 1 ≤ tq t by omega)
  unfold f_M_X11_open_0
  rw [← hm1]
  simp (disch := omega) only [↓reduceIte, z_lit, z_m1, z_gd, z_le, z_lt, z_eq, z_em, z_me, z_ml, z_mle, z_lm, z_lem, z_pos, z_sub, nI_add, nI_clamp, ib_nI, pm_let, pm_bd, pm_b1, if_true, if_false, ite_true, ite_false, Nat.not_lt_zero, Nat.zero_le, hs_I_pI, hs_I_pA, hs_A_pI, hs_A_pA, and_true, true_and, and_false, false_and, and_self, eq_self, Nat.reduceEqDiff, ↓reduceIte, el, eh, e32, f1, f2]
  unfold sl at b3 ⊢
  simp (disch := omega) only [↓reduceIte, z_lit, z_m1, z_gd, z_le, z_lt, z_eq, z_em, z_me, z_ml, z_mle, z_lm, z_lem, z_pos, z_sub, nI_add, nI_clamp, ib_nI, pm_let, pm_bd, pm_b1, if_true, if_false, ite_true, ite_false, Nat.not_lt_zero, Nat.zero_le]
  rw [show V + (tbe t b - (b + 1) + tfb t (tbe t b) - tfb t (b + 1)) = V + (tbe t b + tfb t (tbe t b)) - (b + 1 + tfb t (b + 1)) by
    have := (TR_fb h (tbe t b - (b + 1)) (b + 1) (by omega)).1
    rw [show b + 1 + (tbe t b - (b + 1)) = tbe t b by omega] at this
    omega]
