/-! UNFOLD and EXPAND -/
theorem fn_ag {t : TT} {g : GG} {z V b h c : Nat} (hc : c < z) : fn (gA' t g z V b h) c = fn g c ∧ en t (gA' t g z V b h) c = en t g c ∧ gb (gA' t g z V b h) c = gb g c ∧ gl (gA' t g z V b h) c = gl g c ∧ gh (gA' t g z V b h) c = gh g c := by
  have e1 : gl (gA' t g z V b h) c = gl g c := by
    change fup (gl g) z b c = gl g c
    exact fup_ne (by omega)
  have e2 : gb (gA' t g z V b h) c = gb g c := by
    change fup (gb g) (z + 1) _ c = gb g c
    exact fup_ne (by omega)
  have e3 : gh (gA' t g z V b h) c = gh g c := by
    change fup (gh g) z h c = gh g c
    exact fup_ne (by omega)
  exact ⟨by unfold fn; rw [e1], by unfold en; rw [e1], e2, e1, e3⟩
theorem fn_z {t : TT} {g : GG} {z V b h : Nat} (hz : 1 ≤ z) : fn (gA' t g z V b h) z = b + 1 ∧ en t (gA' t g z V b h) z = tbe t b ∧ gl (gA' t g z V b h) z = b ∧ gh (gA' t g z V b h) z = h ∧ gb (gA' t g z V b h) z = gb g z ∧ gb (gA' t g z V b h) (z + 1) = V + sl t (tbe t b) - sl t (b + 1) := by
  have c0 : ¬ z = 0 := by omega
  have e1 : gl (gA' t g z V b h) z = b := by
    change fup (gl g) z b z = b
    exact fup_eq
  refine ⟨by unfold fn; rw [if_neg c0, e1], by unfold en; rw [if_neg c0, e1], e1, ?_, ?_, ?_⟩
  · change fup (gh g) z h z = h
    exact fup_eq
  · change fup (gb g) (z + 1) _ z = gb g z
    exact fup_ne (by omega)
  · change fup (gb g) (z + 1) _ (z + 1) = _
    exact fup_eq
theorem CP_add {s m : hp_S} {t : TT} {g : GG} {z V b h' : Nat} (h : TRt s m t) (hc : CP s m t g z V) (hb : b < tq t) (h5 : tkd t b = 5) (hz : z < 2000) (hh : h' < z) (hV : V + sl t (tbe t b) - sl t (b + 1) ≤ 2000) : CP (sAd t s z V b h') (mAd t m z V b h') t (gA' t g z V b h') (z + 1) (V + sl t (tbe t b) - sl t (b + 1)) := by
  obtain ⟨b1, b2, b3, b4, b5⟩ := let_b h hb h5
  obtain ⟨⟨c1, c2, c3, c4⟩, ⟨d1, d2, d3, d4⟩, e1, e2, e3, e4, e5⟩ := hc
  obtain ⟨z1, z2, z3, z4, z5, z6⟩ := fn_z (t := t) (g := g) (V := V) (b := b) (h := h') c1
  refine ⟨⟨by omega, by omega, by omega, hV⟩, ⟨?_, ?_, ?_, ?_⟩, ?_, fun c h1 h2 => ?_, fun c h1 => ?_, ?_, z6⟩
  · simp only [sAd, hs_I_pI, hs_I_pA, hs_A_pI, hs_A_pA, and_true, true_and, and_false, false_and, and_self, eq_self, Nat.reduceEqDiff, ↓reduceIte]
  · simp only [sAd, hs_I_pI, hs_I_pA, hs_A_pI, hs_A_pA, and_true, true_and, and_false, false_and, and_self, eq_self, Nat.reduceEqDiff, ↓reduceIte]
  · simp only [mAd, hs_I_pI, hs_I_pA, hs_A_pI, hs_A_pA, and_true, true_and, and_false, false_and, and_self, eq_self, Nat.reduceEqDiff, ↓reduceIte]
  · simp only [mAd, hs_I_pI, hs_I_pA, hs_A_pI, hs_A_pA, and_true, true_and, and_false, false_and, and_self, eq_self, Nat.reduceEqDiff, ↓reduceIte]
  · have : ¬ 0 = z := by omega
    simp only [sAd, hs_I_pI, hs_I_pA, hs_A_pI, hs_A_pA, and_true, true_and, and_false, false_and, and_self, eq_self, Nat.reduceEqDiff, ↓reduceIte, this]
    exact e1
  · by_cases q : c = z
    · subst q
      rw [z3, z4]
      simp only [sAd, mAd, hs_I_pI, hs_I_pA, hs_A_pI, hs_A_pA, and_true, true_and, and_false, false_and, and_self, eq_self, Nat.reduceEqDiff, ↓reduceIte]
      exact ⟨hb, h5, hh⟩
    · obtain ⟨f1, f2, f3, f4, f5⟩ := fn_ag (t := t) (g := g) (V := V) (b := b) (h := h') (show c < z by omega)
      rw [f4, f5]
      simp only [sAd, mAd, hs_I_pI, hs_I_pA, hs_A_pI, hs_A_pA, and_true, true_and, and_false, false_and, and_self, eq_self, Nat.reduceEqDiff, ↓reduceIte, q]
      exact e2 c h1 (by omega)
  · by_cases q : c = z
    · subst q
      rw [z1, z2, z5, z6, e5]
      simp only [sAd, mAd, hs_I_pI, hs_I_pA, hs_A_pI, hs_A_pA, and_true, true_and, and_false, false_and, and_self, eq_self, Nat.reduceEqDiff, ↓reduceIte]
    · obtain ⟨f1, f2, f3, f4, f5⟩ := fn_ag (t := t) (g := g) (V := V) (b := b) (h := h') (show c < z by omega)
      have f6 : gb (gA' t g z V b h') (c + 1) = gb g (c + 1) := by
        change fup (gb g) (z + 1) _ (c + 1) = gb g (c + 1)
        exact fup_ne (by omega)
      rw [f1, f2, f3, f6]
      simp only [sAd, mAd, hs_I_pI, hs_I_pA, hs_A_pI, hs_A_pA, and_true, true_and, and_false, false_and, and_self, eq_self, Nat.reduceEqDiff, ↓reduceIte, q]
      exact e3 c (by omega)
  · rw [(fn_ag (t := t) (g := g) (V := V) (b := b) (h := h') (show 0 < z by omega)).2.2.1]
    exact e4
theorem ho_ag {s m : hp_S} {t : TT} {g : GG} {z V V' b h x : Nat} (hc : CP s m t g z V) (hx : x < tq t) : ∀ n c, c < z → ho t (gA' t g z V' b h) x n c = ho t g x n c
  | 0, c, _ => rfl
  | n + 1, c, h1 => by
    obtain ⟨f1, f2, f3, f4, f5⟩ := fn_ag (t := t) (g := g) (V := V') (b := b) (h := h) h1
    simp only [ho, f1, f2, f5]
    by_cases q : fn g c ≤ x ∧ x < en t g c
    · rw [if_pos q, if_pos q]
    · rw [if_neg q, if_neg q]
      have c0 : c ≠ 0 := by
        intro e
        subst e
        exact q ⟨by simp [fn], by simp [en]; exact hx⟩
      have := (hc.2.2.2.1 c (by omega) h1).2.2.2.2.1
      exact ho_ag hc hx n (gh g c) (by omega)
theorem cv_ag {t : TT} {g : GG} {z V b h c k : Nat} (hc : c < z) : cv t (gA' t g z V b h) c k = cv t g c k := by
  obtain ⟨f1, f2, f3, f4, f5⟩ := fn_ag (t := t) (g := g) (V := V) (b := b) (h := h) hc
  unfold cv
  rw [f1, f3]
/-- which copy a let's name asked for -/
def ui (t : TT) (g : GG) (c k : Nat) : Nat := gu g c + (ln t k - ln t (fn g c))
/-- what a name's type is the same as -/
def TG (s : hp_S) (t : TT) (g : GG) (z c k : Nat) : Prop := tkd t k = 2 → (tkd t (tmn t k) = 4 → hs_A s 30 (cv t g c k) = nI (cv t g (HO t g (tmn t k) c) (tmn t k) + 1)) ∧ (tkd t (tmn t k) = 5 → 1 ≤ ui t g c k ∧ ui t g c k < z ∧ gl g (ui t g c k) = tmn t k ∧ hs_A s 30 (cv t g c k) = nI (cv t g (ui t g c k) (tch t 0 (tmn t k))))
theorem TG_ag {s m s' : hp_S} {t : TT} {g : GG} {z V V' b h c k : Nat} (hT : TRt s m t) (hc : CP s m t g z V) (hcz : c < z) (hk : k < tq t) (hg : TG s t g z c k) (h30 : hs_A s' 30 (cv t g c k) = hs_A s 30 (cv t g c k)) : TG s' t (gA' t g z V' b h) (z + 1) c k := by
  intro h2
  obtain ⟨g1, g2⟩ := hg h2
  have mk := (hT.2.2.2.2.2.1 k hk h2).1
  obtain ⟨f1, f2, f3, f4, f5⟩ := fn_ag (t := t) (g := g) (V := V') (b := b) (h := h) hcz
  have eu : ui t (gA' t g z V' b h) c k = ui t g c k := by
    unfold ui
    rw [f1]
    rfl
  rw [eu, cv_ag hcz, h30]
  refine ⟨fun h4 => ?_, fun h5 => ?_⟩
  · have hh := HO_ok hT hc mk hcz
    have e : HO t (gA' t g z V' b h) (tmn t k) c = HO t g (tmn t k) c := ho_ag hc mk c c hcz
    rw [e, cv_ag (by omega)]
    exact g1 h4
  · obtain ⟨a1, a2, a3, a4⟩ := g2 h5
    obtain ⟨f1, f2, f3, f4, f5⟩ := fn_ag (t := t) (g := g) (V := V') (b := b) (h := h) a2
    rw [f4, cv_ag a2]
    exact ⟨a1, by omega, a3, a4⟩
def uP : List (Nat × Nat) := [(26, 6), (26, 7)]
def uA : List Nat := [27, 28, 29, 30]
def vP : List (Nat × Nat) := [(0, 28), (0, 32)]
def vA : List Nat := [20, 21, 22]
theorem F_sAd {t : TT} {s : hp_S} {z V b h : Nat} : hs_fr uP uA s (sAd t s z V b h) := by
  unfold sAd
  exact ((hs_fr_pA (by decide)).cons (hs_fr_pA (by decide))).cons ((hs_fr_pA (by decide)).cons ((hs_fr_pI (by decide)).cons (hs_fr_pI (by decide))))
theorem F_mAd {t : TT} {m : hp_S} {z V b h : Nat} : hs_fr vP vA m (mAd t m z V b h) := by
  unfold mAd
  exact ((hs_fr_pA (by decide)).cons (hs_fr_pA (by decide))).cons ((hs_fr_pA (by decide)).cons ((hs_fr_pI (by decide)).cons (hs_fr_pI (by decide))))
theorem TRt_u {s m s' m' : hp_S} {t : TT} (h : TRt s m t) (f : hs_fr uP uA s s') (f' : hs_fr vP vA m m') : TRt s' m' t := TRt_fr h f f' (by decide) (by decide)
theorem C_mean17 {s : hp_S} {k : Nat} (hk : k < 100) : f_C_X2_meaning_17 (nI k) s = some (hs_A s 22 k, s) := by
  unfold f_C_X2_meaning_17
  simp (disch := omega) only [↓reduceIte, z_lit, z_m1, z_gd, z_le, z_lt, z_eq, z_em, z_me, z_ml, z_mle, z_lm, z_lem, z_pos, z_sub, nI_add, nI_clamp, ib_nI, pm_let, pm_bd, pm_b1, if_true, if_false, ite_true, ite_false, Nat.not_lt_zero, Nat.zero_le, C_holds17 hk]
  all_goals simp
theorem C_fst17 {s : hp_S} {k : Nat} (hk : k < 100) : f_C_X2_first_17 (nI k) s = some (hs_A s 19 k, s) := by
  unfold f_C_X2_first_17
  simp (disch := omega) only [↓reduceIte, z_lit, z_m1, z_gd, z_le, z_lt, z_eq, z_em, z_me, z_ml, z_mle, z_lm, z_lem, z_pos, z_sub, nI_add, nI_clamp, ib_nI, pm_let, pm_bd, pm_b1, if_true, if_false, ite_true, ite_false, Nat.not_lt_zero, Nat.zero_le, C_holds17 hk]
  all_goals simp
theorem C_followF {s m : hp_S} {t : TT} {g : GG} {z V c k F : Nat} (h : TRt s m t) (hc : CP s m t g z V) (hcz : c < z) (h1 : fn g c ≤ k) (h2 : k < en t g c) (hk : tkd t k = 2) (h4 : tkd t (tmn t k) = 4) (hF : 2001 ≤ F) : f_C_X1_follow_26 F (nI c) (nI k) s = some (nI 1, hs_pA s 30 (cv t g c k) (nI (cv t g (HO t g (tmn t k) c) (tmn t k) + 1))) := by
  obtain ⟨r1, r2⟩ := CP_rng h hc hcz
  have q1 := h.1.2
  obtain ⟨m1, m2, m3, m4⟩ := h.2.2.2.2.2.1 k (by omega) hk
  have kb := (h.2.2.2.1 _ m1).2.1
  obtain ⟨o1, o2, o3⟩ := HO_ok h hc m1 hcz
  have e1 := C_homeOf h hc m1 hcz hF
  have e2 := C_variable h hc (show HO t g (tmn t k) c < z by omega) o1 o2
  have e3 := C_variable h hc hcz h1 h2
  have w := hc.1.2.2.2
  obtain ⟨-, -, -, v1, v2, -⟩ := cv_in h hc hcz h1 h2
  obtain ⟨-, -, -, v3, v4, v5⟩ := cv_in h hc (show HO t g (tmn t k) c < z by omega) o1 o2
  have c1 : ¬ 2000 ≤ cv t g c k := by omega
  unfold f_C_X1_follow_26
  simp (disch := omega) only [↓reduceIte, z_lit, z_m1, z_gd, z_le, z_lt, z_eq, z_em, z_me, z_ml, z_mle, z_lm, z_lem, z_pos, z_sub, nI_add, nI_clamp, ib_nI, pm_let, pm_bd, pm_b1, if_true, if_false, ite_true, ite_false, Nat.not_lt_zero, Nat.zero_le, C_mean17 (show k < 100 by omega), m3, e1, C_kind17 (show tmn t k < 100 by omega), kb, h4, e2, e3, c1]
theorem C_followL {s m : hp_S} {t : TT} {g : GG} {z V c k F : Nat} (h : TRt s m t) (hc : CP s m t g z V) (hcz : c < z) (h1 : fn g c ≤ k) (h2 : k < en t g c) (hk : tkd t k = 2) (h5 : tkd t (tmn t k) = 5) (hF : 2001 ≤ F) (hz : z < 2000) (hV : V + sl t (tbe t (tmn t k)) - sl t (tmn t k + 1) ≤ 2000) : f_C_X1_follow_26 F (nI c) (nI k) s = some (nI 1, hs_pA (sAd t s z V (tmn t k) (HO t g (tmn t k) c)) 30 (cv t g c k) (nI (cv t (gA' t g z V (tmn t k) (HO t g (tmn t k) c)) z (tch t 0 (tmn t k))))) := by
  obtain ⟨r1, r2⟩ := CP_rng h hc hcz
  have q1 := h.1.2
  obtain ⟨m1, m2, m3, m4⟩ := h.2.2.2.2.2.1 k (by omega) hk
  have kb := (h.2.2.2.1 _ m1).2.1
  obtain ⟨o1, o2, o3⟩ := HO_ok h hc m1 hcz
  have e1 := C_homeOf h hc m1 hcz hF
  have ea := C_addZ (h' := HO t g (tmn t k) c) h hc m1 h5 hz
  rw [if_neg (by omega)] at ea
  have h' : TRt (sAd t s z V (tmn t k) (HO t g (tmn t k) c)) (mAd t m z V (tmn t k) (HO t g (tmn t k) c)) t := TRt_u h F_sAd F_mAd
  have hc' := CP_add (h' := HO t g (tmn t k) c) h hc m1 h5 hz (by omega) hV
  obtain ⟨z1, z2, z3, z4, z5, z6⟩ := fn_z (t := t) (g := g) (V := V) (b := tmn t k) (h := HO t g (tmn t k) c) hc.1.1
  obtain ⟨f1, f2, f3, f4, f5⟩ := fn_ag (t := t) (g := g) (V := V) (b := tmn t k) (h := HO t g (tmn t k) c) hcz
  obtain ⟨l1, l2, l3, l4, l5, -⟩ := h.2.2.2.2.2.2.2.1 _ m1 h5
  have e3 := C_variable h' hc' (show c < z + 1 by omega) (by rw [f1]; exact h1) (by rw [f2]; exact h2)
  rw [cv_ag hcz] at e3
  have ch0 := h'.2.2.2.2.1 _ m1 0 (by rw [h5]; decide)
  have e4 := C_variable h' hc' (show z < z + 1 by omega) (by rw [z1]; exact l4.1) (by rw [z2]; exact l4.2)
  have w := hc.1.2.2.2
  obtain ⟨-, -, -, v1, v2, -⟩ := cv_in h hc hcz h1 h2
  obtain ⟨-, -, -, v3, v4, v5⟩ := cv_in h' hc' (show z < z + 1 by omega) (by rw [z1]; exact l4.1) (by rw [z2]; exact l4.2)
  have c1 : ¬ 2000 ≤ cv t g c k := by omega
  have e6 : hs_I (sAd t s z V (tmn t k) (HO t g (tmn t k) c)) 26 6 = nI (z + 1) := by simp only [sAd, hs_I_pI, hs_I_pA, hs_A_pI, hs_A_pA, and_true, true_and, and_false, false_and, and_self, eq_self, Nat.reduceEqDiff, ↓reduceIte]
  have c19 : hs_A (sAd t s z V (tmn t k) (HO t g (tmn t k) c)) 19 (tmn t k) = nI (tch t 0 (tmn t k)) := ch0.2.1
  unfold f_C_X1_follow_26
  simp (disch := omega) only [↓reduceIte, z_lit, z_m1, z_gd, z_le, z_lt, z_eq, z_em, z_me, z_ml, z_mle, z_lm, z_lem, z_pos, z_sub, nI_add, nI_clamp, ib_nI, pm_let, pm_bd, pm_b1, if_true, if_false, ite_true, ite_false, Nat.not_lt_zero, Nat.zero_le, C_mean17 (show k < 100 by omega), m3, e1, C_kind17 (show tmn t k < 100 by omega), kb, h5, ea, C_fst17 (show tmn t k < 100 by omega), c19, e6, Nat.add_sub_cancel, e4, e3, c1]
  all_goals simp
theorem C_followN {s m : hp_S} {t : TT} {g : GG} {z V c k F : Nat} (h : TRt s m t) (hc : CP s m t g z V) (hcz : c < z) (h2 : k < en t g c) (hk : tkd t k = 2) (h5 : tkd t (tmn t k) = 5) (hF : 2001 ≤ F) (hV : 2000 < V + sl t (tbe t (tmn t k)) - sl t (tmn t k + 1)) : f_C_X1_follow_26 F (nI c) (nI k) s = some (nI 0, if z < 2000 then sAd t s z V (tmn t k) (HO t g (tmn t k) c) else s) := by
  obtain ⟨r1, r2⟩ := CP_rng h hc hcz
  have q1 := h.1.2
  obtain ⟨m1, m2, m3, m4⟩ := h.2.2.2.2.2.1 k (by omega) hk
  have kb := (h.2.2.2.1 _ m1).2.1
  have e1 := C_homeOf h hc m1 hcz hF
  unfold f_C_X1_follow_26
  by_cases hz : z < 2000
  · have ea := C_addZ (h' := HO t g (tmn t k) c) h hc m1 h5 hz
    rw [if_pos hV] at ea
    simp (disch := omega) only [↓reduceIte, z_lit, z_m1, z_gd, z_le, z_lt, z_eq, z_em, z_me, z_ml, z_mle, z_lm, z_lem, z_pos, z_sub, nI_add, nI_clamp, ib_nI, pm_let, pm_bd, pm_b1, if_true, if_false, ite_true, ite_false, Nat.not_lt_zero, Nat.zero_le, C_mean17 (show k < 100 by omega), m3, e1, C_kind17 (show tmn t k < 100 by omega), kb, h5, ea, hz]
    all_goals simp
  · have ea : f_C_X1_add_26 (nI (tmn t k)) (nI (HO t g (tmn t k) c)) s = some (nI 0, s) := by
      have := hc.1.2.1
      unfold f_C_X1_add_26
      simp (disch := omega) only [↓reduceIte, z_lit, z_m1, z_gd, z_le, z_lt, z_eq, z_em, z_me, z_ml, z_mle, z_lm, z_lem, z_pos, z_sub, nI_add, nI_clamp, ib_nI, pm_let, pm_bd, pm_b1, if_true, if_false, ite_true, ite_false, Nat.not_lt_zero, Nat.zero_le, hc.2.1.1, hz]
    simp (disch := omega) only [↓reduceIte, z_lit, z_m1, z_gd, z_le, z_lt, z_eq, z_em, z_me, z_ml, z_mle, z_lm, z_lem, z_pos, z_sub, nI_add, nI_clamp, ib_nI, pm_let, pm_bd, pm_b1, if_true, if_false, ite_true, ite_false, Nat.not_lt_zero, Nat.zero_le, C_mean17 (show k < 100 by omega), m3, e1, C_kind17 (show tmn t k < 100 by omega), kb, h5, ea, hz]
    all_goals simp
/-! the reference's step -/
theorem rk_33 {s m : hp_S} {t : TT} (h : TRt s m t) {k : Nat} (hk : k < tq t) : (rk (tkd t) (tmn t) k = 33 ↔ tkd t k = 2 ∧ tkd t (tmn t k) = 5) ∧ rk (tkd t) (tmn t) k < 40 := by
  have h1 := (h.2.2.2.1 k hk).1
  have h2 := kn_nk h1
  unfold rk
  by_cases c : tkd t k = 2
  · obtain ⟨-, m2, -⟩ := h.2.2.2.2.2.1 k hk c
    rw [if_pos c]
    by_cases c4 : tkd t (tmn t k) = 4
    · rw [if_pos c4]; omega
    · rw [if_neg c4]; omega
  · rw [if_neg c]
    have : kn (tkd t k) ≠ 33 := by
      simp only [nk, List.mem_cons, List.not_mem_nil, or_false] at h1
      rcases h1 with e | e | e | e | e | e | e | e | e | e | e | e | e | e <;> rw [e] <;> decide
    omega
theorem M_expN {s m : hp_S} {t : TT} {g : GG} {z V c k F : Nat} {K : Int32 → hp_S → Option (Int32 × hp_S)} (h : TRt s m t) (hc : CP s m t g z V) (hcz : c < z) (h2 : k < en t g c) (hk : ¬ (tkd t k = 2 ∧ tkd t (tmn t k) = 5)) (hF : 102 ≤ F) : l_M_X11_expand_0_48 K (F + 1) (nI c) (nI k) m = l_M_X11_expand_0_48 K F (nI c) (nI (k + 1)) m := by
  obtain ⟨r1, r2⟩ := CP_rng h hc hcz
  have q1 := h.1.2
  obtain ⟨a1, a2, a3, a4, a5, a6⟩ := h.2.2.2.1 k (by omega)
  obtain ⟨b1, b2⟩ := rk_33 h (show k < tq t by omega)
  have c33 : ¬ rk (tkd t) (tmn t) k = 33 := fun q => hk (b1.mp q)
  have V2 := hc.1.2.2.2
  have z2 := hc.1.2.1
  have c1 : ¬ en t g c ≤ k := by omega
  have c2 : ¬ 2000 < V := by omega
  rw [l_M_X11_expand_0_48.eq_2]
  simp (disch := omega) only [↓reduceIte, z_lit, z_m1, z_gd, z_le, z_lt, z_eq, z_em, z_me, z_ml, z_mle, z_lm, z_lem, z_pos, z_sub, nI_add, nI_clamp, ib_nI, pm_let, pm_bd, pm_b1, if_true, if_false, ite_true, ite_false, Nat.not_lt_zero, Nat.zero_le, M_high h hc hcz hF, c1, hc.2.1.2.2.2, c2, a4, a6, c33]
theorem M_expL {s m : hp_S} {t : TT} {g : GG} {z V c k F : Nat} {K : Int32 → hp_S → Option (Int32 × hp_S)} (h : TRt s m t) (hc : CP s m t g z V) (hcz : c < z) (h2 : k < en t g c) (hk : tkd t k = 2) (h5 : tkd t (tmn t k) = 5) (hF : 2001 ≤ F) : l_M_X11_expand_0_48 K (F + 1) (nI c) (nI k) m = l_M_X11_expand_0_48 K F (nI c) (nI (k + 1)) (mAd t m z V (tmn t k) (HO t g (tmn t k) c)) := by
  obtain ⟨r1, r2⟩ := CP_rng h hc hcz
  have q1 := h.1.2
  obtain ⟨m1, m2, m3, m4⟩ := h.2.2.2.2.2.1 k (by omega) hk
  obtain ⟨a1, a2, a3, a4, a5, a6⟩ := h.2.2.2.1 k (by omega)
  obtain ⟨b1, b2⟩ := rk_33 h (show k < tq t by omega)
  rw [b1.mpr ⟨hk, h5⟩] at a6
  have V2 := hc.1.2.2.2
  have z2 := hc.1.2.1
  have c1 : ¬ en t g c ≤ k := by omega
  have c2 : ¬ 2000 < V := by omega
  have nb := TR_nd h m1
  -- the chain doesn't see the new entry
  obtain ⟨mX, hmX⟩ : ∃ mX, mX = hs_pA m 20 z (nI (tnd t (tmn t k))) := ⟨_, rfl⟩
  have hX : TRt s mX t := by
    rw [hmX]
    exact TRt_fr (P := []) (A := []) (P' := []) (A' := [20]) h hs_fr.rf (hs_fr_pA (by decide)) (by simp) (by simp)
  have cX : CP s mX t g z V := by
    obtain ⟨h1, ⟨h2a, h2b, h2c, h2d⟩, h3, h4, h5', h6⟩ := hc
    refine ⟨h1, ⟨h2a, h2b, ?_, ?_⟩, h3, fun c' e1 e2 => ?_, fun c' e1 => ?_, h6⟩
    · rw [hmX]; simp only [hs_I_pI, hs_I_pA, hs_A_pI, hs_A_pA, and_true, true_and, and_false, false_and, and_self, eq_self, Nat.reduceEqDiff, ↓reduceIte]; exact h2c
    · rw [hmX]; simp only [hs_I_pI, hs_I_pA, hs_A_pI, hs_A_pA, and_true, true_and, and_false, false_and, and_self, eq_self, Nat.reduceEqDiff, ↓reduceIte]; exact h2d
    · have : ¬ c' = z := by omega
      rw [hmX]; simp only [hs_I_pI, hs_I_pA, hs_A_pI, hs_A_pA, and_true, true_and, and_false, false_and, and_self, eq_self, Nat.reduceEqDiff, ↓reduceIte, this]; exact h4 c' e1 e2
    · rw [hmX]; simp only [hs_I_pI, hs_I_pA, hs_A_pI, hs_A_pA, and_true, true_and, and_false, false_and, and_self, eq_self, Nat.reduceEqDiff, ↓reduceIte]; exact h5' c' e1
  have ew := M_copyWith hX cX m1 hcz hF
  have eo := M_openZ (h' := HO t g (tmn t k) c) h hc m1 h5 (show 102 ≤ F by omega)
  rw [← hmX] at eo
  have m19 : hs_A mX 19 (tnd t k) = nI (tnd t (tmn t k)) := by rw [hmX]; simp only [hs_I_pI, hs_I_pA, hs_A_pI, hs_A_pA, and_true, true_and, and_false, false_and, and_self, eq_self, Nat.reduceEqDiff, ↓reduceIte]; exact m4
  have x28 : hs_I mX 0 28 = nI z := cX.2.1.2.2.1
  rw [l_M_X11_expand_0_48.eq_2]
  simp (disch := omega) only [↓reduceIte, z_lit, z_m1, z_gd, z_le, z_lt, z_eq, z_em, z_me, z_ml, z_mle, z_lm, z_lem, z_pos, z_sub, nI_add, nI_clamp, ib_nI, pm_let, pm_bd, pm_b1, if_true, if_false, ite_true, ite_false, Nat.not_lt_zero, Nat.zero_le, M_high h hc hcz (show 102 ≤ F by omega), c1, hc.2.1.2.2.2, c2, a4, a6, m4, hc.2.1.2.2.1, hs_I_pI, hs_I_pA, hs_A_pI, hs_A_pA, and_true, true_and, and_false, false_and, and_self, eq_self, Nat.reduceEqDiff, ↓reduceIte]
  rw [← hmX]
  simp (disch := omega) only [↓reduceIte, z_lit, z_m1, z_gd, z_le, z_lt, z_eq, z_em, z_me, z_ml, z_mle, z_lm, z_lem, z_pos, z_sub, nI_add, nI_clamp, ib_nI, pm_let, pm_bd, pm_b1, if_true, if_false, ite_true, ite_false, Nat.not_lt_zero, Nat.zero_le, hs_I_pI, hs_I_pA, hs_A_pI, hs_A_pA, and_true, true_and, and_false, false_and, and_self, eq_self, Nat.reduceEqDiff, ↓reduceIte, ew, x28, eo, mAd, m19]
  rw [← hmX]
