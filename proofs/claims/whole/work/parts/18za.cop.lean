/-! COPIES: what both know of them -/
def TT : Type := Nat × (Nat → Nat) × (Nat → Nat) × (Nat → Nat) × (Nat → Nat) × (Nat → Nat) × (Nat → Nat → Nat)
def tq (t : TT) : Nat := t.1
def tkd (t : TT) : Nat → Nat := t.2.1
def tmn (t : TT) : Nat → Nat := t.2.2.1
def tbe (t : TT) : Nat → Nat := t.2.2.2.1
def tnd (t : TT) : Nat → Nat := t.2.2.2.2.1
def tfb (t : TT) : Nat → Nat := t.2.2.2.2.2.1
def tch (t : TT) : Nat → Nat → Nat := t.2.2.2.2.2.2
def TRt (s m : hp_S) (t : TT) : Prop := TR s m (tq t) (tkd t) (tmn t) (tbe t) (tnd t) (tfb t) (tch t)
def GG : Type := (Nat → Nat) × (Nat → Nat) × (Nat → Nat) × (Nat → Nat)
def gl (g : GG) : Nat → Nat := g.1
def gh (g : GG) : Nat → Nat := g.2.1
def gb (g : GG) : Nat → Nat := g.2.2.1
def gu (g : GG) : Nat → Nat := g.2.2.2
def fn (g : GG) (c : Nat) : Nat := if c = 0 then 0 else gl g c + 1
def en (t : TT) (g : GG) (c : Nat) : Nat := if c = 0 then tq t else tbe t (gl g c)
def sl (t : TT) (k : Nat) : Nat := k + tfb t k
def cv (t : TT) (g : GG) (c k : Nat) : Nat := gb g c + sl t k - sl t (fn g c)
def rv (g : GG) (c k : Nat) : Nat := gb g c + k - fn g c
def rn' (t : TT) (g : GG) (c k : Nat) : Nat := gb g c + (en t g c - fn g c) + tfb t k - tfb t (fn g c)
def ho (t : TT) (g : GG) (b : Nat) : Nat → Nat → Nat
  | 0, c => c
  | n + 1, c => if fn g c ≤ b ∧ b < en t g c then c else ho t g b n (gh g c)
def HO (t : TT) (g : GG) (b c : Nat) : Nat := ho t g b c c
def ln (t : TT) : Nat → Nat
  | 0 => 0
  | k + 1 => ln t k + if tkd t k = 2 ∧ tkd t (tmn t k) = 5 then 1 else 0
def CP (s m : hp_S) (t : TT) (g : GG) (z V : Nat) : Prop :=
  (1 ≤ z ∧ z ≤ 2000 ∧ z ≤ V ∧ V ≤ 2000) ∧ (hs_I s 26 6 = nI z ∧ hs_I s 26 7 = nI V ∧ hs_I m 0 28 = nI z ∧ hs_I m 0 32 = nI V) ∧ hs_A s 27 0 = nM ∧
  (∀ c, 1 ≤ c → c < z → gl g c < tq t ∧ tkd t (gl g c) = 5 ∧ hs_A s 27 c = nI (gl g c) ∧ hs_A m 20 c = nI (tnd t (gl g c)) ∧ gh g c < c ∧ hs_A s 29 c = nI (gh g c) ∧ hs_A m 21 c = nI (gh g c)) ∧
  (∀ c, c < z → hs_A s 28 c = nI (gb g c) ∧ hs_A m 22 c = nI (gb g c) ∧ gb g (c + 1) = gb g c + sl t (en t g c) - sl t (fn g c)) ∧ gb g 0 = 0 ∧ gb g z = V
theorem TR_fb {s m : hp_S} {t : TT} (h : TRt s m t) : ∀ (d k : Nat), k + d ≤ tq t → tfb t k ≤ tfb t (k + d) ∧ tfb t (k + d) ≤ tfb t k + d
  | 0, k, _ => ⟨Nat.le_refl _, Nat.le_refl _⟩
  | d + 1, k, hk => by
    obtain ⟨h1, h2⟩ := TR_fb h d k (by omega)
    have := h.2.2.2.2.2.2.1.2.1 (k + d) (by omega)
    rw [← Nat.add_assoc, this]
    split <;> omega
theorem sl_lt {s m : hp_S} {t : TT} (h : TRt s m t) {i j : Nat} (hij : i < j) (hj : j ≤ tq t) : sl t i < sl t j := by
  have := TR_fb h (j - i) i (by omega)
  rw [show i + (j - i) = j by omega] at this
  unfold sl
  omega
theorem sl_le {s m : hp_S} {t : TT} (h : TRt s m t) {i j : Nat} (hij : i ≤ j) (hj : j ≤ tq t) : sl t i ≤ sl t j := by
  rcases Nat.lt_or_eq_of_le hij with g | g
  · exact Nat.le_of_lt (sl_lt h g hj)
  · rw [g]; exact Nat.le_refl _
theorem sl_b {s m : hp_S} {t : TT} (h : TRt s m t) {i : Nat} (hi : i ≤ tq t) : i ≤ sl t i ∧ sl t i ≤ 200 ∧ tfb t i ≤ i := by
  have := TR_fb h i 0 (by omega)
  rw [Nat.zero_add, h.2.2.2.2.2.2.1.1] at this
  have := h.1.2
  unfold sl
  omega
/-- a copy's nodes -/
theorem CP_rng {s m : hp_S} {t : TT} {g : GG} {z V c : Nat} (h : TRt s m t) (hc : CP s m t g z V) (hcz : c < z) : fn g c < en t g c ∧ en t g c ≤ tq t := by
  unfold fn en
  by_cases c0 : c = 0
  · rw [if_pos c0, if_pos c0]
    have := h.1
    omega
  · rw [if_neg c0, if_neg c0]
    obtain ⟨a1, a2, -⟩ := hc.2.2.2.1 c (by omega) hcz
    obtain ⟨b1, b2, -⟩ := h.2.2.2.2.2.2.2.1 _ a1 a2
    omega
theorem CP_bs {s m : hp_S} {t : TT} {g : GG} {z V c : Nat} (h : TRt s m t) (hc : CP s m t g z V) (hcz : c < z) : gb g c + (sl t (en t g c) - sl t (fn g c)) = gb g (c + 1) ∧ sl t (fn g c) < sl t (en t g c) := by
  obtain ⟨r1, r2⟩ := CP_rng h hc hcz
  have := sl_lt h r1 r2
  have := (hc.2.2.2.2.1 c hcz).2.2
  omega
theorem CP_mono {s m : hp_S} {t : TT} {g : GG} {z V : Nat} (h : TRt s m t) (hc : CP s m t g z V) : ∀ (d c : Nat), c + d ≤ z → gb g c ≤ gb g (c + d)
  | 0, c, _ => Nat.le_refl _
  | d + 1, c, hd => by
    have h1 := CP_mono h hc d c (by omega)
    have h2 := (CP_bs h hc (show c + d < z by omega)).1
    rw [← Nat.add_assoc, ← h2]
    omega
theorem CP_le {s m : hp_S} {t : TT} {g : GG} {z V c : Nat} (h : TRt s m t) (hc : CP s m t g z V) (hcz : c ≤ z) : gb g c ≤ V := by
  have := CP_mono h hc (z - c) c (by omega)
  rw [show c + (z - c) = z by omega, hc.2.2.2.2.2.2] at this
  exact this
/-- a node's variable lies in its copy's row -/
theorem cv_in {s m : hp_S} {t : TT} {g : GG} {z V c k : Nat} (h : TRt s m t) (hc : CP s m t g z V) (hcz : c < z) (h1 : fn g c ≤ k) (h2 : k < en t g c) : cv t g c k = gb g c + (sl t k - sl t (fn g c)) ∧ sl t (fn g c) ≤ sl t k ∧ gb g c ≤ cv t g c k ∧ cv t g c k < gb g (c + 1) ∧ gb g (c + 1) ≤ V ∧ (tkd t k = 4 → cv t g c k + 1 < gb g (c + 1)) := by
  obtain ⟨r1, r2⟩ := CP_rng h hc hcz
  obtain ⟨b1, b2⟩ := CP_bs h hc hcz
  have s1 := sl_le h h1 (by omega)
  have s2 := sl_lt h h2 r2
  have b3 := CP_le h hc (show c + 1 ≤ z by omega)
  unfold cv
  refine ⟨by omega, s1, by omega, by omega, b3, fun h4 => ?_⟩
  have e := h.2.2.2.2.2.2.1.2.1 k (by omega)
  rw [if_pos h4] at e
  have s3 := sl_le h (show k + 1 ≤ en t g c by omega) r2
  unfold sl at s1 s2 s3 b1 ⊢
  omega
theorem cv_inj {s m : hp_S} {t : TT} {g : GG} {z V c k c' k' : Nat} (h : TRt s m t) (hc : CP s m t g z V) (hcz : c < z) (h1 : fn g c ≤ k) (h2 : k < en t g c) (hcz' : c' < z) (h1' : fn g c' ≤ k') (h2' : k' < en t g c') (e : cv t g c k = cv t g c' k') : c = c' ∧ k = k' := by
  obtain ⟨a1, a2, a3, a4, -⟩ := cv_in h hc hcz h1 h2
  obtain ⟨b1, b2, b3, b4, -⟩ := cv_in h hc hcz' h1' h2'
  have hcc : c = c' := by
    rcases Nat.lt_trichotomy c c' with q | q | q
    · have := CP_mono h hc (c' - (c + 1)) (c + 1) (by omega)
      rw [show c + 1 + (c' - (c + 1)) = c' by omega] at this
      omega
    · exact q
    · have := CP_mono h hc (c - (c' + 1)) (c' + 1) (by omega)
      rw [show c' + 1 + (c - (c' + 1)) = c by omega] at this
      omega
  subst hcc
  refine ⟨rfl, ?_⟩
  have r2 := (CP_rng h hc hcz).2
  rcases Nat.lt_trichotomy k k' with q | q | q
  · have := sl_lt h q (by omega); omega
  · exact q
  · have := sl_lt h q (by omega); omega
/-! the class's rows of copies -/
theorem C_isCopy {s : hp_S} {c z : Nat} (h6 : hs_I s 26 6 = nI z) (hc : c < z) (hz : z ≤ 2000) : f_C_X1_isCopy_26 (nI c) s = some (nI 1, s) := by
  unfold f_C_X1_isCopy_26
  have c1 : ¬ z ≤ c := by omega
  have c2 : ¬ 2000 ≤ c := by omega
  simp (disch := omega) only [↓reduceIte, z_lit, z_m1, z_gd, z_le, z_lt, z_eq, z_em, z_me, z_ml, z_mle, z_lm, z_lem, z_pos, z_sub, nI_add, nI_clamp, ib_nI, pm_let, pm_bd, pm_b1, if_true, if_false, ite_true, ite_false, Nat.not_lt_zero, Nat.zero_le, h6, c1, c2]
theorem C_slot {s : hp_S} {k : Nat} (hk : k ≤ 100) : f_C_X7_slot_16 (nI k) s = some (hs_A s 24 k, s) := by
  unfold f_C_X7_slot_16
  have c1 : ¬ 100 < k := by omega
  simp (disch := omega) only [↓reduceIte, z_lit, z_m1, z_gd, z_le, z_lt, z_eq, z_em, z_me, z_ml, z_mle, z_lm, z_lem, z_pos, z_sub, nI_add, nI_clamp, ib_nI, pm_let, pm_bd, pm_b1, if_true, if_false, ite_true, ite_false, Nat.not_lt_zero, Nat.zero_le, c1]
theorem C_firstNode {s m : hp_S} {t : TT} {g : GG} {z V c : Nat} (h : TRt s m t) (hc : CP s m t g z V) (hcz : c < z) : f_C_X1_firstNode_26 (nI c) s = some (nI (fn g c), s) := by
  have z2 := hc.1.2.1
  have q1 := h.1.2
  unfold f_C_X1_firstNode_26 fn
  by_cases c0 : c = 0
  · subst c0
    simp (disch := omega) only [↓reduceIte, z_lit, z_m1, z_gd, z_le, z_lt, z_eq, z_em, z_me, z_ml, z_mle, z_lm, z_lem, z_pos, z_sub, nI_add, nI_clamp, ib_nI, pm_let, pm_bd, pm_b1, if_true, if_false, ite_true, ite_false, Nat.not_lt_zero, Nat.zero_le, C_isCopy hc.2.1.1 hcz z2, hc.2.2.1]
    simp
    rfl
  · obtain ⟨a1, a2, a3, -⟩ := hc.2.2.2.1 c (by omega) hcz
    simp (disch := omega) only [↓reduceIte, z_lit, z_m1, z_gd, z_le, z_lt, z_eq, z_em, z_me, z_ml, z_mle, z_lm, z_lem, z_pos, z_sub, nI_add, nI_clamp, ib_nI, pm_let, pm_bd, pm_b1, if_true, if_false, ite_true, ite_false, Nat.not_lt_zero, Nat.zero_le, C_isCopy hc.2.1.1 hcz z2, a3, c0]
    simp
theorem C_endNode {s m : hp_S} {t : TT} {g : GG} {z V c : Nat} (h : TRt s m t) (hc : CP s m t g z V) (hcz : c < z) : f_C_X1_endNode_26 (nI c) s = some (nI (en t g c), s) := by
  have z2 := hc.1.2.1
  have q1 := h.1.2
  unfold f_C_X1_endNode_26 en f_C_X7_size_16
  by_cases c0 : c = 0
  · subst c0
    simp (disch := omega) only [↓reduceIte, z_lit, z_m1, z_gd, z_le, z_lt, z_eq, z_em, z_me, z_ml, z_mle, z_lm, z_lem, z_pos, z_sub, nI_add, nI_clamp, ib_nI, pm_let, pm_bd, pm_b1, if_true, if_false, ite_true, ite_false, Nat.not_lt_zero, Nat.zero_le, C_isCopy hc.2.1.1 hcz z2, hc.2.2.1, h.2.1]
    simp
  · obtain ⟨a1, a2, a3, -⟩ := hc.2.2.2.1 c (by omega) hcz
    obtain ⟨-, -, b3, -⟩ := h.2.2.2.2.2.2.2.1 _ a1 a2
    have eb : f_C_X7_boundEnd_16 (nI (gl g c)) s = some (nI (tbe t (gl g c)), s) := by
      unfold f_C_X7_boundEnd_16
      have c1 : ¬ 100 ≤ gl g c := by omega
      simp (disch := omega) only [↓reduceIte, z_lit, z_m1, z_gd, z_le, z_lt, z_eq, z_em, z_me, z_ml, z_mle, z_lm, z_lem, z_pos, z_sub, nI_add, nI_clamp, ib_nI, pm_let, pm_bd, pm_b1, if_true, if_false, ite_true, ite_false, Nat.not_lt_zero, Nat.zero_le, c1, b3]
    simp (disch := omega) only [↓reduceIte, z_lit, z_m1, z_gd, z_le, z_lt, z_eq, z_em, z_me, z_ml, z_mle, z_lm, z_lem, z_pos, z_sub, nI_add, nI_clamp, ib_nI, pm_let, pm_bd, pm_b1, if_true, if_false, ite_true, ite_false, Nat.not_lt_zero, Nat.zero_le, C_isCopy hc.2.1.1 hcz z2, a3, eb, c0]
    simp
theorem TR_sl {s m : hp_S} {t : TT} (h : TRt s m t) {k : Nat} (hk : k ≤ tq t) : hs_A s 24 k = nI (sl t k) := (h.2.2.2.2.2.2.1.2.2 k hk).1
theorem C_variable {s m : hp_S} {t : TT} {g : GG} {z V c k : Nat} (h : TRt s m t) (hc : CP s m t g z V) (hcz : c < z) (h1 : fn g c ≤ k) (h2 : k < en t g c) : f_C_X1_variable_26 (nI c) (nI k) s = some (nI (cv t g c k), s) := by
  have z2 := hc.1.2.1
  have V2 := hc.1.2.2.2
  obtain ⟨r1, r2⟩ := CP_rng h hc hcz
  have q1 := h.1.2
  obtain ⟨a1, a2, a3, a4, a5, -⟩ := cv_in h hc hcz h1 h2
  have b1 := (sl_b h (show k ≤ tq t by omega)).2.1
  have b2 := (sl_b h (show fn g c ≤ tq t by omega)).2.1
  unfold f_C_X1_variable_26 cv
  simp (disch := omega) only [↓reduceIte, z_lit, z_m1, z_gd, z_le, z_lt, z_eq, z_em, z_me, z_ml, z_mle, z_lm, z_lem, z_pos, z_sub, nI_add, nI_clamp, ib_nI, pm_let, pm_bd, pm_b1, if_true, if_false, ite_true, ite_false, Nat.not_lt_zero, Nat.zero_le, C_isCopy hc.2.1.1 hcz z2, C_slot (show k ≤ 100 by omega), C_firstNode h hc hcz, C_slot (show fn g c ≤ 100 by omega), TR_sl h (show k ≤ tq t by omega), TR_sl h (show fn g c ≤ tq t by omega), (hc.2.2.2.2.1 c hcz).1]
  all_goals simp
theorem C_variable_any {s m : hp_S} {t : TT} {g : GG} {z V c : Nat} (h : TRt s m t) (hc : CP s m t g z V) (hcz : c < z) (a : Int32) : ∃ x, f_C_X1_variable_26 (nI c) a s = some (x, s) := by
  have z2 := hc.1.2.1
  obtain ⟨r1, r2⟩ := CP_rng h hc hcz
  have q1 := h.1.2
  have e : ∃ x, f_C_X7_slot_16 a s = some (x, s) := by
    unfold f_C_X7_slot_16
    by_cases c1 : a < 0
    · rw [if_pos c1]; exact ⟨_, rfl⟩
    · rw [if_neg c1]
      by_cases c2 : (100 : Int32) < a
      · rw [if_pos c2]; exact ⟨_, rfl⟩
      · rw [if_neg c2]
        obtain ⟨j, hj, rfl⟩ := nI_of c1
        simp (disch := omega) only [↓reduceIte, z_lit, z_m1, z_gd, z_le, z_lt, z_eq, z_em, z_me, z_ml, z_mle, z_lm, z_lem, z_pos, z_sub, nI_add, nI_clamp, ib_nI, pm_let, pm_bd, pm_b1, if_true, if_false, ite_true, ite_false, Nat.not_lt_zero, Nat.zero_le] at c2
        exact ⟨hs_A s 24 j, by simp (disch := omega) only [↓reduceIte, z_lit, z_m1, z_gd, z_le, z_lt, z_eq, z_em, z_me, z_ml, z_mle, z_lm, z_lem, z_pos, z_sub, nI_add, nI_clamp, ib_nI, pm_let, pm_bd, pm_b1, if_true, if_false, ite_true, ite_false, Nat.not_lt_zero, Nat.zero_le]⟩
  obtain ⟨x, e⟩ := e
  unfold f_C_X1_variable_26
  refine ⟨nI (gb g c) + x - nI (sl t (fn g c)), ?_⟩
  simp (disch := omega) only [↓reduceIte, z_lit, z_m1, z_gd, z_le, z_lt, z_eq, z_em, z_me, z_ml, z_mle, z_lm, z_lem, z_pos, z_sub, nI_add, nI_clamp, ib_nI, pm_let, pm_bd, pm_b1, if_true, if_false, ite_true, ite_false, Nat.not_lt_zero, Nat.zero_le, C_isCopy hc.2.1.1 hcz z2, e, C_firstNode h hc hcz, C_slot (show fn g c ≤ 100 by omega), TR_sl h (show fn g c ≤ tq t by omega), (hc.2.2.2.2.1 c hcz).1]
  all_goals simp
/-! the reference's -/
theorem M_belowL {m : hp_S} {q u : Nat} (hq : q ≤ 100) (h12 : hs_I m 0 12 = nI q) (hu : u < 1000) (hf : ∀ j, j < q → hs_A m 10 j = nI (fj m j) ∧ fj m j < 1000) : ∀ (d y : Nat), y + d = q → ∀ F, d + 1 ≤ F → l_M_X11_below_0_4 F (nI u) (nI (bl m u y)) (nI y) m = some (nI (bl m u q), m) := by
  intro d
  induction d with
  | zero =>
    intro y e F hF
    obtain rfl : y = q := by omega
    obtain ⟨F, rfl⟩ : ∃ z, F = z + 1 := ⟨F - 1, by omega⟩
    rw [l_M_X11_below_0_4.eq_2, h12, if_pos (Int32.le_refl _)]
  | succ d ih =>
    intro y e F hF
    obtain ⟨F, rfl⟩ : ∃ z, F = z + 1 := ⟨F - 1, by omega⟩
    have c : ¬ q ≤ y := by omega
    obtain ⟨y1, y2⟩ := hf y (by omega)
    have bb := bl_le m u y
    have ih' := ih (y + 1) (by omega) F (by omega)
    rw [l_M_X11_below_0_4.eq_2]
    by_cases c2 : u ≤ fj m y
    · rw [show bl m u (y + 1) = bl m u y + 0 by simp only [bl]; rw [if_neg (by omega)]] at ih'
      simp (disch := omega) only [↓reduceIte, z_lit, z_m1, z_gd, z_le, z_lt, z_eq, z_em, z_me, z_ml, z_mle, z_lm, z_lem, z_pos, z_sub, nI_add, nI_clamp, ib_nI, pm_let, pm_bd, pm_b1, if_true, if_false, ite_true, ite_false, Nat.not_lt_zero, Nat.zero_le, h12, c, y1, c2, ih']
    · rw [show bl m u (y + 1) = bl m u y + 1 by simp only [bl]; rw [if_pos (by omega)]] at ih'
      simp (disch := omega) only [↓reduceIte, z_lit, z_m1, z_gd, z_le, z_lt, z_eq, z_em, z_me, z_ml, z_mle, z_lm, z_lem, z_pos, z_sub, nI_add, nI_clamp, ib_nI, pm_let, pm_bd, pm_b1, if_true, if_false, ite_true, ite_false, Nat.not_lt_zero, Nat.zero_le, h12, c, y1, c2, ih']
theorem M_below {s m : hp_S} {t : TT} (h : TRt s m t) {u F : Nat} (hu : u < 1000) (hF : 102 ≤ F) : f_M_X11_below_0 F (nI u) m = some (nI (bl m u (tq t)), m) := by
  unfold f_M_X11_below_0
  have hq := h.1.2
  exact M_belowL hq h.2.2.1 hu (fun j hj => ⟨(h.2.2.2.2.2.2.2.2.1 j hj).1, by have := (h.2.2.2.2.2.2.2.2.1 j hj).2.1; omega⟩) (tq t) 0 (by omega) F (by omega)
theorem TR_nd {s m : hp_S} {t : TT} (h : TRt s m t) {k : Nat} (hk : k < tq t) : tnd t k < tq t := (h.2.2.2.1 k hk).2.2.1
theorem M_low {s m : hp_S} {t : TT} {g : GG} {z V c F : Nat} (h : TRt s m t) (hc : CP s m t g z V) (hcz : c < z) (hF : 102 ≤ F) : f_M_X11_low_0 F (nI c) m = some (nI (fn g c), m) := by
  have z2 := hc.1.2.1
  have q1 := h.1.2
  unfold f_M_X11_low_0 fn
  by_cases c0 : c = 0
  · subst c0
    simp (disch := omega) only [↓reduceIte, z_lit, z_m1, z_gd, z_le, z_lt, z_eq, z_em, z_me, z_ml, z_mle, z_lm, z_lem, z_pos, z_sub, nI_add, nI_clamp, ib_nI, pm_let, pm_bd, pm_b1, if_true, if_false, ite_true, ite_false, Nat.not_lt_zero, Nat.zero_le]
  · obtain ⟨a1, a2, a3, a4, -⟩ := hc.2.2.2.1 c (by omega) hcz
    obtain ⟨-, -, -, -, -, a, b, b1, b2, b3, b4, b5, b6⟩ := h.2.2.2.2.2.2.2.1 _ a1 a2
    have n1 := TR_nd h a1
    simp (disch := omega) only [↓reduceIte, z_lit, z_m1, z_gd, z_le, z_lt, z_eq, z_em, z_me, z_ml, z_mle, z_lm, z_lem, z_pos, z_sub, nI_add, nI_clamp, ib_nI, pm_let, pm_bd, pm_b1, if_true, if_false, ite_true, ite_false, Nat.not_lt_zero, Nat.zero_le, a4, b3, M_below h (show a < 1000 by omega) hF, b5, c0]
theorem M_high {s m : hp_S} {t : TT} {g : GG} {z V c F : Nat} (h : TRt s m t) (hc : CP s m t g z V) (hcz : c < z) (hF : 102 ≤ F) : f_M_X11_high_0 F (nI c) m = some (nI (en t g c), m) := by
  have z2 := hc.1.2.1
  have q1 := h.1.2
  unfold f_M_X11_high_0 en
  by_cases c0 : c = 0
  · subst c0
    simp (disch := omega) only [↓reduceIte, z_lit, z_m1, z_gd, z_le, z_lt, z_eq, z_em, z_me, z_ml, z_mle, z_lm, z_lem, z_pos, z_sub, nI_add, nI_clamp, ib_nI, pm_let, pm_bd, pm_b1, if_true, if_false, ite_true, ite_false, Nat.not_lt_zero, Nat.zero_le, h.2.2.1]
  · obtain ⟨a1, a2, a3, a4, -⟩ := hc.2.2.2.1 c (by omega) hcz
    obtain ⟨-, -, -, -, -, a, b, b1, b2, b3, b4, b5, b6⟩ := h.2.2.2.2.2.2.2.1 _ a1 a2
    have n1 := TR_nd h a1
    simp (disch := omega) only [↓reduceIte, z_lit, z_m1, z_gd, z_le, z_lt, z_eq, z_em, z_me, z_ml, z_mle, z_lm, z_lem, z_pos, z_sub, nI_add, nI_clamp, ib_nI, pm_let, pm_bd, pm_b1, if_true, if_false, ite_true, ite_false, Nat.not_lt_zero, Nat.zero_le, a4, b4, M_below h (show b < 1000 by omega) hF, b6, c0]
theorem M_holds {s m : hp_S} {t : TT} {g : GG} {z V c k : Nat} (h : TRt s m t) (hc : CP s m t g z V) (hcz : c < z) (hk : k < tq t) : f_M_X11_holds_0 (nI c) (nI (tnd t k)) m = some (if fn g c ≤ k ∧ k < en t g c then nI 1 else nI 0, m) := by
  have z2 := hc.1.2.1
  have q1 := h.1.2
  have n2 := TR_nd h hk
  have ek := h.2.2.2.2.2.2.2.2.2 k hk
  obtain ⟨f1, f2, -⟩ := h.2.2.2.2.2.2.2.2.1 _ n2
  unfold f_M_X11_holds_0 fn en
  by_cases c0 : c = 0
  · subst c0
    have : 0 ≤ k ∧ k < tq t := ⟨by omega, hk⟩
    simp (disch := omega) only [↓reduceIte, z_lit, z_m1, z_gd, z_le, z_lt, z_eq, z_em, z_me, z_ml, z_mle, z_lm, z_lem, z_pos, z_sub, nI_add, nI_clamp, ib_nI, pm_let, pm_bd, pm_b1, if_true, if_false, ite_true, ite_false, Nat.not_lt_zero, Nat.zero_le, this]
    simp
  · obtain ⟨a1, a2, a3, a4, -⟩ := hc.2.2.2.1 c (by omega) hcz
    obtain ⟨-, -, -, -, -, a, b, b1, b2, b3, b4, b5, b6⟩ := h.2.2.2.2.2.2.2.1 _ a1 a2
    have n1 := TR_nd h a1
    have g1 : a ≤ fj m (tnd t k) ↔ gl g c + 1 ≤ k := by rw [nu_ge n2, b5, ek]
    have g2 : b ≤ fj m (tnd t k) ↔ tbe t (gl g c) ≤ k := by rw [nu_ge n2, b6, ek]
    by_cases c1 : fj m (tnd t k) < a
    · have : ¬ (gl g c + 1 ≤ k ∧ k < tbe t (gl g c)) := fun q => by have := g1.mpr q.1; omega
      simp (disch := omega) only [↓reduceIte, z_lit, z_m1, z_gd, z_le, z_lt, z_eq, z_em, z_me, z_ml, z_mle, z_lm, z_lem, z_pos, z_sub, nI_add, nI_clamp, ib_nI, pm_let, pm_bd, pm_b1, if_true, if_false, ite_true, ite_false, Nat.not_lt_zero, Nat.zero_le, a4, b3, b4, f1, c1, this, c0]
    · by_cases c2 : b ≤ fj m (tnd t k)
      · have : ¬ (gl g c + 1 ≤ k ∧ k < tbe t (gl g c)) := fun q => by have := g2.mp c2; omega
        simp (disch := omega) only [↓reduceIte, z_lit, z_m1, z_gd, z_le, z_lt, z_eq, z_em, z_me, z_ml, z_mle, z_lm, z_lem, z_pos, z_sub, nI_add, nI_clamp, ib_nI, pm_let, pm_bd, pm_b1, if_true, if_false, ite_true, ite_false, Nat.not_lt_zero, Nat.zero_le, a4, b3, b4, f1, c1, c2, this, c0]
      · have : (gl g c + 1 ≤ k ∧ k < tbe t (gl g c)) := ⟨g1.mp (by omega), by
          by_cases g3 : k < tbe t (gl g c)
          · exact g3
          · exact absurd (g2.mpr (by omega)) c2⟩
        simp (disch := omega) only [↓reduceIte, z_lit, z_m1, z_gd, z_le, z_lt, z_eq, z_em, z_me, z_ml, z_mle, z_lm, z_lem, z_pos, z_sub, nI_add, nI_clamp, ib_nI, pm_let, pm_bd, pm_b1, if_true, if_false, ite_true, ite_false, Nat.not_lt_zero, Nat.zero_le, a4, b3, b4, f1, c1, c2, this, c0]
        simp
theorem C_holds26 {s m : hp_S} {t : TT} {g : GG} {z V c k : Nat} (h : TRt s m t) (hc : CP s m t g z V) (hcz : c < z) (hk : k < tq t) : f_C_X1_holds_26 (nI c) (nI k) s = some (if fn g c ≤ k ∧ k < en t g c then nI 1 else nI 0, s) := by
  obtain ⟨r1, r2⟩ := CP_rng h hc hcz
  have q1 := h.1.2
  unfold f_C_X1_holds_26
  by_cases c1 : k < fn g c
  · have : ¬ (fn g c ≤ k ∧ k < en t g c) := by omega
    simp (disch := omega) only [↓reduceIte, z_lit, z_m1, z_gd, z_le, z_lt, z_eq, z_em, z_me, z_ml, z_mle, z_lm, z_lem, z_pos, z_sub, nI_add, nI_clamp, ib_nI, pm_let, pm_bd, pm_b1, if_true, if_false, ite_true, ite_false, Nat.not_lt_zero, Nat.zero_le, C_firstNode h hc hcz, c1, this]
  · by_cases c2 : en t g c ≤ k
    · have : ¬ (fn g c ≤ k ∧ k < en t g c) := by omega
      simp (disch := omega) only [↓reduceIte, z_lit, z_m1, z_gd, z_le, z_lt, z_eq, z_em, z_me, z_ml, z_mle, z_lm, z_lem, z_pos, z_sub, nI_add, nI_clamp, ib_nI, pm_let, pm_bd, pm_b1, if_true, if_false, ite_true, ite_false, Nat.not_lt_zero, Nat.zero_le, C_firstNode h hc hcz, C_endNode h hc hcz, c1, c2, this]
    · have : (fn g c ≤ k ∧ k < en t g c) := by omega
      simp (disch := omega) only [↓reduceIte, z_lit, z_m1, z_gd, z_le, z_lt, z_eq, z_em, z_me, z_ml, z_mle, z_lm, z_lem, z_pos, z_sub, nI_add, nI_clamp, ib_nI, pm_let, pm_bd, pm_b1, if_true, if_false, ite_true, ite_false, Nat.not_lt_zero, Nat.zero_le, C_firstNode h hc hcz, C_endNode h hc hcz, c1, c2, this]
      simp
