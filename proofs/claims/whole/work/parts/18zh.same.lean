/-! SAME of the reference -/
def SJ (σ : Nat → Nat) (R : Nat) : Prop := (∀ x y, σ x = σ y → x = y) ∧ (∀ x, x < R → σ x < R) ∧ ∀ x, x < 20000 → σ x < 20000
def UM (m : hp_S) (A : AA) (R : Nat) (ρ dp σ : Nat → Nat) : Prop := hs_I m 0 37 = nI R ∧ R ≤ 10002 ∧ 0 < R ∧ RT R ρ ∧ WF A R ∧ ∀ x, x < R → (dp x ≤ nr R ρ ∧ hs_A m 24 (σ x) = nI (ash A x) ∧ (3 ≤ ash A x → hs_A m 25 (σ x) = nI (σ (alf A x)) ∧ hs_A m 26 (σ x) = nI (σ (art A x)))) ∧ ((ρ x = x ∧ dp x = 0 ∧ hs_A m 23 (σ x) = nI (σ x)) ∨ (ρ x ≠ x ∧ ∃ y, y < R ∧ hs_A m 23 (σ x) = nI (σ y) ∧ ρ y = ρ x ∧ dp y < dp x))
theorem M_rootL {A : AA} {R : Nat} {ρ dp σ : Nat → Nat} {m : hp_S} (hU : UM m A R ρ dp σ) (hσ : SJ σ R) : ∀ (d x F : Nat), x < R → dp x ≤ d → d + 1 ≤ F → l_M_X11_root_0_2 F (nI (σ x)) m = some (nI (σ (ρ x)), m) := by
  intro d
  obtain ⟨u1, u2, u3, u4, u5, u6⟩ := hU
  induction d with
  | zero =>
    intro x F hx hd hF
    obtain ⟨F, rfl⟩ : ∃ z, F = z + 1 := ⟨F - 1, by omega⟩
    have b := hσ.2.1 x hx
    obtain ⟨-, ⟨e, -, k⟩ | ⟨-, y, -, -, -, b2⟩⟩ := u6 x hx
    · rw [l_M_X11_root_0_2.eq_2, e]
      simp (disch := omega) only [↓reduceIte, z_lit, z_m1, z_gd, z_le, z_lt, z_eq, z_em, z_me, z_ml, z_mle, z_lm, z_lem, z_pos, z_sub, nI_add, nI_clamp, ib_nI, pm_let, pm_bd, pm_b1, if_true, if_false, ite_true, ite_false, Nat.not_lt_zero, Nat.zero_le, k]
    · omega
  | succ d ih =>
    intro x F hx hd hF
    obtain ⟨F, rfl⟩ : ∃ z, F = z + 1 := ⟨F - 1, by omega⟩
    have b := hσ.2.1 x hx
    obtain ⟨-, ⟨e, -, k⟩ | ⟨n1, y, y1, y2, y3, y4⟩⟩ := u6 x hx
    · rw [l_M_X11_root_0_2.eq_2, e]
      simp (disch := omega) only [↓reduceIte, z_lit, z_m1, z_gd, z_le, z_lt, z_eq, z_em, z_me, z_ml, z_mle, z_lm, z_lem, z_pos, z_sub, nI_add, nI_clamp, ib_nI, pm_let, pm_bd, pm_b1, if_true, if_false, ite_true, ite_false, Nat.not_lt_zero, Nat.zero_le, k]
    · have b' := hσ.2.1 y y1
      have ne : ¬ σ y = σ x := fun q => by have := hσ.1 _ _ q; subst this; omega
      rw [l_M_X11_root_0_2.eq_2]
      simp (disch := omega) only [↓reduceIte, z_lit, z_m1, z_gd, z_le, z_lt, z_eq, z_em, z_me, z_ml, z_mle, z_lm, z_lem, z_pos, z_sub, nI_add, nI_clamp, ib_nI, pm_let, pm_bd, pm_b1, if_true, if_false, ite_true, ite_false, Nat.not_lt_zero, Nat.zero_le, y2, ne]
      rw [ih y F y1 (by omega) (by omega), y3]
theorem M_root {A : AA} {R x F : Nat} {ρ dp σ : Nat → Nat} {m : hp_S} (hU : UM m A R ρ dp σ) (hσ : SJ σ R) (hx : x < R) (hF : 10003 ≤ F) : f_M_X11_root_0 F (nI (σ x)) m = some (nI (σ (ρ x)), m) := by
  have h1 := nr_lt hU.2.2.2.1 hU.2.2.1
  have h2 := (hU.2.2.2.2.2 x hx).1.1
  have h3 := hU.2.1
  unfold f_M_X11_root_0
  exact M_rootL hU hσ (dp x) x F hx (Nat.le_refl _) (by omega)
theorem UM_fr {m m' : hp_S} {A : AA} {R : Nat} {ρ dp σ : Nat → Nat} {P : List (Nat × Nat)} {L : List Nat} (hU : UM m A R ρ dp σ) (f : hs_fr P L m m') (g : (0, 37) ∉ P ∧ 23 ∉ L ∧ 24 ∉ L ∧ 25 ∉ L ∧ 26 ∉ L) : UM m' A R ρ dp σ := by
  obtain ⟨v1, v2, v3, v4, v5, v6⟩ := hU
  refine ⟨by rw [f.1 _ _ g.1]; exact v1, v2, v3, v4, v5, fun z hz => ?_⟩
  rw [f.2 23 g.2.1, f.2 24 g.2.2.1, f.2 25 g.2.2.2.1, f.2 26 g.2.2.2.2]
  exact v6 z hz
theorem UM_link {A : AA} {R x y : Nat} {ρ dp σ : Nat → Nat} {m : hp_S} (hU : UM m A R ρ dp σ) (hσ : SJ σ R) (hx : x < R) (hy : y < R) (ex : ρ x = x) (ey : ρ y = y) (hne : x ≠ y) : UM (hs_pA m 23 (σ x) (nI (σ y))) A R (lk ρ x y) (dpl ρ dp x) σ := by
  obtain ⟨u1, u2, u3, u4, u5, u6⟩ := hU
  refine ⟨by simp only [hs_I_pI, hs_I_pA, hs_A_pI, hs_A_pA, and_true, true_and, and_false, false_and, and_self, eq_self, Nat.reduceEqDiff, ↓reduceIte]; exact u1, u2, u3, fun z hz => ?_, u5, fun z hz => ⟨?_, ?_⟩⟩
  · unfold lk
    by_cases c : ρ z = x
    · rw [if_pos c, ey, if_neg (fun q => hne q.symm)]
      exact ⟨hy, rfl⟩
    · rw [if_neg c, (u4 z hz).2, if_neg c]
      exact ⟨(u4 z hz).1, rfl⟩
  · obtain ⟨a1, a2⟩ := (u6 z hz).1
    refine ⟨?_, by simp only [hs_I_pI, hs_I_pA, hs_A_pI, hs_A_pA, and_true, true_and, and_false, false_and, and_self, eq_self, Nat.reduceEqDiff, ↓reduceIte]; exact a2⟩
    rw [nr_link hx ex ey hne]
    unfold dpl
    split <;> omega
  · by_cases c : z = x
    · subst c
      refine Or.inr ⟨?_, y, hy, by simp only [hs_I_pI, hs_I_pA, hs_A_pI, hs_A_pA, and_true, true_and, and_false, false_and, and_self, eq_self, Nat.reduceEqDiff, ↓reduceIte], ?_, ?_⟩
      · unfold lk
        rw [if_pos ex]
        exact fun q => hne q.symm
      · unfold lk
        rw [if_pos ex, ey, if_neg (fun q => hne q.symm)]
      · unfold dpl
        rw [if_pos ex, ey, if_neg (fun q => hne q.symm)]
        obtain ⟨-, ⟨-, d0, -⟩ | ⟨q, -⟩⟩ := u6 y hy
        · omega
        · exact absurd ey q
    · have er := lk_root (ρ := ρ) ex ey hne c
      have c' : ¬ σ z = σ x := fun q => c (hσ.1 _ _ q)
      obtain ⟨-, ⟨a1, a2, a3⟩ | ⟨a1, w, a3, a4, a5, a6⟩⟩ := u6 z hz
      · refine Or.inl ⟨er.mpr a1, ?_, ?_⟩
        · unfold dpl
          rw [if_neg (by rw [a1]; exact c)]
          exact a2
        · simp only [hs_I_pI, hs_I_pA, hs_A_pI, hs_A_pA, and_true, true_and, and_false, false_and, and_self, eq_self, Nat.reduceEqDiff, ↓reduceIte, c']; exact a3
      · refine Or.inr ⟨fun q => a1 (er.mp q), w, a3, by simp only [hs_I_pI, hs_I_pA, hs_A_pI, hs_A_pA, and_true, true_and, and_false, false_and, and_self, eq_self, Nat.reduceEqDiff, ↓reduceIte, c']; exact a4, ?_, ?_⟩
        · unfold lk
          rw [a5]
        · unfold dpl
          rw [a5]
          split <;> omega
def PdM (m : hp_S) (σ : Nat → Nat) (n : Nat) : Nat → Nat → Prop := fun u v => ∃ i, i < n ∧ hs_A m 27 i = nI (σ u) ∧ hs_A m 28 i = nI (σ v) ∧ u < 20000 ∧ v < 20000
def PvM (m : hp_S) (σ : Nat → Nat) (R n : Nat) : Prop := ∀ i, i < n → ∃ u v, u < R ∧ v < R ∧ hs_A m 27 i = nI (σ u) ∧ hs_A m 28 i = nI (σ v)
theorem PdM_pop {m : hp_S} {σ : Nat → Nat} {R n a b : Nat} (hσ : SJ σ R) (ha : hs_A m 27 n = nI (σ a)) (hb : hs_A m 28 n = nI (σ b)) (h1 : a < 20000) (h2 : b < 20000) : ∀ u v, PdM m σ (n + 1) u v → (u = a ∧ v = b) ∨ PdM m σ n u v := by
  rintro u v ⟨i, i1, i2, i3, i4, i5⟩
  have q1 := hσ.2.2 u i4
  have q2 := hσ.2.2 v i5
  have q3 := hσ.2.2 a h1
  have q4 := hσ.2.2 b h2
  by_cases c : i = n
  · subst c
    rw [ha, nI_eq (by omega) (by omega)] at i2
    rw [hb, nI_eq (by omega) (by omega)] at i3
    exact Or.inl ⟨(hσ.1 _ _ i2).symm, (hσ.1 _ _ i3).symm⟩
  · exact Or.inr ⟨i, by omega, i2, i3, i4, i5⟩
theorem PdM_fr {m m' : hp_S} {σ : Nat → Nat} {n : Nat} (h : ∀ i, i < n → hs_A m' 27 i = hs_A m 27 i ∧ hs_A m' 28 i = hs_A m 28 i) : ∀ u v, PdM m' σ n u v ↔ PdM m σ n u v := by
  intro u v
  constructor
  · rintro ⟨i, i1, i2, i3, i4⟩
    exact ⟨i, i1, by rw [← (h i i1).1]; exact i2, by rw [← (h i i1).2]; exact i3, i4⟩
  · rintro ⟨i, i1, i2, i3, i4⟩
    exact ⟨i, i1, by rw [(h i i1).1]; exact i2, by rw [(h i i1).2]; exact i3, i4⟩
def wP : List (Nat × Nat) := [(0, 40), (0, 41)]
def wA : List Nat := [23, 27, 28]
theorem M_uniL {A : AA} {R : Nat} {B : Nat → Nat → Prop} {σ : Nat → Nat} (hσ : SJ σ R) : ∀ (Φ n : Nat) (ρ dp : Nat → Nat) (m : hp_S) (F : Nat), UM m A R ρ dp σ → hs_I m 0 40 = nI n → hs_I m 0 41 = nI 0 → INV A R B ρ (PdM m σ n) → PvM m σ R n → n + 2 * tc A R ρ ≤ Φ → n + tc A R ρ ≤ 4001 → Φ + 10100 ≤ F →
    ∃ m', l_M_X11_same_0_19 F m = some m' ∧ hs_fr wP wA m m' ∧ ((hs_I m' 0 41 = nI 0 ∧ ∃ ρ' dp', UM m' A R ρ' dp' σ ∧ INV A R B ρ' (PdM m' σ 0)) ∨ (hs_I m' 0 41 = nI 1 ∧ FL A R B)) := by
  intro Φ
  induction Φ with
  | zero =>
    intro n ρ dp m F hU h40 h41 hI hV h1 h2 hF
    obtain rfl : n = 0 := by omega
    obtain ⟨F, rfl⟩ : ∃ z, F = z + 1 := ⟨F - 1, by omega⟩
    refine ⟨m, ?_, hs_fr.rf, Or.inl ⟨h41, ρ, dp, hU, hI⟩⟩
    rw [l_M_X11_same_0_19.eq_2]
    simp (disch := omega) only [↓reduceIte, z_lit, z_m1, z_gd, z_le, z_lt, z_eq, z_em, z_me, z_ml, z_mle, z_lm, z_lem, z_pos, z_sub, nI_add, nI_clamp, ib_nI, pm_let, pm_bd, pm_b1, if_true, if_false, ite_true, ite_false, Nat.not_lt_zero, Nat.zero_le, h40]
  | succ Φ ih =>
    intro n ρ dp m F hU h40 h41 hI hV h1 h2 hF
    obtain ⟨F, rfl⟩ : ∃ z, F = z + 1 := ⟨F - 1, by omega⟩
    by_cases n0 : n = 0
    · subst n0
      refine ⟨m, ?_, hs_fr.rf, Or.inl ⟨h41, ρ, dp, hU, hI⟩⟩
      rw [l_M_X11_same_0_19.eq_2]
      simp (disch := omega) only [↓reduceIte, z_lit, z_m1, z_gd, z_le, z_lt, z_eq, z_em, z_me, z_ml, z_mle, z_lm, z_lem, z_pos, z_sub, nI_add, nI_clamp, ib_nI, pm_let, pm_bd, pm_b1, if_true, if_false, ite_true, ite_false, Nat.not_lt_zero, Nat.zero_le, h40]
    obtain ⟨n, rfl⟩ : ∃ z, n = z + 1 := ⟨n - 1, by omega⟩
    have hR := hU.2.1
    obtain ⟨a, b, ha, hb, ea, eb⟩ := hV n (by omega)
    obtain ⟨m1, hm1⟩ : ∃ m1, m1 = hs_pI m 0 40 (nI n) := ⟨_, rfl⟩
    have f1 : hs_fr wP wA m m1 := by rw [hm1]; exact hs_fr_pI (by decide)
    have U1 : UM m1 A R ρ dp σ := by rw [hm1]; exact UM_fr (P := [(0, 40)]) (L := []) hU (hs_fr_pI (by decide)) (by decide)
    have e40 : hs_I m1 0 40 = nI n := by rw [hm1]; simp only [hs_I_pI, hs_I_pA, hs_A_pI, hs_A_pA, and_true, true_and, and_false, false_and, and_self, eq_self, Nat.reduceEqDiff, ↓reduceIte]
    have e41 : hs_I m1 0 41 = nI 0 := by rw [hm1]; simp only [hs_I_pI, hs_I_pA, hs_A_pI, hs_A_pA, and_true, true_and, and_false, false_and, and_self, eq_self, Nat.reduceEqDiff, ↓reduceIte]; exact h41
    have mA : ∀ a i, hs_A m1 a i = hs_A m a i := fun a i => by rw [hm1]; simp only [hs_I_pI, hs_I_pA, hs_A_pI, hs_A_pA, and_true, true_and, and_false, false_and, and_self, eq_self, Nat.reduceEqDiff, ↓reduceIte]
    have ea1 : hs_A m1 27 n = nI (σ a) := by rw [mA]; exact ea
    have eb1 : hs_A m1 28 n = nI (σ b) := by rw [mA]; exact eb
    have r1 := M_root (F := F) U1 hσ ha (by omega)
    have r2 := M_root (F := F) U1 hσ hb (by omega)
    have hx := (hI.1 a ha).1
    have ex := (hI.1 a ha).2
    have hy' := (hI.1 b hb).1
    have ey := (hI.1 b hb).2
    have pab : PdM m σ (n + 1) a b := ⟨n, by omega, ea, eb, by omega, by omega⟩
    have pop := PdM_pop (m := m) hσ ea eb (by omega) (by omega)
    have sub : ∀ u v, PdM m σ n u v → PdM m σ (n + 1) u v := fun u v ⟨i, i1, i2⟩ => ⟨i, by omega, i2⟩
    have c0 : ¬ n + 1 ≤ 0 := by omega
    obtain ⟨⟨-, kx, lx⟩, -⟩ := U1.2.2.2.2.2 (ρ a) hx
    obtain ⟨⟨-, ky, ly⟩, -⟩ := U1.2.2.2.2.2 (ρ b) hy'
    have wx := (U1.2.2.2.2.1 (ρ a) hx).1
    have wy := (U1.2.2.2.2.1 (ρ b) hy').1
    have sx := hσ.2.1 _ hx
    have sy := hσ.2.1 _ hy'
    have PV : ∀ m', (∀ i, i < n → hs_A m' 27 i = hs_A m 27 i ∧ hs_A m' 28 i = hs_A m 28 i) → PvM m' σ R n := by
      intro m' h i hi
      obtain ⟨u, v, g1, g2, g3, g4⟩ := hV i (by omega)
      exact ⟨u, v, g1, g2, by rw [(h i hi).1]; exact g3, by rw [(h i hi).2]; exact g4⟩
    by_cases exy : ρ a = ρ b
    · have I2 : INV A R B ρ (PdM m1 σ n) := INV_Pd (INV_same hI ha hb exy pop sub) (PdM_fr (fun i _ => ⟨mA _ _, mA _ _⟩))
      obtain ⟨m', g1, g2, g3⟩ := ih n ρ dp m1 F U1 e40 e41 I2 (PV m1 (fun i _ => ⟨mA _ _, mA _ _⟩)) (by omega) (by omega) (by omega)
      refine ⟨m', ?_, f1.cons g2, g3⟩
      rw [l_M_X11_same_0_19.eq_2]
      simp (disch := omega) only [↓reduceIte, z_lit, z_m1, z_gd, z_le, z_lt, z_eq, z_em, z_me, z_ml, z_mle, z_lm, z_lem, z_pos, z_sub, nI_add, nI_clamp, ib_nI, pm_let, pm_bd, pm_b1, if_true, if_false, ite_true, ite_false, Nat.not_lt_zero, Nat.zero_le, hs_I_pI, hs_I_pA, hs_A_pI, hs_A_pA, and_true, true_and, and_false, false_and, and_self, eq_self, Nat.reduceEqDiff, ↓reduceIte, h40, h41, c0, Nat.add_sub_cancel, ← hm1, e40, ea1, eb1, r1, r2, exy]
      rw [g1]
    · have exy' : ¬ ρ b = ρ a := fun q => exy q.symm
      have sxy : ¬ σ (ρ a) = σ (ρ b) := fun q => exy (hσ.1 _ _ q)
      have sxy' : ¬ σ (ρ b) = σ (ρ a) := fun q => exy' (hσ.1 _ _ q)
      by_cases zx : ash A (ρ a) = 0
      · have UL1 := UM_link U1 hσ hx hy' ex ey exy
        have t1 := tc_link0 (A := A) (R := R) (ρ := ρ) ex ey exy
        obtain ⟨m3, hm3⟩ : ∃ m3, m3 = hs_pA m1 23 (σ (ρ a)) (nI (σ (ρ b))) := ⟨_, rfl⟩
        rw [← hm3] at UL1
        have e' : ∀ i, i < n → hs_A m3 27 i = hs_A m 27 i ∧ hs_A m3 28 i = hs_A m 28 i := fun i _ => by rw [hm3]; simp only [hs_I_pI, hs_I_pA, hs_A_pI, hs_A_pA, and_true, true_and, and_false, false_and, and_self, eq_self, Nat.reduceEqDiff, ↓reduceIte, mA]
        have I2 : INV A R B (lk ρ (ρ a) (ρ b)) (PdM m3 σ n) := INV_Pd (INV_link (Pd' := PdM m σ n) U1.2.2.2.2.1 hI pab (Or.inl ⟨rfl, rfl⟩) exy (Or.inl zx) pop (fun u v q => Or.inl (sub u v q))) (PdM_fr e')
        obtain ⟨m', g1, g2, g3⟩ := ih n _ _ m3 F UL1 (by rw [hm3]; simp only [hs_I_pI, hs_I_pA, hs_A_pI, hs_A_pA, and_true, true_and, and_false, false_and, and_self, eq_self, Nat.reduceEqDiff, ↓reduceIte]; exact e40) (by rw [hm3]; simp only [hs_I_pI, hs_I_pA, hs_A_pI, hs_A_pA, and_true, true_and, and_false, false_and, and_self, eq_self, Nat.reduceEqDiff, ↓reduceIte]; exact e41) I2 (PV m3 e') (by omega) (by omega) (by omega)
        have f3 : hs_fr wP wA m1 m3 := by rw [hm3]; exact hs_fr_pA (by decide)
        refine ⟨m', ?_, (f1.cons f3).cons g2, g3⟩
        rw [l_M_X11_same_0_19.eq_2]
        simp (disch := omega) only [↓reduceIte, z_lit, z_m1, z_gd, z_le, z_lt, z_eq, z_em, z_me, z_ml, z_mle, z_lm, z_lem, z_pos, z_sub, nI_add, nI_clamp, ib_nI, pm_let, pm_bd, pm_b1, if_true, if_false, ite_true, ite_false, Nat.not_lt_zero, Nat.zero_le, hs_I_pI, hs_I_pA, hs_A_pI, hs_A_pA, and_true, true_and, and_false, false_and, and_self, eq_self, Nat.reduceEqDiff, ↓reduceIte, h40, h41, c0, Nat.add_sub_cancel, ← hm1, e40, ea1, eb1, r1, r2, sxy, kx, zx]
        rw [← hm3, g1]
      · by_cases zy : ash A (ρ b) = 0
        · have UL1 := UM_link U1 hσ hy' hx ey ex exy'
          have t1 := tc_link0 (A := A) (R := R) (ρ := ρ) ey ex exy'
          obtain ⟨m3, hm3⟩ : ∃ m3, m3 = hs_pA m1 23 (σ (ρ b)) (nI (σ (ρ a))) := ⟨_, rfl⟩
          rw [← hm3] at UL1
          have e' : ∀ i, i < n → hs_A m3 27 i = hs_A m 27 i ∧ hs_A m3 28 i = hs_A m 28 i := fun i _ => by rw [hm3]; simp only [hs_I_pI, hs_I_pA, hs_A_pI, hs_A_pA, and_true, true_and, and_false, false_and, and_self, eq_self, Nat.reduceEqDiff, ↓reduceIte, mA]
          have I2 : INV A R B (lk ρ (ρ b) (ρ a)) (PdM m3 σ n) := INV_Pd (INV_link (Pd' := PdM m σ n) U1.2.2.2.2.1 hI pab (Or.inr ⟨rfl, rfl⟩) exy' (Or.inl zy) pop (fun u v q => Or.inl (sub u v q))) (PdM_fr e')
          obtain ⟨m', g1, g2, g3⟩ := ih n _ _ m3 F UL1 (by rw [hm3]; simp only [hs_I_pI, hs_I_pA, hs_A_pI, hs_A_pA, and_true, true_and, and_false, false_and, and_self, eq_self, Nat.reduceEqDiff, ↓reduceIte]; exact e40) (by rw [hm3]; simp only [hs_I_pI, hs_I_pA, hs_A_pI, hs_A_pA, and_true, true_and, and_false, false_and, and_self, eq_self, Nat.reduceEqDiff, ↓reduceIte]; exact e41) I2 (PV m3 e') (by omega) (by omega) (by omega)
          have f3 : hs_fr wP wA m1 m3 := by rw [hm3]; exact hs_fr_pA (by decide)
          refine ⟨m', ?_, (f1.cons f3).cons g2, g3⟩
          rw [l_M_X11_same_0_19.eq_2]
          simp (disch := omega) only [↓reduceIte, z_lit, z_m1, z_gd, z_le, z_lt, z_eq, z_em, z_me, z_ml, z_mle, z_lm, z_lem, z_pos, z_sub, nI_add, nI_clamp, ib_nI, pm_let, pm_bd, pm_b1, if_true, if_false, ite_true, ite_false, Nat.not_lt_zero, Nat.zero_le, hs_I_pI, hs_I_pA, hs_A_pI, hs_A_pA, and_true, true_and, and_false, false_and, and_self, eq_self, Nat.reduceEqDiff, ↓reduceIte, h40, h41, c0, Nat.add_sub_cancel, ← hm1, e40, ea1, eb1, r1, r2, sxy, kx, ky, zx, zy]
          rw [← hm3, g1]
        · by_cases sh : ash A (ρ a) = ash A (ρ b)
          · have UL1 := UM_link U1 hσ hx hy' ex ey exy
            obtain ⟨m3, hm3⟩ : ∃ m3, m3 = hs_pA m1 23 (σ (ρ a)) (nI (σ (ρ b))) := ⟨_, rfl⟩
            rw [← hm3] at UL1
            have f3 : hs_fr wP wA m1 m3 := by rw [hm3]; exact hs_fr_pA (by decide)
            have e40' : hs_I m3 0 40 = nI n := by rw [hm3]; simp only [hs_I_pI, hs_I_pA, hs_A_pI, hs_A_pA, and_true, true_and, and_false, false_and, and_self, eq_self, Nat.reduceEqDiff, ↓reduceIte]; exact e40
            have e41' : hs_I m3 0 41 = nI 0 := by rw [hm3]; simp only [hs_I_pI, hs_I_pA, hs_A_pI, hs_A_pA, and_true, true_and, and_false, false_and, and_self, eq_self, Nat.reduceEqDiff, ↓reduceIte]; exact e41
            have kx' : hs_A m3 24 (σ (ρ a)) = nI (ash A (ρ b)) := by rw [hm3]; simp only [hs_I_pI, hs_I_pA, hs_A_pI, hs_A_pA, and_true, true_and, and_false, false_and, and_self, eq_self, Nat.reduceEqDiff, ↓reduceIte]; rw [kx, sh]
            by_cases tm : 3 ≤ ash A (ρ b)
            · have tma : 3 ≤ ash A (ρ a) := by omega
              have t1 := tc_link (A := A) (R := R) (ρ := ρ) hx ex ey exy tma
              obtain ⟨lx1, lx2⟩ := lx tma
              obtain ⟨ly1, ly2⟩ := ly tm
              obtain ⟨wl, wr⟩ := (U1.2.2.2.2.1 (ρ a) hx).2 tma
              obtain ⟨wl', wr'⟩ := (U1.2.2.2.2.1 (ρ b) hy').2 tm
              have L1 : hs_A m3 25 (σ (ρ a)) = nI (σ (alf A (ρ a))) := by rw [hm3]; simp only [hs_I_pI, hs_I_pA, hs_A_pI, hs_A_pA, and_true, true_and, and_false, false_and, and_self, eq_self, Nat.reduceEqDiff, ↓reduceIte]; exact lx1
              have L2 : hs_A m3 25 (σ (ρ b)) = nI (σ (alf A (ρ b))) := by rw [hm3]; simp only [hs_I_pI, hs_I_pA, hs_A_pI, hs_A_pA, and_true, true_and, and_false, false_and, and_self, eq_self, Nat.reduceEqDiff, ↓reduceIte]; exact ly1
              have L3 : hs_A m3 26 (σ (ρ a)) = nI (σ (art A (ρ a))) := by rw [hm3]; simp only [hs_I_pI, hs_I_pA, hs_A_pI, hs_A_pA, and_true, true_and, and_false, false_and, and_self, eq_self, Nat.reduceEqDiff, ↓reduceIte]; exact lx2
              have L4 : hs_A m3 26 (σ (ρ b)) = nI (σ (art A (ρ b))) := by rw [hm3]; simp only [hs_I_pI, hs_I_pA, hs_A_pI, hs_A_pA, and_true, true_and, and_false, false_and, and_self, eq_self, Nat.reduceEqDiff, ↓reduceIte]; exact ly2
              obtain ⟨m5, hm5⟩ : ∃ m5, m5 = hs_pI (hs_pA (hs_pA (hs_pA (hs_pA m3 27 n (nI (σ (alf A (ρ a))))) 28 n (nI (σ (alf A (ρ b))))) 27 (n + 1) (nI (σ (art A (ρ a))))) 28 (n + 1) (nI (σ (art A (ρ b))))) 0 40 (nI (n + 2)) := ⟨_, rfl⟩
              have f5 : hs_fr [(0, 40)] [27, 28] m3 m5 := by
                rw [hm5]
                exact ((hs_fr_pA (by decide)).cons (hs_fr_pA (by decide))).cons ((hs_fr_pA (by decide)).cons ((hs_fr_pA (by decide)).cons (hs_fr_pI (by decide))))
              have U5 := UM_fr UL1 f5 (by decide)
              have n1 : ∀ i, i < n → ¬ i = n ∧ ¬ i = n + 1 := fun i hi => by omega
              have old : ∀ i, i < n → hs_A m5 27 i = hs_A m 27 i ∧ hs_A m5 28 i = hs_A m 28 i := fun i hi => by
                rw [hm5, hm3]; simp only [hs_I_pI, hs_I_pA, hs_A_pI, hs_A_pA, and_true, true_and, and_false, false_and, and_self, eq_self, Nat.reduceEqDiff, ↓reduceIte, mA, (n1 i hi).1, (n1 i hi).2]
              have q1 : ¬ n = n + 1 := by omega
              have PLa : hs_A m5 27 n = nI (σ (alf A (ρ a))) := by rw [hm5]; simp only [hs_I_pI, hs_I_pA, hs_A_pI, hs_A_pA, and_true, true_and, and_false, false_and, and_self, eq_self, Nat.reduceEqDiff, ↓reduceIte, q1]
              have PLb : hs_A m5 28 n = nI (σ (alf A (ρ b))) := by rw [hm5]; simp only [hs_I_pI, hs_I_pA, hs_A_pI, hs_A_pA, and_true, true_and, and_false, false_and, and_self, eq_self, Nat.reduceEqDiff, ↓reduceIte, q1]
              have PRa : hs_A m5 27 (n + 1) = nI (σ (art A (ρ a))) := by rw [hm5]; simp only [hs_I_pI, hs_I_pA, hs_A_pI, hs_A_pA, and_true, true_and, and_false, false_and, and_self, eq_self, Nat.reduceEqDiff, ↓reduceIte]
              have PRb : hs_A m5 28 (n + 1) = nI (σ (art A (ρ b))) := by rw [hm5]; simp only [hs_I_pI, hs_I_pA, hs_A_pI, hs_A_pA, and_true, true_and, and_false, false_and, and_self, eq_self, Nat.reduceEqDiff, ↓reduceIte]
              have I5 : INV A R B (lk ρ (ρ a) (ρ b)) (PdM m5 σ (n + 2)) := by
                refine INV_link U1.2.2.2.2.1 hI pab (Or.inl ⟨rfl, rfl⟩) exy (Or.inr ⟨sh, fun _ => ⟨⟨n, by omega, PLa, PLb, by omega, by omega⟩, ⟨n + 1, by omega, PRa, PRb, by omega, by omega⟩⟩⟩) (fun u v q => ?_) (fun u v q => ?_)
                · rcases pop u v q with q' | q'
                  · exact Or.inl q'
                  · obtain ⟨i, i1, i2⟩ := (PdM_fr old u v).mpr q'
                    exact Or.inr ⟨i, by omega, i2⟩
                · rcases PdM_pop (n := n + 1) hσ PRa PRb (by omega) (by omega) u v q with q' | q'
                  · exact Or.inr ⟨tma, sh, Or.inr q'⟩
                  · rcases PdM_pop (n := n) hσ PLa PLb (by omega) (by omega) u v q' with q'' | q''
                    · exact Or.inr ⟨tma, sh, Or.inl q''⟩
                    · exact Or.inl (sub u v ((PdM_fr old u v).mp q''))
              have V5 : PvM m5 σ R (n + 2) := by
                intro i hi
                by_cases d1 : i = n + 1
                · subst d1
                  exact ⟨_, _, wr, wr', PRa, PRb⟩
                by_cases d2 : i = n
                · subst d2
                  exact ⟨_, _, wl, wl', PLa, PLb⟩
                · exact PV m5 old i (by omega)
              obtain ⟨m', g1, g2, g3⟩ := ih (n + 2) _ _ m5 F U5 (by rw [hm5]; simp only [hs_I_pI, hs_I_pA, hs_A_pI, hs_A_pA, and_true, true_and, and_false, false_and, and_self, eq_self, Nat.reduceEqDiff, ↓reduceIte]) (by rw [f5.1 _ _ (by decide)]; exact e41') I5 V5 (by omega) (by omega) (by omega)
              refine ⟨m', ?_, (f1.cons f3).cons ((f5.mono (by decide) (by decide)).cons g2), g3⟩
              rw [l_M_X11_same_0_19.eq_2]
              simp (disch := omega) only [↓reduceIte, z_lit, z_m1, z_gd, z_le, z_lt, z_eq, z_em, z_me, z_ml, z_mle, z_lm, z_lem, z_pos, z_sub, nI_add, nI_clamp, ib_nI, pm_let, pm_bd, pm_b1, if_true, if_false, ite_true, ite_false, Nat.not_lt_zero, Nat.zero_le, hs_I_pI, hs_I_pA, hs_A_pI, hs_A_pA, and_true, true_and, and_false, false_and, and_self, eq_self, Nat.reduceEqDiff, ↓reduceIte, h40, h41, c0, Nat.add_sub_cancel, ← hm1, e40, ea1, eb1, r1, r2, sxy, kx, ky, sh, zy]
              rw [← hm3]
              simp (disch := omega) only [↓reduceIte, z_lit, z_m1, z_gd, z_le, z_lt, z_eq, z_em, z_me, z_ml, z_mle, z_lm, z_lem, z_pos, z_sub, nI_add, nI_clamp, ib_nI, pm_let, pm_bd, pm_b1, if_true, if_false, ite_true, ite_false, Nat.not_lt_zero, Nat.zero_le, hs_I_pI, hs_I_pA, hs_A_pI, hs_A_pA, and_true, true_and, and_false, false_and, and_self, eq_self, Nat.reduceEqDiff, ↓reduceIte, kx', tm, e40', L1, L2, L3, L4]
              rw [lx1, lx2, ly1, ly2, ← hm5, g1]
            · have t1 := tc_link0 (A := A) (R := R) (ρ := ρ) ex ey exy
              have e' : ∀ i, i < n → hs_A m3 27 i = hs_A m 27 i ∧ hs_A m3 28 i = hs_A m 28 i := fun i _ => by rw [hm3]; simp only [hs_I_pI, hs_I_pA, hs_A_pI, hs_A_pA, and_true, true_and, and_false, false_and, and_self, eq_self, Nat.reduceEqDiff, ↓reduceIte, mA]
              have I2 : INV A R B (lk ρ (ρ a) (ρ b)) (PdM m3 σ n) := INV_Pd (INV_link (Pd' := PdM m σ n) U1.2.2.2.2.1 hI pab (Or.inl ⟨rfl, rfl⟩) exy (Or.inr ⟨sh, fun q => absurd q (by omega)⟩) pop (fun u v q => Or.inl (sub u v q))) (PdM_fr e')
              obtain ⟨m', g1, g2, g3⟩ := ih n _ _ m3 F UL1 e40' e41' I2 (PV m3 e') (by omega) (by omega) (by omega)
              refine ⟨m', ?_, (f1.cons f3).cons g2, g3⟩
              rw [l_M_X11_same_0_19.eq_2]
              simp (disch := omega) only [↓reduceIte, z_lit, z_m1, z_gd, z_le, z_lt, z_eq, z_em, z_me, z_ml, z_mle, z_lm, z_lem, z_pos, z_sub, nI_add, nI_clamp, ib_nI, pm_let, pm_bd, pm_b1, if_true, if_false, ite_true, ite_false, Nat.not_lt_zero, Nat.zero_le, hs_I_pI, hs_I_pA, hs_A_pI, hs_A_pA, and_true, true_and, and_false, false_and, and_self, eq_self, Nat.reduceEqDiff, ↓reduceIte, h40, h41, c0, Nat.add_sub_cancel, ← hm1, e40, ea1, eb1, r1, r2, sxy, kx, ky, sh, zy]
              rw [← hm3]
              simp (disch := omega) only [↓reduceIte, z_lit, z_m1, z_gd, z_le, z_lt, z_eq, z_em, z_me, z_ml, z_mle, z_lm, z_lem, z_pos, z_sub, nI_add, nI_clamp, ib_nI, pm_let, pm_bd, pm_b1, if_true, if_false, ite_true, ite_false, Nat.not_lt_zero, Nat.zero_le, hs_I_pI, hs_I_pA, hs_A_pI, hs_A_pA, and_true, true_and, and_false, false_and, and_self, eq_self, Nat.reduceEqDiff, ↓reduceIte, kx', tm]
              rw [g1]
          · refine ⟨hs_pI m1 0 41 (nI 1), ?_, f1.cons (hs_fr_pI (by decide)), Or.inr ⟨by simp only [hs_I_pI, hs_I_pA, hs_A_pI, hs_A_pA, and_true, true_and, and_false, false_and, and_self, eq_self, Nat.reduceEqDiff, ↓reduceIte], INV_fail hI pab zx zy sh⟩⟩
            obtain ⟨F, rfl⟩ : ∃ z, F = z + 1 := ⟨F - 1, by omega⟩
            have last : l_M_X11_same_0_19 (F + 1) (hs_pI m1 0 41 (nI 1)) = some (hs_pI m1 0 41 (nI 1)) := by
              rw [l_M_X11_same_0_19.eq_2]
              simp (disch := omega) only [↓reduceIte, z_lit, z_m1, z_gd, z_le, z_lt, z_eq, z_em, z_me, z_ml, z_mle, z_lm, z_lem, z_pos, z_sub, nI_add, nI_clamp, ib_nI, pm_let, pm_bd, pm_b1, if_true, if_false, ite_true, ite_false, Nat.not_lt_zero, Nat.zero_le, hs_I_pI, hs_I_pA, hs_A_pI, hs_A_pA, and_true, true_and, and_false, false_and, and_self, eq_self, Nat.reduceEqDiff, ↓reduceIte, e40]
              split <;> simp
            rw [l_M_X11_same_0_19.eq_2]
            simp (disch := omega) only [↓reduceIte, z_lit, z_m1, z_gd, z_le, z_lt, z_eq, z_em, z_me, z_ml, z_mle, z_lm, z_lem, z_pos, z_sub, nI_add, nI_clamp, ib_nI, pm_let, pm_bd, pm_b1, if_true, if_false, ite_true, ite_false, Nat.not_lt_zero, Nat.zero_le, hs_I_pI, hs_I_pA, hs_A_pI, hs_A_pA, and_true, true_and, and_false, false_and, and_self, eq_self, Nat.reduceEqDiff, ↓reduceIte, h40, h41, c0, Nat.add_sub_cancel, ← hm1, e40, ea1, eb1, r1, r2, sxy, kx, ky, zx, zy, sh, last]
def mSm (m : hp_S) (a b : Int32) : hp_S := hs_pI (hs_pA (hs_pA m 27 0 a) 28 0 b) 0 40 (nI 1)
theorem M_same_u {m : hp_S} {a b : Int32} {F : Nat} : f_M_X11_same_0 F a b m = l_M_X11_same_0_19 F (mSm m a b) := by
  have e1 : pm_ib (0 : Int32) 20000 = true := ib_nI (k := 0) (by omega) (by omega)
  have e2 : (0 : Int32).toNatClampNeg = 0 := rfl
  unfold f_M_X11_same_0
  rw [e1, e2]
  simp only [z_gd, pm_let]
  rfl
theorem M_same {A : AA} {R a b F : Nat} {ρ ρ0 dp σ : Nat → Nat} {m : hp_S} (hU : UM m A R ρ dp σ) (hσ : SJ σ R) (hD : DN A R ρ) (ht : nt A R ≤ 4000) (he : ∀ x y, x < R → y < R → (ρ x = ρ y ↔ ρ0 x = ρ0 y)) (h41 : hs_I m 0 41 = nI 0) (ha : a < R) (hb : b < R) (hF : 20000 ≤ F) : ∃ m', f_M_X11_same_0 F (nI (σ a)) (nI (σ b)) m = some m' ∧ hs_fr wP wA m m' ∧ ((hs_I m' 0 41 = nI 0 ∧ ∃ ρ' dp', UM m' A R ρ' dp' σ ∧ DN A R ρ' ∧ (∀ x y, Bs R ρ0 a b x y → rq R ρ' x y) ∧ ∀ Q, EQR R Q → CLO A R Q → (∀ x y, Bs R ρ0 a b x y → Q x y) → ∀ x y, rq R ρ' x y → Q x y) ∨ (hs_I m' 0 41 = nI 1 ∧ FL A R (Bs R ρ0 a b))) := by
  have hR := hU.2.1
  obtain ⟨m1, hm1⟩ : ∃ m1, m1 = mSm m (nI (σ a)) (nI (σ b)) := ⟨_, rfl⟩
  have f1 : hs_fr [(0, 40)] [27, 28] m m1 := by rw [hm1]; exact ((hs_fr_pA (by decide)).cons (hs_fr_pA (by decide))).cons (hs_fr_pI (by decide))
  have e0 : hs_A m1 27 0 = nI (σ a) := by rw [hm1]; simp only [mSm, hs_I_pI, hs_I_pA, hs_A_pI, hs_A_pA, and_true, true_and, and_false, false_and, and_self, eq_self, Nat.reduceEqDiff, ↓reduceIte]
  have e1 : hs_A m1 28 0 = nI (σ b) := by rw [hm1]; simp only [mSm, hs_I_pI, hs_I_pA, hs_A_pI, hs_A_pA, and_true, true_and, and_false, false_and, and_self, eq_self, Nat.reduceEqDiff, ↓reduceIte]
  have e40 : hs_I m1 0 40 = nI 1 := by rw [hm1]; simp only [mSm, hs_I_pI, hs_I_pA, hs_A_pI, hs_A_pA, and_true, true_and, and_false, false_and, and_self, eq_self, Nat.reduceEqDiff, ↓reduceIte]
  have U1 := UM_fr hU f1 (by decide)
  have I1 : INV A R (Bs R ρ0 a b) ρ (PdM m1 σ 1) := by
    refine INV_init U1.2.2.2.2.1 hD ha hb he (fun u v => ⟨fun q => ?_, fun q => ?_⟩)
    · rcases PdM_pop (n := 0) hσ e0 e1 (by omega) (by omega) u v q with q' | ⟨i, i1, -⟩
      · exact q'
      · omega
    · obtain ⟨rfl, rfl⟩ := q
      exact ⟨0, by omega, e0, e1, by omega, by omega⟩
  have V1 : PvM m1 σ R 1 := by
    intro i hi
    obtain rfl : i = 0 := by omega
    exact ⟨a, b, ha, hb, e0, e1⟩
  have t1 := tc_le A R ρ
  obtain ⟨m', g1, g2, g3⟩ := M_uniL hσ (1 + 2 * tc A R ρ) 1 ρ dp m1 F U1 e40 (by rw [f1.1 _ _ (by decide)]; exact h41) I1 V1 (Nat.le_refl _) (by omega) (by omega)
  refine ⟨m', ?_, (f1.mono (by decide) (by decide)).cons g2, ?_⟩
  · rw [M_same_u, ← hm1]
    exact g1
  · rcases g3 with ⟨h1, ρ', dp', h2, h3⟩ | h1
    · have := INV_done h3 (fun u v ⟨i, i1, _⟩ => by omega)
      exact Or.inl ⟨h1, ρ', dp', h2, this⟩
    · exact Or.inr h1
theorem M_sameO {m : hp_S} {a b : Int32} {F : Nat} (h41 : hs_I m 0 41 = nI 1) (hF : 1 ≤ F) : f_M_X11_same_0 F a b m = some (mSm m a b) ∧ hs_fr wP wA m (mSm m a b) ∧ hs_I (mSm m a b) 0 41 = nI 1 := by
  obtain ⟨F, rfl⟩ : ∃ z, F = z + 1 := ⟨F - 1, by omega⟩
  refine ⟨?_, ((hs_fr_pA (by decide)).cons (hs_fr_pA (by decide))).cons (hs_fr_pI (by decide)), by simp only [mSm, hs_I_pI, hs_I_pA, hs_A_pI, hs_A_pA, and_true, true_and, and_false, false_and, and_self, eq_self, Nat.reduceEqDiff, ↓reduceIte]; exact h41⟩
  have e40 : hs_I (mSm m a b) 0 40 = nI 1 := by simp only [mSm, hs_I_pI, hs_I_pA, hs_A_pI, hs_A_pA, and_true, true_and, and_false, false_and, and_self, eq_self, Nat.reduceEqDiff, ↓reduceIte]
  have e41 : hs_I (mSm m a b) 0 41 = nI 1 := by simp only [mSm, hs_I_pI, hs_I_pA, hs_A_pI, hs_A_pA, and_true, true_and, and_false, false_and, and_self, eq_self, Nat.reduceEqDiff, ↓reduceIte]; exact h41
  rw [M_same_u, l_M_X11_same_0_19.eq_2]
  simp (disch := omega) only [↓reduceIte, z_lit, z_m1, z_gd, z_le, z_lt, z_eq, z_em, z_me, z_ml, z_mle, z_lm, z_lem, z_pos, z_sub, nI_add, nI_clamp, ib_nI, pm_let, pm_bd, pm_b1, if_true, if_false, ite_true, ite_false, Nat.not_lt_zero, Nat.zero_le, e40, e41]
  all_goals simp
/-! both at once -/
def JU (s m : hp_S) (A : AA) (R : Nat) (σ : Nat → Nat) : Prop := SJ σ R ∧ hs_I m 0 41 = nI 0 ∧ ∃ ρC dC ρM dM, UC s A R ρC dC ∧ UM m A R ρM dM σ ∧ DN A R ρC ∧ DN A R ρM ∧ ∀ x y, x < R → y < R → (ρC x = ρC y ↔ ρM x = ρM y)
theorem J_unify {A : AA} {R a b k F : Nat} {σ : Nat → Nat} {s m : hp_S} (h : JU s m A R σ) (ht : nt A R ≤ 4000) (ha : a < R) (hb : b < R) (hk : 20000 ≤ k) (hF : 20000 ≤ F) : ∃ r s' m', f_C_X9_unify_31 k (nI a) (nI b) s = some (nI r, s') ∧ f_M_X11_same_0 F (nI (σ a)) (nI (σ b)) m = some m' ∧ hs_fr [] [32, 33, 36] s s' ∧ hs_fr wP wA m m' ∧ ((r = 1 ∧ JU s' m' A R σ) ∨ (r = 0 ∧ hs_I m' 0 41 = nI 1)) := by
  obtain ⟨hσ, h41, ρC, dC, ρM, dM, U, W, D, E, e⟩ := h
  have hW := U.2.2.2.2.1
  obtain ⟨r, s', c1, c2, c3⟩ := C_unify (ρ0 := ρC) U D ht (fun x y _ _ => Iff.rfl) ha hb hk
  obtain ⟨m', d1, d2, d3⟩ := M_same (ρ0 := ρC) W hσ E ht (fun x y hx hy => (e x y hx hy).symm) h41 ha hb hF
  refine ⟨r, s', m', c1, d1, c2, d2, ?_⟩
  rcases c3 with ⟨r1, ρC', dC', U', D', b1, l1⟩ | ⟨r1, f1⟩
  · rcases d3 with ⟨o, ρM', dM', W', E', b2, l2⟩ | ⟨o, f2⟩
    · exact Or.inl ⟨r1, hσ, o, ρC', dC', ρM', dM', U', W', D', E', DN_same hW D' b1 E' b2 l1 l2⟩
    · exact absurd f2 (FL_not hW D' b1)
  · rcases d3 with ⟨o, ρM', dM', W', E', b2, l2⟩ | ⟨o, f2⟩
    · exact absurd f1 (FL_not hW E' b2)
    · exact Or.inr ⟨r1, o⟩
