/-! UNIFY of the class -/
def ck (k : Nat) : Nat := if k = 0 then 0 else k + 1
theorem ck_f {k : Nat} (h : k ≤ 4) : ck k ≠ 1 ∧ ck k < 10 ∧ (ck k = 0 ↔ k = 0) := by
  unfold ck
  split <;> omega
theorem ck_inj {a b : Nat} : (ck a = ck b) ↔ a = b := by
  unfold ck
  split <;> split <;> omega
def UC (s : hp_S) (A : AA) (R : Nat) (ρ dp : Nat → Nat) : Prop := hs_I s 31 5 = nI R ∧ R ≤ 10002 ∧ 0 < R ∧ RT R ρ ∧ WF A R ∧ ∀ x, x < R → dp x ≤ nr R ρ ∧ ((ρ x = x ∧ dp x = 0 ∧ hs_A s 32 x = nI (ck (ash A x)) ∧ (3 ≤ ash A x → hs_A s 33 x = nI (alf A x) ∧ hs_A s 34 x = nI (art A x))) ∨ (ρ x ≠ x ∧ hs_A s 32 x = nI 1 ∧ ∃ y, y < R ∧ hs_A s 33 x = nI y ∧ ρ y = ρ x ∧ dp y < dp x))
theorem C_k31 {s : hp_S} {R x : Nat} (h5 : hs_I s 31 5 = nI R) (hR : R ≤ 10002) (hx : x < R) : f_C_X9_kind_31 (nI x) s = some (hs_A s 32 x, s) := by
  unfold f_C_X9_kind_31
  have c : ¬ R ≤ x := by omega
  simp (disch := omega) only [↓reduceIte, z_lit, z_m1, z_gd, z_le, z_lt, z_eq, z_em, z_me, z_ml, z_mle, z_lm, z_lem, z_pos, z_sub, nI_add, nI_clamp, ib_nI, pm_let, pm_bd, pm_b1, if_true, if_false, ite_true, ite_false, Nat.not_lt_zero, Nat.zero_le, h5, c]
theorem C_l31 {s : hp_S} {R x : Nat} (h5 : hs_I s 31 5 = nI R) (hR : R ≤ 10002) (hx : x < R) : f_C_X9_left_31 (nI x) s = some (hs_A s 33 x, s) := by
  unfold f_C_X9_left_31
  have c : ¬ R ≤ x := by omega
  simp (disch := omega) only [↓reduceIte, z_lit, z_m1, z_gd, z_le, z_lt, z_eq, z_em, z_me, z_ml, z_mle, z_lm, z_lem, z_pos, z_sub, nI_add, nI_clamp, ib_nI, pm_let, pm_bd, pm_b1, if_true, if_false, ite_true, ite_false, Nat.not_lt_zero, Nat.zero_le, h5, c]
theorem C_r31 {s : hp_S} {R x : Nat} (h5 : hs_I s 31 5 = nI R) (hR : R ≤ 10002) (hx : x < R) : f_C_X9_right_31 (nI x) s = some (hs_A s 34 x, s) := by
  unfold f_C_X9_right_31
  have c : ¬ R ≤ x := by omega
  simp (disch := omega) only [↓reduceIte, z_lit, z_m1, z_gd, z_le, z_lt, z_eq, z_em, z_me, z_ml, z_mle, z_lm, z_lem, z_pos, z_sub, nI_add, nI_clamp, ib_nI, pm_let, pm_bd, pm_b1, if_true, if_false, ite_true, ite_false, Nat.not_lt_zero, Nat.zero_le, h5, c]
theorem C_rootL {A : AA} {R : Nat} {ρ dp : Nat → Nat} : ∀ (d x i : Nat) (s : hp_S) (F : Nat), UC s A R ρ dp → x < R → dp x ≤ d → i + d < 10002 → d + 1 ≤ F → ∃ s', l_C_X9_rootOf_31_4 F (nI x) (nI i) s = some (nI (ρ x), s') ∧ UC s' A R ρ dp ∧ hs_fr [] [33] s s' := by
  intro d
  induction d with
  | zero =>
    intro x i s F hU hx hd hi hF
    obtain ⟨F, rfl⟩ : ∃ z, F = z + 1 := ⟨F - 1, by omega⟩
    obtain ⟨u1, u2, u3, u4, u5, u6⟩ := id hU
    obtain ⟨b1, ⟨e, -, k, -⟩ | ⟨-, -, y, -, -, -, b2⟩⟩ := u6 x hx
    · have c1 : ¬ 10002 ≤ i := by omega
      obtain ⟨k1, k2, -⟩ := ck_f (u5 x hx).1
      refine ⟨s, ?_, hU, hs_fr.rf⟩
      rw [l_C_X9_rootOf_31_4.eq_2, e]
      simp (disch := omega) only [↓reduceIte, z_lit, z_m1, z_gd, z_le, z_lt, z_eq, z_em, z_me, z_ml, z_mle, z_lm, z_lem, z_pos, z_sub, nI_add, nI_clamp, ib_nI, pm_let, pm_bd, pm_b1, if_true, if_false, ite_true, ite_false, Nat.not_lt_zero, Nat.zero_le, c1, C_k31 u1 u2 hx, k, k1]
    · omega
  | succ d ih =>
    intro x i s F hU hx hd hi hF
    obtain ⟨F, rfl⟩ : ∃ z, F = z + 1 := ⟨F - 1, by omega⟩
    obtain ⟨u1, u2, u3, u4, u5, u6⟩ := id hU
    have c1 : ¬ 10002 ≤ i := by omega
    obtain ⟨b1, ⟨e, -, k, -⟩ | ⟨n1, n2, y, y1, y2, y3, y4⟩⟩ := u6 x hx
    · obtain ⟨k1, k2, -⟩ := ck_f (u5 x hx).1
      refine ⟨s, ?_, hU, hs_fr.rf⟩
      rw [l_C_X9_rootOf_31_4.eq_2, e]
      simp (disch := omega) only [↓reduceIte, z_lit, z_m1, z_gd, z_le, z_lt, z_eq, z_em, z_me, z_ml, z_mle, z_lm, z_lem, z_pos, z_sub, nI_add, nI_clamp, ib_nI, pm_let, pm_bd, pm_b1, if_true, if_false, ite_true, ite_false, Nat.not_lt_zero, Nat.zero_le, c1, C_k31 u1 u2 hx, k, k1]
    · obtain ⟨b1', ⟨e, -, k, -⟩ | ⟨m1, m2, z, z1, z2, z3, z4⟩⟩ := u6 y y1
      · obtain ⟨k1, k2, -⟩ := ck_f (u5 y y1).1
        obtain ⟨s', r1, r2, r3⟩ := ih y (i + 1) s F hU y1 (by omega) (by omega) (by omega)
        refine ⟨s', ?_, r2, r3⟩
        rw [l_C_X9_rootOf_31_4.eq_2]
        simp (disch := omega) only [↓reduceIte, z_lit, z_m1, z_gd, z_le, z_lt, z_eq, z_em, z_me, z_ml, z_mle, z_lm, z_lem, z_pos, z_sub, nI_add, nI_clamp, ib_nI, pm_let, pm_bd, pm_b1, if_true, if_false, ite_true, ite_false, Nat.not_lt_zero, Nat.zero_le, c1, C_k31 u1 u2 hx, n2, C_l31 u1 u2 hx, y2, C_k31 u1 u2 y1, k, k1]
        rw [r1, y3]
      · have hU' : UC (hs_pA s 33 x (nI z)) A R ρ dp := by
          refine ⟨by simp only [hs_I_pI, hs_I_pA, hs_A_pI, hs_A_pA, and_true, true_and, and_false, false_and, and_self, eq_self, Nat.reduceEqDiff, ↓reduceIte]; exact u1, u2, u3, u4, u5, fun w hw => ?_⟩
          obtain ⟨a1, a2⟩ := u6 w hw
          refine ⟨a1, ?_⟩
          by_cases c : w = x
          · subst c
            refine Or.inr ⟨n1, by simp only [hs_I_pI, hs_I_pA, hs_A_pI, hs_A_pA, and_true, true_and, and_false, false_and, and_self, eq_self, Nat.reduceEqDiff, ↓reduceIte]; exact n2, z, z1, by simp only [hs_I_pI, hs_I_pA, hs_A_pI, hs_A_pA, and_true, true_and, and_false, false_and, and_self, eq_self, Nat.reduceEqDiff, ↓reduceIte], by rw [z3, y3], by omega⟩
          · simp only [hs_I_pI, hs_I_pA, hs_A_pI, hs_A_pA, and_true, true_and, and_false, false_and, and_self, eq_self, Nat.reduceEqDiff, ↓reduceIte, c]
            exact a2
        obtain ⟨s', r1, r2, r3⟩ := ih y (i + 1) _ F hU' y1 (by omega) (by omega) (by omega)
        refine ⟨s', ?_, r2, (hs_fr_pA (by decide)).cons r3⟩
        rw [l_C_X9_rootOf_31_4.eq_2]
        simp (disch := omega) only [↓reduceIte, z_lit, z_m1, z_gd, z_le, z_lt, z_eq, z_em, z_me, z_ml, z_mle, z_lm, z_lem, z_pos, z_sub, nI_add, nI_clamp, ib_nI, pm_let, pm_bd, pm_b1, if_true, if_false, ite_true, ite_false, Nat.not_lt_zero, Nat.zero_le, c1, C_k31 u1 u2 hx, n2, C_l31 u1 u2 hx, y2, C_k31 u1 u2 y1, m2, C_l31 u1 u2 y1, z2]
        rw [r1, y3]
theorem C_rootOf {A : AA} {R x F : Nat} {ρ dp : Nat → Nat} {s : hp_S} (hU : UC s A R ρ dp) (hx : x < R) (hF : 10003 ≤ F) : ∃ s', f_C_X9_rootOf_31 F (nI x) s = some (nI (ρ x), s') ∧ UC s' A R ρ dp ∧ hs_fr [] [33] s s' := by
  have h1 := nr_lt hU.2.2.2.1 hU.2.2.1
  have h2 := (hU.2.2.2.2.2 x hx).1
  have h3 := hU.2.1
  unfold f_C_X9_rootOf_31
  exact C_rootL (dp x) x 0 s F hU hx (Nat.le_refl _) (by omega) (by omega)
def dpl (ρ dp : Nat → Nat) (x : Nat) : Nat → Nat := fun z => if ρ z = x then dp z + 1 else dp z
theorem UC_link {A : AA} {R x y : Nat} {ρ dp : Nat → Nat} {s : hp_S} (hU : UC s A R ρ dp) (hx : x < R) (hy : y < R) (ex : ρ x = x) (ey : ρ y = y) (hne : x ≠ y) : f_C_X9_link_31 (nI x) (nI y) s = some (hs_pA (hs_pA s 32 x (nI 1)) 33 x (nI y)) ∧ UC (hs_pA (hs_pA s 32 x (nI 1)) 33 x (nI y)) A R (lk ρ x y) (dpl ρ dp x) := by
  obtain ⟨u1, u2, u3, u4, u5, u6⟩ := hU
  refine ⟨?_, by simp only [hs_I_pI, hs_I_pA, hs_A_pI, hs_A_pA, and_true, true_and, and_false, false_and, and_self, eq_self, Nat.reduceEqDiff, ↓reduceIte]; exact u1, u2, u3, fun z hz => ?_, u5, fun z hz => ⟨?_, ?_⟩⟩
  · unfold f_C_X9_link_31
    have c : ¬ R ≤ x := by omega
    simp (disch := omega) only [↓reduceIte, z_lit, z_m1, z_gd, z_le, z_lt, z_eq, z_em, z_me, z_ml, z_mle, z_lm, z_lem, z_pos, z_sub, nI_add, nI_clamp, ib_nI, pm_let, pm_bd, pm_b1, if_true, if_false, ite_true, ite_false, Nat.not_lt_zero, Nat.zero_le, u1, c]
  · unfold lk
    by_cases c : ρ z = x
    · rw [if_pos c, ey, if_neg (fun q => hne q.symm)]
      exact ⟨hy, rfl⟩
    · rw [if_neg c, (u4 z hz).2, if_neg c]
      exact ⟨(u4 z hz).1, rfl⟩
  · rw [nr_link hx ex ey hne]
    have := (u6 z hz).1
    unfold dpl
    split <;> omega
  · by_cases c : z = x
    · subst c
      refine Or.inr ⟨?_, by simp only [hs_I_pI, hs_I_pA, hs_A_pI, hs_A_pA, and_true, true_and, and_false, false_and, and_self, eq_self, Nat.reduceEqDiff, ↓reduceIte], y, hy, by simp only [hs_I_pI, hs_I_pA, hs_A_pI, hs_A_pA, and_true, true_and, and_false, false_and, and_self, eq_self, Nat.reduceEqDiff, ↓reduceIte], ?_, ?_⟩
      · unfold lk
        rw [if_pos ex]
        exact fun q => hne q.symm
      · unfold lk
        rw [if_pos ex, ey, if_neg (fun q => hne q.symm)]
      · unfold dpl
        rw [if_pos ex, ey, if_neg (fun q => hne q.symm)]
        obtain ⟨-, ⟨-, d0, -⟩ | ⟨q, -⟩⟩ := u6 y hy
        · omega
        · exact absurd ey q
    · have er := lk_root (ρ := ρ) ex ey hne c
      obtain ⟨-, ⟨a1, a2, a3, a4⟩ | ⟨a1, a2, w, a3, a4, a5, a6⟩⟩ := u6 z hz
      · refine Or.inl ⟨er.mpr a1, ?_, ?_, ?_⟩
        · unfold dpl
          rw [if_neg (by rw [a1]; exact c)]
          exact a2
        · simp only [hs_I_pI, hs_I_pA, hs_A_pI, hs_A_pA, and_true, true_and, and_false, false_and, and_self, eq_self, Nat.reduceEqDiff, ↓reduceIte, c]; exact a3
        · simp only [hs_I_pI, hs_I_pA, hs_A_pI, hs_A_pA, and_true, true_and, and_false, false_and, and_self, eq_self, Nat.reduceEqDiff, ↓reduceIte, c]; exact a4
      · refine Or.inr ⟨fun q => a1 (er.mp q), by simp only [hs_I_pI, hs_I_pA, hs_A_pI, hs_A_pA, and_true, true_and, and_false, false_and, and_self, eq_self, Nat.reduceEqDiff, ↓reduceIte, c]; exact a2, w, a3, by simp only [hs_I_pI, hs_I_pA, hs_A_pI, hs_A_pA, and_true, true_and, and_false, false_and, and_self, eq_self, Nat.reduceEqDiff, ↓reduceIte, c]; exact a4, ?_, ?_⟩
        · unfold lk
          rw [a5]
        · unfold dpl
          rw [a5]
          split <;> omega
def PdC (s : hp_S) (n : Nat) : Nat → Nat → Prop := fun u v => ∃ i, i < n ∧ hs_A s 36 (2 * i) = nI u ∧ hs_A s 36 (2 * i + 1) = nI v ∧ u < 20000 ∧ v < 20000
def PvC (s : hp_S) (R n : Nat) : Prop := ∀ i, i < n → ∃ u v, u < R ∧ v < R ∧ hs_A s 36 (2 * i) = nI u ∧ hs_A s 36 (2 * i + 1) = nI v
theorem C_push {s : hp_S} {n : Nat} {a b : Int32} (hn : 2 * n + 2 ≤ 10002) : f_C_X9_push_31 a b (nI (2 * n)) s = some (nI (2 * (n + 1)), hs_pA (hs_pA s 36 (2 * n) a) 36 (2 * n + 1) b) := by
  unfold f_C_X9_push_31
  have c : 2 * n + 2 ≤ 10002 := hn
  simp (disch := omega) only [↓reduceIte, z_lit, z_m1, z_gd, z_le, z_lt, z_eq, z_em, z_me, z_ml, z_mle, z_lm, z_lem, z_pos, z_sub, nI_add, nI_clamp, ib_nI, pm_let, pm_bd, pm_b1, if_true, if_false, ite_true, ite_false, Nat.not_lt_zero, Nat.zero_le, c]
  rfl
theorem PdC_pop {s : hp_S} {n a b : Nat} (ha : hs_A s 36 (2 * n) = nI a) (hb : hs_A s 36 (2 * n + 1) = nI b) (h1 : a < 20000) (h2 : b < 20000) : ∀ u v, PdC s (n + 1) u v → (u = a ∧ v = b) ∨ PdC s n u v := by
  rintro u v ⟨i, i1, i2, i3, i4, i5⟩
  by_cases c : i = n
  · subst c
    rw [ha, nI_eq (by omega) (by omega)] at i2
    rw [hb, nI_eq (by omega) (by omega)] at i3
    exact Or.inl ⟨i2.symm, i3.symm⟩
  · exact Or.inr ⟨i, by omega, i2, i3, i4, i5⟩
theorem PdC_fr {s s' : hp_S} {n : Nat} (h : ∀ i, i < 2 * n → hs_A s' 36 i = hs_A s 36 i) : ∀ u v, PdC s' n u v ↔ PdC s n u v := by
  intro u v
  constructor
  · rintro ⟨i, i1, i2, i3, i4⟩
    exact ⟨i, i1, by rw [← h _ (by omega)]; exact i2, by rw [← h _ (by omega)]; exact i3, i4⟩
  · rintro ⟨i, i1, i2, i3, i4⟩
    exact ⟨i, i1, by rw [h _ (by omega)]; exact i2, by rw [h _ (by omega)]; exact i3, i4⟩
theorem INV_Pd {A : AA} {R : Nat} {B : Nat → Nat → Prop} {ρ : Nat → Nat} {Pd Pd' : Nat → Nat → Prop} (h : INV A R B ρ Pd) (e : ∀ u v, Pd' u v ↔ Pd u v) : INV A R B ρ Pd' := by
  obtain ⟨i1, i2, i3, i4, i5⟩ := h
  refine ⟨i1, fun u v q => i2 u v ((e u v).mp q), fun Q q1 q2 q3 => ?_, fun Q q1 q2 q3 => i4 Q q1 q2 (fun u v q => q3 u v ((e u v).mpr q)), i5⟩
  obtain ⟨j1, j2⟩ := i3 Q q1 q2 q3
  exact ⟨j1, fun u v q => j2 u v ((e u v).mp q)⟩
theorem C_uniL {A : AA} {R : Nat} {B : Nat → Nat → Prop} : ∀ (Φ n : Nat) (ρ dp : Nat → Nat) (s : hp_S) (y F : Nat), UC s A R ρ dp → INV A R B ρ (PdC s n) → PvC s R n → n + 2 * tc A R ρ ≤ Φ → n + tc A R ρ ≤ 4001 → y + Φ < 1000000 → Φ + 10100 ≤ F →
    ∃ r s', l_C_X9_unify_31_11 F (nI (2 * n)) (nI y) s = some (nI r, s') ∧ hs_fr [] [32, 33, 36] s s' ∧ ((r = 1 ∧ ∃ ρ' dp', UC s' A R ρ' dp' ∧ INV A R B ρ' (PdC s' 0)) ∨ (r = 0 ∧ FL A R B)) := by
  intro Φ
  induction Φ with
  | zero =>
    intro n ρ dp s y F hU hI hV h1 h2 hy hF
    obtain rfl : n = 0 := by omega
    obtain ⟨F, rfl⟩ : ∃ z, F = z + 1 := ⟨F - 1, by omega⟩
    have c1 : ¬ 1000000 ≤ y := by omega
    refine ⟨1, s, ?_, hs_fr.rf, Or.inl ⟨rfl, ρ, dp, hU, hI⟩⟩
    rw [l_C_X9_unify_31_11.eq_2]
    simp (disch := omega) only [↓reduceIte, z_lit, z_m1, z_gd, z_le, z_lt, z_eq, z_em, z_me, z_ml, z_mle, z_lm, z_lem, z_pos, z_sub, nI_add, nI_clamp, ib_nI, pm_let, pm_bd, pm_b1, if_true, if_false, ite_true, ite_false, Nat.not_lt_zero, Nat.zero_le, c1, Nat.mul_zero]
    all_goals simp
  | succ Φ ih =>
    intro n ρ dp s y F hU hI hV h1 h2 hy hF
    obtain ⟨F, rfl⟩ : ∃ z, F = z + 1 := ⟨F - 1, by omega⟩
    have c1 : ¬ 1000000 ≤ y := by omega
    by_cases n0 : n = 0
    · subst n0
      refine ⟨1, s, ?_, hs_fr.rf, Or.inl ⟨rfl, ρ, dp, hU, hI⟩⟩
      rw [l_C_X9_unify_31_11.eq_2]
      simp (disch := omega) only [↓reduceIte, z_lit, z_m1, z_gd, z_le, z_lt, z_eq, z_em, z_me, z_ml, z_mle, z_lm, z_lem, z_pos, z_sub, nI_add, nI_clamp, ib_nI, pm_let, pm_bd, pm_b1, if_true, if_false, ite_true, ite_false, Nat.not_lt_zero, Nat.zero_le, c1, Nat.mul_zero]
      all_goals simp
    obtain ⟨n, rfl⟩ : ∃ z, n = z + 1 := ⟨n - 1, by omega⟩
    have hR := hU.2.1
    obtain ⟨a, b, ha, hb, ea, eb⟩ := hV n (by omega)
    obtain ⟨s1, r1, U1, f1⟩ := C_rootOf (F := F) hU ha (by omega)
    have eb1 : hs_A s1 36 (2 * n + 1) = nI b := by rw [f1.2 36 (by decide)]; exact eb
    obtain ⟨s2, r2, U2, f2⟩ := C_rootOf (F := F) U1 hb (by omega)
    have f12 : hs_fr [] [33] s s2 := f1.cons f2
    have e36 : ∀ i, hs_A s2 36 i = hs_A s 36 i := fun i => f12.2 36 (by decide) i
    have hx := (hI.1 a ha).1
    have ex := (hI.1 a ha).2
    have hy' := (hI.1 b hb).1
    have ey := (hI.1 b hb).2
    have pab : PdC s (n + 1) a b := ⟨n, by omega, ea, eb, by omega, by omega⟩
    have pop := PdC_pop (s := s) ea eb (by omega) (by omega)
    have sub : ∀ u v, PdC s n u v → PdC s (n + 1) u v := fun u v ⟨i, i1, i2⟩ => ⟨i, by omega, i2⟩
    have c2 : ¬ 2 * (n + 1) < 2 := by omega
    have c3 : ¬ 10002 < 2 * (n + 1) := by omega
    have em : nI (2 * (n + 1)) + (-2 : Int32) = nI (2 * n) := by
      rw [show nI (2 * (n + 1)) + (-2 : Int32) = nI (2 * (n + 1)) - nI 2 by rw [Int32.sub_eq_add_neg]; rfl, z_sub (by omega) (by omega)]
      congr 1
    have e5 := U2.1
    obtain ⟨-, ⟨-, -, kx, lx⟩ | ⟨q, -⟩⟩ := U2.2.2.2.2.2 (ρ a) hx
    case inr => exact absurd ex q
    obtain ⟨-, ⟨-, -, ky, ly⟩ | ⟨q, -⟩⟩ := U2.2.2.2.2.2 (ρ b) hy'
    case inr => exact absurd ey q
    have wx := (U2.2.2.2.2.1 (ρ a) hx).1
    have wy := (U2.2.2.2.2.1 (ρ b) hy').1
    obtain ⟨kx1, kx2, kx3⟩ := ck_f wx
    obtain ⟨ky1, ky2, ky3⟩ := ck_f wy
    have Kx := C_k31 e5 hR hx
    have Ky := C_k31 e5 hR hy'
    rw [kx] at Kx
    rw [ky] at Ky
    have PV : ∀ s', (∀ i, i < 2 * n → hs_A s' 36 i = hs_A s 36 i) → PvC s' R n := by
      intro s' h i hi
      obtain ⟨u, v, g1, g2, g3, g4⟩ := hV i (by omega)
      exact ⟨u, v, g1, g2, by rw [h _ (by omega)]; exact g3, by rw [h _ (by omega)]; exact g4⟩
    by_cases exy : ρ a = ρ b
    · -- the same already
      have I2 : INV A R B ρ (PdC s2 n) := INV_Pd (INV_same hI ha hb exy pop sub) (PdC_fr (fun i _ => e36 i))
      obtain ⟨r, s', g1, g2, g3⟩ := ih n ρ dp s2 (y + 1) F U2 I2 (PV s2 (fun i _ => e36 i)) (by omega) (by omega) (by omega) (by omega)
      refine ⟨r, s', ?_, (f12.mono (by simp) (by decide)).cons g2, g3⟩
      rw [l_C_X9_unify_31_11.eq_2, em]
      simp (disch := omega) only [↓reduceIte, z_lit, z_m1, z_gd, z_le, z_lt, z_eq, z_em, z_me, z_ml, z_mle, z_lm, z_lem, z_pos, z_sub, nI_add, nI_clamp, ib_nI, pm_let, pm_bd, pm_b1, if_true, if_false, ite_true, ite_false, Nat.not_lt_zero, Nat.zero_le, c1, c2, c3, ea, r1, eb1, r2, exy]
      rw [g1]
    · have exy' : ¬ ρ b = ρ a := fun q => exy q.symm
      by_cases zx : ash A (ρ a) = 0
      · -- the first is free
        obtain ⟨l1, UL1⟩ := UC_link U2 hx hy' ex ey exy
        have t1 := tc_link0 (A := A) (R := R) (ρ := ρ) ex ey exy
        obtain ⟨s3, hs3⟩ : ∃ s3, s3 = hs_pA (hs_pA s2 32 (ρ a) (nI 1)) 33 (ρ a) (nI (ρ b)) := ⟨_, rfl⟩
        rw [← hs3] at l1 UL1
        have e36' : ∀ i, hs_A s3 36 i = hs_A s 36 i := fun i => by rw [hs3]; simp only [hs_I_pI, hs_I_pA, hs_A_pI, hs_A_pA, and_true, true_and, and_false, false_and, and_self, eq_self, Nat.reduceEqDiff, ↓reduceIte]; exact e36 i
        have I2 : INV A R B (lk ρ (ρ a) (ρ b)) (PdC s3 n) := INV_Pd (INV_link (Pd' := PdC s n) U2.2.2.2.2.1 hI pab (Or.inl ⟨rfl, rfl⟩) exy (Or.inl zx) pop (fun u v q => Or.inl (sub u v q))) (PdC_fr (fun i _ => e36' i))
        obtain ⟨r, s', g1, g2, g3⟩ := ih n _ _ s3 (y + 1) F UL1 I2 (PV s3 (fun i _ => e36' i)) (by omega) (by omega) (by omega) (by omega)
        have f3 : hs_fr [] [32, 33, 36] s2 s3 := by rw [hs3]; exact (hs_fr_pA (by decide)).cons (hs_fr_pA (by decide))
        refine ⟨r, s', ?_, ((f12.mono (by simp) (by decide)).cons f3).cons g2, g3⟩
        have k0 : ck (ash A (ρ a)) = 0 := kx3.mpr zx
        rw [l_C_X9_unify_31_11.eq_2, em]
        simp (disch := omega) only [↓reduceIte, z_lit, z_m1, z_gd, z_le, z_lt, z_eq, z_em, z_me, z_ml, z_mle, z_lm, z_lem, z_pos, z_sub, nI_add, nI_clamp, ib_nI, pm_let, pm_bd, pm_b1, if_true, if_false, ite_true, ite_false, Nat.not_lt_zero, Nat.zero_le, c1, c2, c3, ea, r1, eb1, r2, exy, Kx, k0, l1]
        rw [g1]
      · have k0 : ¬ ck (ash A (ρ a)) = 0 := fun q => zx (kx3.mp q)
        by_cases zy : ash A (ρ b) = 0
        · -- the second is free
          obtain ⟨l1, UL1⟩ := UC_link U2 hy' hx ey ex exy'
          have t1 := tc_link0 (A := A) (R := R) (ρ := ρ) ey ex exy'
          obtain ⟨s3, hs3⟩ : ∃ s3, s3 = hs_pA (hs_pA s2 32 (ρ b) (nI 1)) 33 (ρ b) (nI (ρ a)) := ⟨_, rfl⟩
          rw [← hs3] at l1 UL1
          have e36' : ∀ i, hs_A s3 36 i = hs_A s 36 i := fun i => by rw [hs3]; simp only [hs_I_pI, hs_I_pA, hs_A_pI, hs_A_pA, and_true, true_and, and_false, false_and, and_self, eq_self, Nat.reduceEqDiff, ↓reduceIte]; exact e36 i
          have I2 : INV A R B (lk ρ (ρ b) (ρ a)) (PdC s3 n) := INV_Pd (INV_link (Pd' := PdC s n) U2.2.2.2.2.1 hI pab (Or.inr ⟨rfl, rfl⟩) exy' (Or.inl zy) pop (fun u v q => Or.inl (sub u v q))) (PdC_fr (fun i _ => e36' i))
          obtain ⟨r, s', g1, g2, g3⟩ := ih n _ _ s3 (y + 1) F UL1 I2 (PV s3 (fun i _ => e36' i)) (by omega) (by omega) (by omega) (by omega)
          have f3 : hs_fr [] [32, 33, 36] s2 s3 := by rw [hs3]; exact (hs_fr_pA (by decide)).cons (hs_fr_pA (by decide))
          refine ⟨r, s', ?_, ((f12.mono (by simp) (by decide)).cons f3).cons g2, g3⟩
          have k1 : ck (ash A (ρ b)) = 0 := ky3.mpr zy
          rw [l_C_X9_unify_31_11.eq_2, em]
          simp (disch := omega) only [↓reduceIte, z_lit, z_m1, z_gd, z_le, z_lt, z_eq, z_em, z_me, z_ml, z_mle, z_lm, z_lem, z_pos, z_sub, nI_add, nI_clamp, ib_nI, pm_let, pm_bd, pm_b1, if_true, if_false, ite_true, ite_false, Nat.not_lt_zero, Nat.zero_le, c1, c2, c3, ea, r1, eb1, r2, exy, Kx, k0, Ky, k1, l1]
          rw [g1]
        · have k1 : ¬ ck (ash A (ρ b)) = 0 := fun q => zy (ky3.mp q)
          by_cases sh : ash A (ρ a) = ash A (ρ b)
          · have k2 : ck (ash A (ρ a)) = ck (ash A (ρ b)) := ck_inj.mpr sh
            obtain ⟨l1, UL1⟩ := UC_link U2 hx hy' ex ey exy
            obtain ⟨s3, hs3⟩ : ∃ s3, s3 = hs_pA (hs_pA s2 32 (ρ a) (nI 1)) 33 (ρ a) (nI (ρ b)) := ⟨_, rfl⟩
            rw [← hs3] at l1 UL1
            have f3 : hs_fr [] [32, 33, 36] s2 s3 := by rw [hs3]; exact (hs_fr_pA (by decide)).cons (hs_fr_pA (by decide))
            by_cases tm : 3 ≤ ash A (ρ a)
            · -- functions, or pairs
              have t1 := tc_link (A := A) (R := R) (ρ := ρ) hx ex ey exy tm
              obtain ⟨lx1, lx2⟩ := lx tm
              obtain ⟨ly1, ly2⟩ := ly (by omega)
              obtain ⟨wl, wr⟩ := (U2.2.2.2.2.1 (ρ a) hx).2 tm
              obtain ⟨wl', wr'⟩ := (U2.2.2.2.2.1 (ρ b) hy').2 (by omega)
              have e5' := UL1.1
              have ly1' : hs_A s3 33 (ρ b) = nI (alf A (ρ b)) := by rw [hs3]; simp only [hs_I_pI, hs_I_pA, hs_A_pI, hs_A_pA, and_true, true_and, and_false, false_and, and_self, eq_self, Nat.reduceEqDiff, ↓reduceIte, exy']; exact ly1
              have ly2' : hs_A s3 34 (ρ b) = nI (art A (ρ b)) := by rw [hs3]; simp only [hs_I_pI, hs_I_pA, hs_A_pI, hs_A_pA, and_true, true_and, and_false, false_and, and_self, eq_self, Nat.reduceEqDiff, ↓reduceIte]; exact ly2
              obtain ⟨s4, hs4⟩ : ∃ s4, s4 = hs_pA (hs_pA s3 36 (2 * n) (nI (art A (ρ a)))) 36 (2 * n + 1) (nI (art A (ρ b))) := ⟨_, rfl⟩
              obtain ⟨s5, hs5⟩ : ∃ s5, s5 = hs_pA (hs_pA s4 36 (2 * (n + 1)) (nI (alf A (ρ a)))) 36 (2 * (n + 1) + 1) (nI (alf A (ρ b))) := ⟨_, rfl⟩
              have p1 : f_C_X9_push_31 (nI (art A (ρ a))) (nI (art A (ρ b))) (nI (2 * n)) s3 = some (nI (2 * (n + 1)), s4) := by rw [hs4]; exact C_push (by omega)
              have p2 : f_C_X9_push_31 (nI (alf A (ρ a))) (nI (alf A (ρ b))) (nI (2 * (n + 1))) s4 = some (nI (2 * (n + 1 + 1)), s5) := by rw [hs5]; exact C_push (by omega)
              have hp : f_C_X9_hasParts (nI (ck (ash A (ρ a)))) s2 = some (nI 1, s2) := by
                unfold f_C_X9_hasParts
                rcases (show ash A (ρ a) = 3 ∨ ash A (ρ a) = 4 by omega) with q | q
                · rw [q]; simp (disch := omega) only [↓reduceIte, z_lit, z_m1, z_gd, z_le, z_lt, z_eq, z_em, z_me, z_ml, z_mle, z_lm, z_lem, z_pos, z_sub, nI_add, nI_clamp, ib_nI, pm_let, pm_bd, pm_b1, if_true, if_false, ite_true, ite_false, Nat.not_lt_zero, Nat.zero_le, show ck 3 = 4 from rfl]
                · rw [q]; simp (disch := omega) only [↓reduceIte, z_lit, z_m1, z_gd, z_le, z_lt, z_eq, z_em, z_me, z_ml, z_mle, z_lm, z_lem, z_pos, z_sub, nI_add, nI_clamp, ib_nI, pm_let, pm_bd, pm_b1, if_true, if_false, ite_true, ite_false, Nat.not_lt_zero, Nat.zero_le, show ck 4 = 5 from rfl]
                  all_goals simp
              have up : f_C_X9_unifyParts_31 (nI (ρ a)) (nI (ρ b)) (nI (2 * n)) s2 = some (nI (2 * (n + 1 + 1)), s5) := by
                unfold f_C_X9_unifyParts_31
                simp (disch := omega) only [↓reduceIte, z_lit, z_m1, z_gd, z_le, z_lt, z_eq, z_em, z_me, z_ml, z_mle, z_lm, z_lem, z_pos, z_sub, nI_add, nI_clamp, ib_nI, pm_let, pm_bd, pm_b1, if_true, if_false, ite_true, ite_false, Nat.not_lt_zero, Nat.zero_le, Kx, hp, C_l31 e5 hR hx, C_r31 e5 hR hx, lx1, lx2, l1, C_l31 e5' hR hy', C_r31 e5' hR hy', ly1', ly2', p1, p2]
                all_goals simp
              have f5 : hs_fr [] [36] s3 s5 := by
                rw [hs5, hs4]
                exact ((hs_fr_pA (by decide)).cons (hs_fr_pA (by decide))).cons ((hs_fr_pA (by decide)).cons (hs_fr_pA (by decide)))
              have U5 : UC s5 A R (lk ρ (ρ a) (ρ b)) (dpl ρ dp (ρ a)) := by
                obtain ⟨v1, v2, v3, v4, v5, v6⟩ := UL1
                refine ⟨by rw [f5.1 _ _ (by simp)]; exact v1, v2, v3, v4, v5, fun z hz => ?_⟩
                rw [f5.2 32 (by decide), f5.2 33 (by decide), f5.2 34 (by decide)]
                exact v6 z hz
              have a5 : ∀ i, hs_A s5 36 i = if i = 2 * n + 3 then nI (alf A (ρ b)) else if i = 2 * n + 2 then nI (alf A (ρ a)) else if i = 2 * n + 1 then nI (art A (ρ b)) else if i = 2 * n then nI (art A (ρ a)) else hs_A s 36 i := by
                intro i
                rw [hs5, hs4, hs3]
                simp only [hs_I_pI, hs_I_pA, hs_A_pI, hs_A_pA, and_true, true_and, and_false, false_and, and_self, eq_self, Nat.reduceEqDiff, ↓reduceIte]
                rw [e36]
                rfl
              have old : ∀ i, i < 2 * n → hs_A s5 36 i = hs_A s 36 i := fun i hi => by
                rw [a5, if_neg (by omega), if_neg (by omega), if_neg (by omega), if_neg (by omega)]
              have PL : PdC s5 (n + 2) (alf A (ρ a)) (alf A (ρ b)) := ⟨n + 1, by omega, by rw [a5]; rw [if_neg (by omega), if_pos (by omega)], by rw [a5, if_pos (by omega)], by omega, by omega⟩
              have PR : PdC s5 (n + 2) (art A (ρ a)) (art A (ρ b)) := ⟨n, by omega, by rw [a5, if_neg (by omega), if_neg (by omega), if_neg (by omega), if_pos rfl], by rw [a5, if_neg (by omega), if_neg (by omega), if_pos rfl], by omega, by omega⟩
              have I5 : INV A R B (lk ρ (ρ a) (ρ b)) (PdC s5 (n + 2)) := by
                refine INV_link U2.2.2.2.2.1 hI pab (Or.inl ⟨rfl, rfl⟩) exy (Or.inr ⟨sh, fun _ => ⟨PL, PR⟩⟩) (fun u v q => ?_) (fun u v q => ?_)
                · rcases pop u v q with q' | q'
                  · exact Or.inl q'
                  · obtain ⟨i, i1, i2⟩ := (PdC_fr old u v).mpr q'
                    exact Or.inr ⟨i, by omega, i2⟩
                · obtain ⟨i, i1, i2, i3, i4, i5⟩ := q
                  by_cases d1 : i = n + 1
                  · subst d1
                    rw [a5, if_neg (by omega), if_pos (by omega), nI_eq (by omega) (by omega)] at i2
                    rw [a5, if_pos (by omega), nI_eq (by omega) (by omega)] at i3
                    exact Or.inr ⟨tm, sh, Or.inl ⟨i2.symm, i3.symm⟩⟩
                  by_cases d2 : i = n
                  · subst d2
                    rw [a5, if_neg (by omega), if_neg (by omega), if_neg (by omega), if_pos rfl, nI_eq (by omega) (by omega)] at i2
                    rw [a5, if_neg (by omega), if_neg (by omega), if_pos rfl, nI_eq (by omega) (by omega)] at i3
                    exact Or.inr ⟨tm, sh, Or.inr ⟨i2.symm, i3.symm⟩⟩
                  · exact Or.inl (sub u v ((PdC_fr old u v).mp ⟨i, by omega, i2, i3, i4, i5⟩))
              have V5 : PvC s5 R (n + 2) := by
                intro i hi
                by_cases d1 : i = n + 1
                · subst d1
                  exact ⟨alf A (ρ a), alf A (ρ b), wl, wl', by rw [a5, if_neg (by omega), if_pos (by omega)], by rw [a5, if_pos (by omega)]⟩
                by_cases d2 : i = n
                · subst d2
                  exact ⟨art A (ρ a), art A (ρ b), wr, wr', by rw [a5, if_neg (by omega), if_neg (by omega), if_neg (by omega), if_pos rfl], by rw [a5, if_neg (by omega), if_neg (by omega), if_pos rfl]⟩
                · exact PV s5 old i (by omega)
              obtain ⟨r, s', g1, g2, g3⟩ := ih (n + 2) _ _ s5 (y + 1) F U5 I5 V5 (by omega) (by omega) (by omega) (by omega)
              refine ⟨r, s', ?_, ((f12.mono (by simp) (by decide)).cons f3).cons ((f5.mono (by simp) (by decide)).cons g2), g3⟩
              rw [l_C_X9_unify_31_11.eq_2, em]
              simp (disch := omega) only [↓reduceIte, z_lit, z_m1, z_gd, z_le, z_lt, z_eq, z_em, z_me, z_ml, z_mle, z_lm, z_lem, z_pos, z_sub, nI_add, nI_clamp, ib_nI, pm_let, pm_bd, pm_b1, if_true, if_false, ite_true, ite_false, Nat.not_lt_zero, Nat.zero_le, c1, c2, c3, ea, r1, eb1, r2, exy, Kx, k0, Ky, k1, k2, up]
              exact g1
            · -- int, or bool
              have t1 := tc_link0 (A := A) (R := R) (ρ := ρ) ex ey exy
              have e36' : ∀ i, hs_A s3 36 i = hs_A s 36 i := fun i => by rw [hs3]; simp only [hs_I_pI, hs_I_pA, hs_A_pI, hs_A_pA, and_true, true_and, and_false, false_and, and_self, eq_self, Nat.reduceEqDiff, ↓reduceIte]; exact e36 i
              have I2 : INV A R B (lk ρ (ρ a) (ρ b)) (PdC s3 n) := INV_Pd (INV_link (Pd' := PdC s n) U2.2.2.2.2.1 hI pab (Or.inl ⟨rfl, rfl⟩) exy (Or.inr ⟨sh, fun q => absurd q tm⟩) pop (fun u v q => Or.inl (sub u v q))) (PdC_fr (fun i _ => e36' i))
              obtain ⟨r, s', g1, g2, g3⟩ := ih n _ _ s3 (y + 1) F UL1 I2 (PV s3 (fun i _ => e36' i)) (by omega) (by omega) (by omega) (by omega)
              have hp : f_C_X9_hasParts (nI (ck (ash A (ρ a)))) s2 = some (nI 0, s2) := by
                unfold f_C_X9_hasParts
                rcases (show ash A (ρ a) = 1 ∨ ash A (ρ a) = 2 by omega) with q | q
                · rw [q]; simp (disch := omega) only [↓reduceIte, z_lit, z_m1, z_gd, z_le, z_lt, z_eq, z_em, z_me, z_ml, z_mle, z_lm, z_lem, z_pos, z_sub, nI_add, nI_clamp, ib_nI, pm_let, pm_bd, pm_b1, if_true, if_false, ite_true, ite_false, Nat.not_lt_zero, Nat.zero_le, show ck 1 = 2 from rfl]
                  all_goals simp
                · rw [q]; simp (disch := omega) only [↓reduceIte, z_lit, z_m1, z_gd, z_le, z_lt, z_eq, z_em, z_me, z_ml, z_mle, z_lm, z_lem, z_pos, z_sub, nI_add, nI_clamp, ib_nI, pm_let, pm_bd, pm_b1, if_true, if_false, ite_true, ite_false, Nat.not_lt_zero, Nat.zero_le, show ck 2 = 3 from rfl]
                  all_goals simp
              have up : f_C_X9_unifyParts_31 (nI (ρ a)) (nI (ρ b)) (nI (2 * n)) s2 = some (nI (2 * n), s3) := by
                unfold f_C_X9_unifyParts_31
                simp (disch := omega) only [↓reduceIte, z_lit, z_m1, z_gd, z_le, z_lt, z_eq, z_em, z_me, z_ml, z_mle, z_lm, z_lem, z_pos, z_sub, nI_add, nI_clamp, ib_nI, pm_let, pm_bd, pm_b1, if_true, if_false, ite_true, ite_false, Nat.not_lt_zero, Nat.zero_le, Kx, hp, l1]
              refine ⟨r, s', ?_, ((f12.mono (by simp) (by decide)).cons f3).cons g2, g3⟩
              rw [l_C_X9_unify_31_11.eq_2, em]
              simp (disch := omega) only [↓reduceIte, z_lit, z_m1, z_gd, z_le, z_lt, z_eq, z_em, z_me, z_ml, z_mle, z_lm, z_lem, z_pos, z_sub, nI_add, nI_clamp, ib_nI, pm_let, pm_bd, pm_b1, if_true, if_false, ite_true, ite_false, Nat.not_lt_zero, Nat.zero_le, c1, c2, c3, ea, r1, eb1, r2, exy, Kx, k0, Ky, k1, k2, up]
              rw [g1]
          · -- shapes at odds
            have k2 : ¬ ck (ash A (ρ a)) = ck (ash A (ρ b)) := fun q => sh (ck_inj.mp q)
            refine ⟨0, s2, ?_, f12.mono (by simp) (by decide), Or.inr ⟨rfl, INV_fail hI pab zx zy sh⟩⟩
            rw [l_C_X9_unify_31_11.eq_2, em]
            simp (disch := omega) only [↓reduceIte, z_lit, z_m1, z_gd, z_le, z_lt, z_eq, z_em, z_me, z_ml, z_mle, z_lm, z_lem, z_pos, z_sub, nI_add, nI_clamp, ib_nI, pm_let, pm_bd, pm_b1, if_true, if_false, ite_true, ite_false, Nat.not_lt_zero, Nat.zero_le, c1, c2, c3, ea, r1, eb1, r2, exy, Kx, k0, Ky, k1, k2]
theorem C_unify {A : AA} {R a b F : Nat} {ρ ρ0 dp : Nat → Nat} {s : hp_S} (hU : UC s A R ρ dp) (hD : DN A R ρ) (ht : nt A R ≤ 4000) (he : ∀ x y, x < R → y < R → (ρ x = ρ y ↔ ρ0 x = ρ0 y)) (ha : a < R) (hb : b < R) (hF : 20000 ≤ F) : ∃ r s', f_C_X9_unify_31 F (nI a) (nI b) s = some (nI r, s') ∧ hs_fr [] [32, 33, 36] s s' ∧ ((r = 1 ∧ ∃ ρ' dp', UC s' A R ρ' dp' ∧ DN A R ρ' ∧ (∀ x y, Bs R ρ0 a b x y → rq R ρ' x y) ∧ ∀ Q, EQR R Q → CLO A R Q → (∀ x y, Bs R ρ0 a b x y → Q x y) → ∀ x y, rq R ρ' x y → Q x y) ∨ (r = 0 ∧ FL A R (Bs R ρ0 a b))) := by
  have hR := hU.2.1
  have p1 := C_push (s := s) (n := 0) (a := nI a) (b := nI b) (by omega)
  obtain ⟨s1, hs1⟩ : ∃ s1, s1 = hs_pA (hs_pA s 36 (2 * 0) (nI a)) 36 (2 * 0 + 1) (nI b) := ⟨_, rfl⟩
  rw [← hs1] at p1
  have f1 : hs_fr [] [36] s s1 := by rw [hs1]; exact (hs_fr_pA (by decide)).cons (hs_fr_pA (by decide))
  have e0 : hs_A s1 36 (2 * 0) = nI a := by rw [hs1]; simp only [hs_I_pI, hs_I_pA, hs_A_pI, hs_A_pA, and_true, true_and, and_false, false_and, and_self, eq_self, Nat.reduceEqDiff, ↓reduceIte]; simp
  have e1 : hs_A s1 36 (2 * 0 + 1) = nI b := by rw [hs1]; simp only [hs_I_pI, hs_I_pA, hs_A_pI, hs_A_pA, and_true, true_and, and_false, false_and, and_self, eq_self, Nat.reduceEqDiff, ↓reduceIte]
  have U1 : UC s1 A R ρ dp := by
    obtain ⟨v1, v2, v3, v4, v5, v6⟩ := hU
    refine ⟨by rw [f1.1 _ _ (by simp)]; exact v1, v2, v3, v4, v5, fun z hz => ?_⟩
    rw [f1.2 32 (by decide), f1.2 33 (by decide), f1.2 34 (by decide)]
    exact v6 z hz
  have I1 : INV A R (Bs R ρ0 a b) ρ (PdC s1 1) := by
    refine INV_init U1.2.2.2.2.1 hD ha hb he (fun u v => ⟨fun q => ?_, fun q => ?_⟩)
    · rcases PdC_pop (s := s1) (n := 0) e0 e1 (by omega) (by omega) u v q with q' | ⟨i, i1, -⟩
      · exact q'
      · omega
    · obtain ⟨rfl, rfl⟩ := q
      exact ⟨0, by omega, e0, e1, by omega, by omega⟩
  have V1 : PvC s1 R 1 := by
    intro i hi
    obtain rfl : i = 0 := by omega
    exact ⟨a, b, ha, hb, e0, e1⟩
  have t1 := tc_le A R ρ
  obtain ⟨r, s', g1, g2, g3⟩ := C_uniL (1 + 2 * tc A R ρ) 1 ρ dp s1 0 F U1 I1 V1 (Nat.le_refl _) (by omega) (by omega) (by omega)
  refine ⟨r, s', ?_, (f1.mono (by simp) (by decide)).cons g2, ?_⟩
  · have p1' : f_C_X9_push_31 (nI a) (nI b) 0 s = some (nI 2, s1) := p1
    unfold f_C_X9_unify_31
    rw [p1']
    exact g1
  · rcases g3 with ⟨h1, ρ', dp', h2, h3⟩ | h1
    · have := INV_done h3 (fun u v ⟨i, i1, _⟩ => by omega)
      exact Or.inl ⟨h1, ρ', dp', h2, this⟩
    · exact Or.inr h1
