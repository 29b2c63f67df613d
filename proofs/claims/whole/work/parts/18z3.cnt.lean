/-! COUNTING the nodes that begin below a token -/
def bl (m : hp_S) (t : Nat) : Nat → Nat
  | 0 => 0
  | q + 1 => bl m t q + if fj m q < t then 1 else 0
def inj (m : hp_S) (q : Nat) : Prop := ∀ i j, i < q → j < q → fj m i = fj m j → i = j
theorem bl_le (m : hp_S) (t : Nat) : ∀ q, bl m t q ≤ q
  | 0 => Nat.le_refl _
  | q + 1 => by
    have := bl_le m t q
    simp only [bl]
    split <;> omega
theorem bl_mono (m : hp_S) {t u : Nat} (h : t ≤ u) : ∀ q, bl m t q ≤ bl m u q
  | 0 => Nat.le_refl _
  | q + 1 => by
    have := bl_mono m h q
    simp only [bl]
    split <;> split <;> omega
theorem bl_lt (m : hp_S) {t u j : Nat} (h : t ≤ fj m j) (h2 : fj m j < u) : ∀ q, j < q → bl m t q < bl m u q
  | 0, hj => by omega
  | q + 1, hj => by
    have h3 := bl_mono m (show t ≤ u by omega) q
    simp only [bl]
    by_cases c : j = q
    · subst c
      rw [if_neg (by omega), if_pos h2]
      omega
    · have h4 := bl_lt m h h2 q (by omega)
      split <;> split <;> omega
theorem bl_no (m : hp_S) {t : Nat} : ∀ q, (∀ j, j < q → fj m j ≠ t) → bl m (t + 1) q = bl m t q
  | 0, _ => rfl
  | q + 1, h => by
    have h1 := bl_no m q (fun j hj => h j (by omega))
    have h2 := h q (by omega)
    simp only [bl, h1]
    by_cases c : fj m q < t
    · rw [if_pos (by omega), if_pos c]
    · rw [if_neg (by omega), if_neg c]
theorem bl_yes (m : hp_S) {t : Nat} : ∀ q j, j < q → fj m j = t → inj m q → bl m (t + 1) q = bl m t q + 1
  | 0, j, hj, _, _ => by omega
  | q + 1, j, hj, hf, hi => by
    by_cases c : j = q
    · subst c
      have h1 := bl_no m (t := t) j (fun i h1 h2 => by have := hi i j (by omega) (by omega) (by omega); omega)
      simp only [bl, h1]
      rw [if_pos (by omega), if_neg (by omega)]
    · have h1 := bl_yes m q j (by omega) hf (fun a b ha hb => hi a b (by omega) (by omega))
      have h2 : fj m q ≠ t := fun h => c (hi j q (by omega) (by omega) (by omega))
      simp only [bl, h1]
      by_cases c2 : fj m q < t
      · rw [if_pos (by omega), if_pos c2]
      · rw [if_neg (by omega), if_neg c2]
theorem bl_zero (m : hp_S) : ∀ q, bl m 0 q = 0
  | 0 => rfl
  | q + 1 => by simp [bl, bl_zero m q]
theorem bl_all (m : hp_S) {t : Nat} : ∀ q, (∀ j, j < q → fj m j < t) → bl m t q = q
  | 0, _ => rfl
  | q + 1, h => by
    simp only [bl, bl_all m q (fun j hj => h j (by omega)), if_pos (h q (by omega))]
theorem stp {g : Nat → Nat} {k : Nat} (h0 : g 0 = 0) (h1 : ∀ t, g (t + 1) ≤ g t + 1) : ∀ T, k < g T → ∃ t, t < T ∧ g t = k ∧ g (t + 1) = k + 1
  | 0, h => by omega
  | T + 1, h => by
    by_cases c : k < g T
    · obtain ⟨t, a, b⟩ := stp h0 h1 T c
      exact ⟨t, by omega, b⟩
    · have := h1 T
      exact ⟨T, by omega, by omega, by omega⟩
def nu (m : hp_S) (q j : Nat) : Nat := bl m (fj m j) q
theorem nu_lt {m : hp_S} {q j : Nat} (hj : j < q) : nu m q j < q := by
  have h1 := bl_lt m (Nat.le_refl (fj m j)) (show fj m j < fj m j + 1 by omega) q hj
  have h2 := bl_le m (fj m j + 1) q
  unfold nu
  omega
theorem nu_inj {m : hp_S} {q i j : Nat} (h : inj m q) (hi : i < q) (hj : j < q) (e : nu m q i = nu m q j) : i = j := by
  unfold nu at e
  rcases Nat.lt_trichotomy (fj m i) (fj m j) with c | c | c
  · have := bl_lt m (Nat.le_refl (fj m i)) c q hi; omega
  · exact h i j hi hj c
  · have := bl_lt m (Nat.le_refl (fj m j)) c q hj; omega
theorem nu_sur {m : hp_S} {q k T : Nat} (h : inj m q) (hT : ∀ j, j < q → fj m j < T) (hk : k < q) : ∃ j, j < q ∧ nu m q j = k := by
  have hs : ∀ t, bl m (t + 1) q = bl m t q ∨ ∃ j, j < q ∧ fj m j = t := by
    intro t
    by_cases c : ∃ j, j < q ∧ fj m j = t
    · exact Or.inr c
    · exact Or.inl (bl_no m q (fun j hj e => c ⟨j, hj, e⟩))
  obtain ⟨t, t1, t2, t3⟩ := stp (g := fun t => bl m t q) (k := k) (bl_zero m q) (fun t => by
    rcases hs t with e | ⟨j, hj, e⟩
    · simp only [e]; omega
    · simp only [bl_yes m q j hj e h]; omega) T (by simp only [bl_all m q hT]; exact hk)
  rcases hs t with e | ⟨j, hj, e⟩
  · omega
  · exact ⟨j, hj, by unfold nu; rw [e]; exact t2⟩
/-- a node begins at or behind a token just if so many begin below -/
theorem nu_ge {m : hp_S} {q j t : Nat} (hj : j < q) : (t ≤ fj m j) ↔ bl m t q ≤ nu m q j := by
  unfold nu
  constructor
  · intro h; exact bl_mono m h q
  · intro h
    by_cases c : t ≤ fj m j
    · exact c
    · have := bl_lt m (Nat.le_refl (fj m j)) (show fj m j < t by omega) q hj
      omega
theorem PQ_inj {T : Nat → Nat} {n K : Nat} {s m : hp_S} {p q : Nat} (h : PQ T n K s m p q) : inj m q := by
  intro i j hi hj e
  have a1 := (h.2.2.2.2.2.2.1 i hi).2.2.1
  have a2 := (h.2.2.2.2.2.2.1 j hj).2.2.1
  have := h.2.2.2.1
  rw [e, a2] at a1
  exact ((nI_eq (by omega) (by omega)).mp a1).symm
/-! the tree's own rows -/
theorem C_owOf {s : hp_S} {t : Nat} (ht : t < 500) : f_C_X7_ownerOf_16 (nI t) s = some (hs_A s 25 t, s) := by
  unfold f_C_X7_ownerOf_16
  have c : ¬ 500 ≤ t := by omega
  simp (disch := omega) only [↓reduceIte, z_lit, z_m1, z_gd, z_le, z_lt, z_eq, z_em, z_me, z_ml, z_mle, z_lm, z_lem, z_pos, z_sub, nI_add, nI_clamp, ib_nI, pm_let, pm_bd, pm_b1, if_true, if_false, ite_true, ite_false, Nat.not_lt_zero, Nat.zero_le, c]
theorem C_owOfM {s : hp_S} : f_C_X7_ownerOf_16 nM s = some (nM, s) := by
  unfold f_C_X7_ownerOf_16
  rw [if_pos (by decide)]
  rfl
theorem C_owOf_any (a : Int32) (s : hp_S) : ∃ x, f_C_X7_ownerOf_16 a s = some (x, s) := by
  unfold f_C_X7_ownerOf_16
  by_cases c1 : a < 0
  · rw [if_pos c1]; exact ⟨_, rfl⟩
  · rw [if_neg c1]
    by_cases c2 : (500 : Int32) ≤ a
    · rw [if_pos c2]; exact ⟨_, rfl⟩
    · rw [if_neg c2]
      obtain ⟨j, hj, rfl⟩ := nI_of c1
      simp (disch := omega) only [↓reduceIte, z_lit, z_m1, z_gd, z_le, z_lt, z_eq, z_em, z_me, z_ml, z_mle, z_lm, z_lem, z_pos, z_sub, nI_add, nI_clamp, ib_nI, pm_let, pm_bd, pm_b1, if_true, if_false, ite_true, ite_false, Nat.not_lt_zero, Nat.zero_le] at c2
      exact ⟨hs_A s 25 j, by simp (disch := omega) only [↓reduceIte, z_lit, z_m1, z_gd, z_le, z_lt, z_eq, z_em, z_me, z_ml, z_mle, z_lm, z_lem, z_pos, z_sub, nI_add, nI_clamp, ib_nI, pm_let, pm_bd, pm_b1, if_true, if_false, ite_true, ite_false, Nat.not_lt_zero, Nat.zero_le]⟩
theorem C_owner {s : hp_S} {t : Nat} (ht : t < 501) : f_C_X4_owner_7 (nI t) s = some (hs_A s 14 t, s) := by
  unfold f_C_X4_owner_7 f_C_X4_isPlace
  have c : ¬ 501 ≤ t := by omega
  simp (disch := omega) only [↓reduceIte, z_lit, z_m1, z_gd, z_le, z_lt, z_eq, z_em, z_me, z_ml, z_mle, z_lm, z_lem, z_pos, z_sub, nI_add, nI_clamp, ib_nI, pm_let, pm_bd, pm_b1, if_true, if_false, ite_true, ite_false, Nat.not_lt_zero, Nat.zero_le, c]
  all_goals simp
theorem C_holds17 {s : hp_S} {t : Nat} (ht : t < 100) : f_C_X2_holds_17 (nI t) s = some (nI 1, s) := by
  unfold f_C_X2_holds_17
  have c : ¬ 100 ≤ t := by omega
  simp (disch := omega) only [↓reduceIte, z_lit, z_m1, z_gd, z_le, z_lt, z_eq, z_em, z_me, z_ml, z_mle, z_lm, z_lem, z_pos, z_sub, nI_add, nI_clamp, ib_nI, pm_let, pm_bd, pm_b1, if_true, if_false, ite_true, ite_false, Nat.not_lt_zero, Nat.zero_le, c]
theorem C_kind17 {s : hp_S} {t : Nat} (ht : t < 100) : f_C_X2_kind_17 (nI t) s = some (hs_A s 18 t, s) := by
  unfold f_C_X2_kind_17
  simp (disch := omega) only [↓reduceIte, z_lit, z_m1, z_gd, z_le, z_lt, z_eq, z_em, z_me, z_ml, z_mle, z_lm, z_lem, z_pos, z_sub, nI_add, nI_clamp, ib_nI, pm_let, pm_bd, pm_b1, if_true, if_false, ite_true, ite_false, Nat.not_lt_zero, Nat.zero_le, C_holds17 ht]
  all_goals simp
theorem C_begin17 {s : hp_S} {t : Nat} {k : Int32} (ht : t < 100) : f_C_X2_begin_17 (nI t) k s = some (hs_pA (hs_pA (hs_pA (hs_pA (hs_pA s 18 t k) 19 t nM) 20 t nM) 21 t nM) 22 t nM) := by
  unfold f_C_X2_begin_17
  simp (disch := omega) only [↓reduceIte, z_lit, z_m1, z_gd, z_le, z_lt, z_eq, z_em, z_me, z_ml, z_mle, z_lm, z_lem, z_pos, z_sub, nI_add, nI_clamp, ib_nI, pm_let, pm_bd, pm_b1, if_true, if_false, ite_true, ite_false, Nat.not_lt_zero, Nat.zero_le, C_holds17 ht]
  all_goals simp
theorem C_setFirst17 {s : hp_S} {t : Nat} {k : Int32} (ht : t < 100) : f_C_X2_setFirst_17 (nI t) k s = some (hs_pA s 19 t k) := by
  unfold f_C_X2_setFirst_17
  simp (disch := omega) only [↓reduceIte, z_lit, z_m1, z_gd, z_le, z_lt, z_eq, z_em, z_me, z_ml, z_mle, z_lm, z_lem, z_pos, z_sub, nI_add, nI_clamp, ib_nI, pm_let, pm_bd, pm_b1, if_true, if_false, ite_true, ite_false, Nat.not_lt_zero, Nat.zero_le, C_holds17 ht]
  all_goals simp
theorem C_setSecond17 {s : hp_S} {t : Nat} {k : Int32} (ht : t < 100) : f_C_X2_setSecond_17 (nI t) k s = some (hs_pA s 20 t k) := by
  unfold f_C_X2_setSecond_17
  simp (disch := omega) only [↓reduceIte, z_lit, z_m1, z_gd, z_le, z_lt, z_eq, z_em, z_me, z_ml, z_mle, z_lm, z_lem, z_pos, z_sub, nI_add, nI_clamp, ib_nI, pm_let, pm_bd, pm_b1, if_true, if_false, ite_true, ite_false, Nat.not_lt_zero, Nat.zero_le, C_holds17 ht]
  all_goals simp
theorem C_setThird17 {s : hp_S} {t : Nat} {k : Int32} (ht : t < 100) : f_C_X2_setThird_17 (nI t) k s = some (hs_pA s 21 t k) := by
  unfold f_C_X2_setThird_17
  simp (disch := omega) only [↓reduceIte, z_lit, z_m1, z_gd, z_le, z_lt, z_eq, z_em, z_me, z_ml, z_mle, z_lm, z_lem, z_pos, z_sub, nI_add, nI_clamp, ib_nI, pm_let, pm_bd, pm_b1, if_true, if_false, ite_true, ite_false, Nat.not_lt_zero, Nat.zero_le, C_holds17 ht]
  all_goals simp
theorem C_setMeaning17 {s : hp_S} {t : Nat} {k : Int32} (ht : t < 100) : f_C_X2_setMeaning_17 (nI t) k s = some (hs_pA s 22 t k) := by
  unfold f_C_X2_setMeaning_17
  simp (disch := omega) only [↓reduceIte, z_lit, z_m1, z_gd, z_le, z_lt, z_eq, z_em, z_me, z_ml, z_mle, z_lm, z_lem, z_pos, z_sub, nI_add, nI_clamp, ib_nI, pm_let, pm_bd, pm_b1, if_true, if_false, ite_true, ite_false, Nat.not_lt_zero, Nat.zero_le, C_holds17 ht]
  all_goals simp
theorem C_kind8 {s : hp_S} {t : Nat} (ht : t < 501) : f_C_X2_kind_8 (nI t) s = some (hs_A s 9 t, s) := by
  unfold f_C_X2_kind_8
  simp (disch := omega) only [↓reduceIte, z_lit, z_m1, z_gd, z_le, z_lt, z_eq, z_em, z_me, z_ml, z_mle, z_lm, z_lem, z_pos, z_sub, nI_add, nI_clamp, ib_nI, pm_let, pm_bd, pm_b1, if_true, if_false, ite_true, ite_false, Nat.not_lt_zero, Nat.zero_le, C_hold ht]
  all_goals simp
theorem C_first8 {s : hp_S} {t : Nat} (ht : t < 501) : f_C_X2_first_8 (nI t) s = some (hs_A s 10 t, s) := by
  unfold f_C_X2_first_8
  simp (disch := omega) only [↓reduceIte, z_lit, z_m1, z_gd, z_le, z_lt, z_eq, z_em, z_me, z_ml, z_mle, z_lm, z_lem, z_pos, z_sub, nI_add, nI_clamp, ib_nI, pm_let, pm_bd, pm_b1, if_true, if_false, ite_true, ite_false, Nat.not_lt_zero, Nat.zero_le, C_hold ht]
  all_goals simp
theorem C_second8 {s : hp_S} {t : Nat} (ht : t < 501) : f_C_X2_second_8 (nI t) s = some (hs_A s 11 t, s) := by
  unfold f_C_X2_second_8
  simp (disch := omega) only [↓reduceIte, z_lit, z_m1, z_gd, z_le, z_lt, z_eq, z_em, z_me, z_ml, z_mle, z_lm, z_lem, z_pos, z_sub, nI_add, nI_clamp, ib_nI, pm_let, pm_bd, pm_b1, if_true, if_false, ite_true, ite_false, Nat.not_lt_zero, Nat.zero_le, C_hold ht]
  all_goals simp
theorem C_third8 {s : hp_S} {t : Nat} (ht : t < 501) : f_C_X2_third_8 (nI t) s = some (hs_A s 12 t, s) := by
  unfold f_C_X2_third_8
  simp (disch := omega) only [↓reduceIte, z_lit, z_m1, z_gd, z_le, z_lt, z_eq, z_em, z_me, z_ml, z_mle, z_lm, z_lem, z_pos, z_sub, nI_add, nI_clamp, ib_nI, pm_let, pm_bd, pm_b1, if_true, if_false, ite_true, ite_false, Nat.not_lt_zero, Nat.zero_le, C_hold ht]
  all_goals simp
theorem C_meaning8 {s : hp_S} {t : Nat} (ht : t < 501) : f_C_X2_meaning_8 (nI t) s = some (hs_A s 13 t, s) := by
  unfold f_C_X2_meaning_8
  simp (disch := omega) only [↓reduceIte, z_lit, z_m1, z_gd, z_le, z_lt, z_eq, z_em, z_me, z_ml, z_mle, z_lm, z_lem, z_pos, z_sub, nI_add, nI_clamp, ib_nI, pm_let, pm_bd, pm_b1, if_true, if_false, ite_true, ite_false, Nat.not_lt_zero, Nat.zero_le, C_hold ht]
  all_goals simp
theorem C_isNode {s : hp_S} {k q : Nat} (h4 : hs_I s 16 4 = nI q) (hk : k < q) (hq : q ≤ 100) : f_C_X7_isNode_16 (nI k) s = some (nI 1, s) := by
  unfold f_C_X7_isNode_16
  have c : ¬ 100 ≤ k := by omega
  have c2 : ¬ q ≤ k := by omega
  simp (disch := omega) only [↓reduceIte, z_lit, z_m1, z_gd, z_le, z_lt, z_eq, z_em, z_me, z_ml, z_mle, z_lm, z_lem, z_pos, z_sub, nI_add, nI_clamp, ib_nI, pm_let, pm_bd, pm_b1, if_true, if_false, ite_true, ite_false, Nat.not_lt_zero, Nat.zero_le, h4, c, c2]
