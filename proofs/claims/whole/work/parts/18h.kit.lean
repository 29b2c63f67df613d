/-! rows for simp with omega behind it -/
theorem z_lit (k : Nat) : (OfNat.ofNat k : Int32) = nI (OfNat.ofNat k) := rfl
theorem z_gd {γ : Type} (x : Option γ) : pm_gd1 true x = x := rfl
theorem z_le {a b : Nat} (ha : a < 2 ^ 31) (hb : b < 2 ^ 31) : (nI a ≤ nI b) = (a ≤ b) := propext (nI_leI ha hb)
theorem z_lt {a b : Nat} (ha : a < 2 ^ 31) (hb : b < 2 ^ 31) : (nI a < nI b) = (a < b) := propext (nI_ltI ha hb)
theorem z_eq {a b : Nat} (ha : a < 2 ^ 31) (hb : b < 2 ^ 31) : (nI a = nI b) = (a = b) := propext (nI_eq ha hb)
def nM : Int32 := -1
theorem z_m1 : (-nI 1 : Int32) = nM := rfl
theorem nM_toInt : nM.toInt = -1 := by decide
theorem z_em {a : Nat} (ha : a < 2 ^ 31) : (nI a = nM) = False := by
  refine eq_false (fun h => ?_)
  have h2 := congrArg Int32.toInt h
  rw [nI_toInt ha] at h2
  have h3 := nM_toInt
  omega
theorem z_me {a : Nat} (ha : a < 2 ^ 31) : (nM = nI a) = False := by
  refine eq_false (fun h => ?_)
  have h2 := congrArg Int32.toInt h
  rw [nI_toInt ha] at h2
  have h3 := nM_toInt
  omega
theorem z_ml {a : Nat} (ha : a < 2 ^ 31) : (nM < nI a) = True := by
  refine eq_true ?_
  rw [Int32.lt_iff_toInt_lt, nI_toInt ha]
  have h3 := nM_toInt
  omega
theorem z_mle {a : Nat} (ha : a < 2 ^ 31) : (nM ≤ nI a) = True := by
  refine eq_true ?_
  rw [Int32.le_iff_toInt_le, nI_toInt ha]
  have h3 := nM_toInt
  omega
theorem z_lm {a : Nat} (ha : a < 2 ^ 31) : (nI a < nM) = False := by
  refine eq_false ?_
  rw [Int32.lt_iff_toInt_lt, nI_toInt ha]
  have h3 := nM_toInt
  omega
theorem z_lem {a : Nat} (ha : a < 2 ^ 31) : (nI a ≤ nM) = False := by
  refine eq_false ?_
  rw [Int32.le_iff_toInt_le, nI_toInt ha]
  have h3 := nM_toInt
  omega
theorem z_sub {a b : Nat} (h : b ≤ a) (ha : a < 2 ^ 30) : nI a - nI b = nI (a - b) := by
  apply Int32.toInt_inj.mp
  rw [pk_sub_toInt ha (by omega), nI_toInt (by omega)]
  omega
theorem z_pos {a : Nat} (ha : a < 2 ^ 31) : (nI a < nI 0) = False := by rw [z_lt ha (by omega)]; simp
theorem z_and {x : Prop} : (True ∧ x) = x := by simp
/-- eventually -/
def ev {α : Type} (f : Nat → Option α) (r : α) : Prop := ∃ N, ∀ n, N ≤ n → f n = some r
theorem z_nm : (nM = nM) = True := by simp
theorem z_mz : (nM < nI 0) = True := by decide
/-! the class's parser: kinds of tokens and the small steps -/
def tk_K (T : Nat → Nat) (n K t : Nat) : Nat := if t < K then lx_kd T n (tk_p T n t) else 0
theorem lx_wf_lt (m : Nat → Bool) : ∀ d k, k + d ≤ 11 → lx_wf m d k < 22
  | 0, k, h => by simp [lx_wf]
  | d + 1, k, h => by
    have := lx_wf_lt m d (k + 1) (by omega)
    simp only [lx_wf]
    split <;> omega
theorem lx_wf_pos (m : Nat → Bool) : ∀ d k, 2 ≤ lx_wf m d k
  | 0, k => by simp [lx_wf]
  | d + 1, k => by
    have := lx_wf_pos m d (k + 1)
    simp only [lx_wf]
    split <;> omega
theorem lx_kd_lt (T : Nat → Nat) (n p : Nat) : lx_kd T n p < 22 ∧ lx_kd T n p ≠ 0 := by
  unfold lx_kd
  have h1 := lx_wf_lt (lx_is T p (lx_end T n p)) 11 0 (by omega)
  have h2 := lx_wf_pos (lx_is T p (lx_end T n p)) 11 0
  have h3 : lx_sg (T p) < 22 ∧ lx_sg (T p) ≠ 0 := by
    unfold lx_sg
    repeat' split
    all_goals omega
  repeat' split
  all_goals omega
theorem tk_K_lt (T : Nat → Nat) (n K t : Nat) : tk_K T n K t < 22 := by
  unfold tk_K
  have := lx_kd_lt T n (tk_p T n t)
  split <;> omega
/-- what the parser stands on: the text, its tokens -/
def C_T (s : hp_S) (T : Nat → Nat) (n K : Nat) : Prop := C_tx s T n ∧ C_tk s T n K ∧ K ≤ 500 ∧ tk_p T n K = n
theorem C_T_fr {s t : hp_S} {T : Nat → Nat} {n K : Nat} {P : List (Nat × Nat)} {A : List Nat} (h : C_T s T n K) (f : hs_fr P A s t) (g : ((1, 1) ∉ P ∧ 2 ∉ A) ∧ (3, 4) ∉ P ∧ 4 ∉ A ∧ 5 ∉ A ∧ 6 ∉ A) : C_T t T n K :=
  ⟨C_tx_fr h.1 f g.1, C_tk_fr h.2.1 f g.2, h.2.2⟩
theorem C_kind {s : hp_S} {T : Nat → Nat} {n K p : Nat} (h : C_T s T n K) (hp : p < 2 ^ 20) : f_C_X6_kind_3 (nI p) s = some (nI (tk_K T n K p), s) := by
  obtain ⟨-, h2, h3, -⟩ := h
  unfold f_C_X6_kind_3 tk_K
  simp only [z_lit, h2.1]
  by_cases c : p < K
  · have := (h2.2 p c).2.1
    simp (disch := omega) only [↓reduceIte, z_lit, z_m1, z_gd, z_le, z_lt, z_eq, z_em, z_me, z_ml, z_mle, z_lm, z_lem, z_pos, z_sub, nI_add, nI_clamp, ib_nI, pm_let, pm_bd, pm_b1, if_true, if_false, ite_true, ite_false, Nat.not_lt_zero, Nat.zero_le, this, if_neg (show ¬ K ≤ p by omega), if_pos c]
  · simp (disch := omega) only [↓reduceIte, z_lit, z_m1, z_gd, z_le, z_lt, z_eq, z_em, z_me, z_ml, z_mle, z_lm, z_lem, z_pos, z_sub, nI_add, nI_clamp, ib_nI, pm_let, pm_bd, pm_b1, if_true, if_false, ite_true, ite_false, Nat.not_lt_zero, Nat.zero_le, if_pos (show K ≤ p by omega), if_neg c]
theorem C_cur {s : hp_S} {T : Nat → Nat} {n K p : Nat} (h : C_T s T n K) (hp : p < 2 ^ 20) (hc : hs_I s 7 5 = nI p) (ha : hs_I s 7 7 = nM) : f_C_X4_current_7 s = some (nI (tk_K T n K p), s) := by
  unfold f_C_X4_current_7
  simp only [↓reduceIte, z_lit, z_m1, z_gd, z_le, z_lt, z_eq, z_em, z_me, z_ml, z_mle, z_lm, z_lem, z_pos, z_sub, nI_add, nI_clamp, ib_nI, pm_let, pm_bd, pm_b1, if_true, if_false, ite_true, ite_false, Nat.not_lt_zero, Nat.zero_le, ha, hc, C_kind h hp]
theorem C_cur0 {s : hp_S} (ha : hs_I s 7 7 ≠ nM) : f_C_X4_current_7 s = some (0, s) := by
  unfold f_C_X4_current_7
  simp only [z_lit, z_m1, ha, if_false]
theorem C_ref {s : hp_S} (ha : hs_I s 7 7 = nM) : f_C_X4_refuse_7 s = some (hs_pI s 7 7 (hs_I s 7 5)) := by
  unfold f_C_X4_refuse_7
  simp only [↓reduceIte, z_lit, z_m1, z_gd, z_le, z_lt, z_eq, z_em, z_me, z_ml, z_mle, z_lm, z_lem, z_pos, z_sub, nI_add, nI_clamp, ib_nI, pm_let, pm_bd, pm_b1, if_true, if_false, ite_true, ite_false, Nat.not_lt_zero, Nat.zero_le, ha]
theorem C_ref0 {s : hp_S} (ha : hs_I s 7 7 ≠ nM) : f_C_X4_refuse_7 s = some s := by
  unfold f_C_X4_refuse_7
  simp only [↓reduceIte, z_lit, z_m1, z_gd, z_le, z_lt, z_eq, z_em, z_me, z_ml, z_mle, z_lm, z_lem, z_pos, z_sub, nI_add, nI_clamp, ib_nI, pm_let, pm_bd, pm_b1, if_true, if_false, ite_true, ite_false, Nat.not_lt_zero, Nat.zero_le, ha]
theorem C_take {s : hp_S} {p K : Nat} {a : Int32} (hc : hs_I s 7 5 = nI p) (ha : hs_I s 7 7 = nM) (hK : hs_I s 3 4 = nI K) (h5 : K ≤ 500) (hp : p < K) : f_C_X4_take_7 a s = some (hs_pI (hs_pA s 14 p a) 7 5 (nI (p + 1))) := by
  unfold f_C_X4_take_7 f_C_X6_size_3
  have h1 : ¬ K ≤ p := by omega
  have h2 : ¬ 501 ≤ p := by omega
  simp (disch := omega) only [↓reduceIte, z_lit, z_m1, z_gd, z_le, z_lt, z_eq, z_em, z_me, z_ml, z_mle, z_lm, z_lem, z_pos, z_sub, nI_add, nI_clamp, ib_nI, pm_let, pm_bd, pm_b1, if_true, if_false, ite_true, ite_false, Nat.not_lt_zero, Nat.zero_le, hs_I_pI, hs_I_pA, hs_A_pI, hs_A_pA, and_true, true_and, and_false, false_and, and_self, eq_self, Nat.reduceEqDiff, ↓reduceIte, ha, hc, hK, h1, h2]
theorem C_take0 {s : hp_S} {a : Int32} (ha : hs_I s 7 7 ≠ nM) : f_C_X4_take_7 a s = some s := by
  unfold f_C_X4_take_7
  simp only [↓reduceIte, z_lit, z_m1, z_gd, z_le, z_lt, z_eq, z_em, z_me, z_ml, z_mle, z_lm, z_lem, z_pos, z_sub, nI_add, nI_clamp, ib_nI, pm_let, pm_bd, pm_b1, if_true, if_false, ite_true, ite_false, Nat.not_lt_zero, Nat.zero_le, ha]
theorem C_holds8 (a : Int32) (s : hp_S) : (f_C_X2_holds_8 a s = some (0, s) ∧ (a < 0 ∨ 501 ≤ a)) ∨ (f_C_X2_holds_8 a s = some (1, s) ∧ ∃ j, j < 501 ∧ a = nI j) := by
  unfold f_C_X2_holds_8
  by_cases c1 : a < 0
  · left; rw [if_pos c1]; exact ⟨rfl, Or.inl c1⟩
  · by_cases c2 : (501 : Int32) ≤ a
    · left; rw [if_neg c1, if_pos c2]; exact ⟨rfl, Or.inr c2⟩
    · right; rw [if_neg c1, if_neg c2]
      obtain ⟨j, hj, rfl⟩ := nI_of c1
      refine ⟨rfl, j, ?_, rfl⟩
      simp (disch := omega) only [↓reduceIte, z_lit, z_m1, z_gd, z_le, z_lt, z_eq, z_em, z_me, z_ml, z_mle, z_lm, z_lem, z_pos, z_sub, nI_add, nI_clamp, ib_nI, pm_let, pm_bd, pm_b1, if_true, if_false, ite_true, ite_false, Nat.not_lt_zero, Nat.zero_le] at c2
      omega
theorem C_hold {t : Nat} {s : hp_S} (ht : t < 501) : f_C_X2_holds_8 (nI t) s = some (1, s) := by
  unfold f_C_X2_holds_8
  have h2 : ¬ 501 ≤ t := by omega
  simp (disch := omega) only [↓reduceIte, z_lit, z_m1, z_gd, z_le, z_lt, z_eq, z_em, z_me, z_ml, z_mle, z_lm, z_lem, z_pos, z_sub, nI_add, nI_clamp, ib_nI, pm_let, pm_bd, pm_b1, if_true, if_false, ite_true, ite_false, Nat.not_lt_zero, Nat.zero_le, h2]
theorem C_begin {t : Nat} {s : hp_S} {k : Int32} (ht : t < 501) : f_C_X2_begin_8 (nI t) k s = some (hs_pA (hs_pA (hs_pA (hs_pA (hs_pA s 9 t k) 10 t nM) 11 t nM) 12 t nM) 13 t nM) := by
  unfold f_C_X2_begin_8
  simp (disch := omega) only [↓reduceIte, z_lit, z_m1, z_gd, z_le, z_lt, z_eq, z_em, z_me, z_ml, z_mle, z_lm, z_lem, z_pos, z_sub, nI_add, nI_clamp, ib_nI, pm_let, pm_bd, pm_b1, if_true, if_false, ite_true, ite_false, Nat.not_lt_zero, Nat.zero_le, C_hold ht]
  simp
theorem C_setFirst {t : Nat} {s : hp_S} {k : Int32} (ht : t < 501) : f_C_X2_setFirst_8 (nI t) k s = some (hs_pA s 10 t k) := by
  unfold f_C_X2_setFirst_8
  simp (disch := omega) only [↓reduceIte, z_lit, z_m1, z_gd, z_le, z_lt, z_eq, z_em, z_me, z_ml, z_mle, z_lm, z_lem, z_pos, z_sub, nI_add, nI_clamp, ib_nI, pm_let, pm_bd, pm_b1, if_true, if_false, ite_true, ite_false, Nat.not_lt_zero, Nat.zero_le, C_hold ht]
  simp
theorem C_setSecond {t : Nat} {s : hp_S} {k : Int32} (ht : t < 501) : f_C_X2_setSecond_8 (nI t) k s = some (hs_pA s 11 t k) := by
  unfold f_C_X2_setSecond_8
  simp (disch := omega) only [↓reduceIte, z_lit, z_m1, z_gd, z_le, z_lt, z_eq, z_em, z_me, z_ml, z_mle, z_lm, z_lem, z_pos, z_sub, nI_add, nI_clamp, ib_nI, pm_let, pm_bd, pm_b1, if_true, if_false, ite_true, ite_false, Nat.not_lt_zero, Nat.zero_le, C_hold ht]
  simp
theorem C_setThird {t : Nat} {s : hp_S} {k : Int32} (ht : t < 501) : f_C_X2_setThird_8 (nI t) k s = some (hs_pA s 12 t k) := by
  unfold f_C_X2_setThird_8
  simp (disch := omega) only [↓reduceIte, z_lit, z_m1, z_gd, z_le, z_lt, z_eq, z_em, z_me, z_ml, z_mle, z_lm, z_lem, z_pos, z_sub, nI_add, nI_clamp, ib_nI, pm_let, pm_bd, pm_b1, if_true, if_false, ite_true, ite_false, Nat.not_lt_zero, Nat.zero_le, C_hold ht]
  simp
theorem C_setMeaning {t : Nat} {s : hp_S} {k : Int32} (ht : t < 501) : f_C_X2_setMeaning_8 (nI t) k s = some (hs_pA s 13 t k) := by
  unfold f_C_X2_setMeaning_8
  simp (disch := omega) only [↓reduceIte, z_lit, z_m1, z_gd, z_le, z_lt, z_eq, z_em, z_me, z_ml, z_mle, z_lm, z_lem, z_pos, z_sub, nI_add, nI_clamp, ib_nI, pm_let, pm_bd, pm_b1, if_true, if_false, ite_true, ite_false, Nat.not_lt_zero, Nat.zero_le, C_hold ht]
  simp
