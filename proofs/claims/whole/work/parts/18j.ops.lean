/-! names that are alike -/
def tk_e (T : Nat → Nat) (n t : Nat) : Nat := lx_end T n (tk_p T n t)
def eqs (T : Nat → Nat) (p q : Nat) : Nat → Nat → Bool
  | 0, _ => true
  | d + 1, i => decide (T (p + i) = T (q + i)) && eqs T p q d (i + 1)
def tk_sm (T : Nat → Nat) (n a b : Nat) : Bool := decide (tk_e T n a - tk_p T n a = tk_e T n b - tk_p T n b) && eqs T (tk_p T n a) (tk_p T n b) (tk_e T n a - tk_p T n a) 0
/-- the tokens' own facts -/
def TK (T : Nat → Nat) (n K : Nat) : Prop := n ≤ 500 ∧ K ≤ 500 ∧ tk_p T n K = n ∧ (∀ j, j < n → T j < 256) ∧ ∀ t, t < K → tk_p T n t < n
theorem TK_of {s : hp_S} {T : Nat → Nat} {n K : Nat} (h : C_T s T n K) : TK T n K := ⟨h.1.2.1, h.2.2.1, h.2.2.2, fun j hj => (h.1.2.2 j hj).1, fun t ht => (h.2.1.2 t ht).1⟩
theorem TK.e {T : Nat → Nat} {n K t : Nat} (h : TK T n K) (ht : t < K) : tk_p T n t < tk_e T n t ∧ tk_e T n t ≤ n := lx_end_le (h.2.2.2.2 t ht)
theorem C_sameLoop {s : hp_S} {T : Nat → Nat} {n K a b : Nat} (h : C_T s T n K) (ha : a < K) (hb : b < K) (hl : tk_e T n a - tk_p T n a = tk_e T n b - tk_p T n b) : ∀ (d i k : Nat), i + d = tk_e T n a - tk_p T n a → d + 1 ≤ k → l_C_X6_areSame_3_57 k (nI a) (nI b) (nI i) s = some (b_i (eqs T (tk_p T n a) (tk_p T n b) d i), s) := by
  have hT := TK_of h
  have hK := hT.2.1
  have hn := hT.1
  obtain ⟨ea1, ea2⟩ := hT.e ha
  obtain ⟨eb1, eb2⟩ := hT.e hb
  obtain ⟨-, -, a5, a6⟩ := h.2.1.2 a ha
  obtain ⟨-, -, b5, b6⟩ := h.2.1.2 b hb
  change hs_A s 6 a = nI (tk_e T n a) at a6
  change hs_A s 6 b = nI (tk_e T n b) at b6
  intro d
  induction d with
  | zero =>
    intro i k hi hk
    obtain ⟨k, rfl⟩ : ∃ z, k = z + 1 := ⟨k - 1, by omega⟩
    rw [l_C_X6_areSame_3_57.eq_2]
    have c : tk_e T n a - tk_p T n a ≤ i := by omega
    simp (disch := omega) only [↓reduceIte, z_lit, z_m1, z_gd, z_le, z_lt, z_eq, z_em, z_me, z_ml, z_mle, z_lm, z_lem, z_pos, z_sub, nI_add, nI_clamp, ib_nI, pm_let, pm_bd, pm_b1, if_true, if_false, ite_true, ite_false, Nat.not_lt_zero, Nat.zero_le, a5, a6, c, eqs, b_i]
  | succ d ih =>
    intro i k hi hk
    obtain ⟨k, rfl⟩ : ∃ z, k = z + 1 := ⟨k - 1, by omega⟩
    rw [l_C_X6_areSame_3_57.eq_2]
    have c : ¬ tk_e T n a - tk_p T n a ≤ i := by omega
    have c1 : tk_p T n a + i < n := by omega
    have c2 : tk_p T n b + i < n := by omega
    have t1 := hT.2.2.2.1 _ c1
    have t2 := hT.2.2.2.1 _ c2
    simp (disch := omega) only [↓reduceIte, z_lit, z_m1, z_gd, z_le, z_lt, z_eq, z_em, z_me, z_ml, z_mle, z_lm, z_lem, z_pos, z_sub, nI_add, nI_clamp, ib_nI, pm_let, pm_bd, pm_b1, if_true, if_false, ite_true, ite_false, Nat.not_lt_zero, Nat.zero_le, a5, a6, c, b5, C_at h.1, c1, c2, eqs, ih (i + 1) k]
    by_cases e : T (tk_p T n a + i) = T (tk_p T n b + i)
    · simp only [e, if_true, decide_true, Bool.true_and]
    · simp only [e, if_false, decide_false, Bool.false_and, b_i]
      rfl
theorem C_areSame {s : hp_S} {T : Nat → Nat} {n K a b k : Nat} (h : C_T s T n K) (ha : a < K) (hb : b < K) (hk : 501 ≤ k) : f_C_X6_areSame_3 k (nI a) (nI b) s = some (b_i (tk_sm T n a b), s) := by
  have hT := TK_of h
  have hK := hT.2.1
  have hn := hT.1
  obtain ⟨ea1, ea2⟩ := hT.e ha
  obtain ⟨eb1, eb2⟩ := hT.e hb
  obtain ⟨-, -, a5, a6⟩ := h.2.1.2 a ha
  obtain ⟨-, -, b5, b6⟩ := h.2.1.2 b hb
  change hs_A s 6 a = nI (tk_e T n a) at a6
  change hs_A s 6 b = nI (tk_e T n b) at b6
  unfold f_C_X6_areSame_3 tk_sm
  have c1 : ¬ K ≤ a := by omega
  have c2 : ¬ K ≤ b := by omega
  simp (disch := omega) only [↓reduceIte, z_lit, z_m1, z_gd, z_le, z_lt, z_eq, z_em, z_me, z_ml, z_mle, z_lm, z_lem, z_pos, z_sub, nI_add, nI_clamp, ib_nI, pm_let, pm_bd, pm_b1, if_true, if_false, ite_true, ite_false, Nat.not_lt_zero, Nat.zero_le, h.2.1.1, c1, c2, a5, a6, b5, b6]
  by_cases e : tk_e T n a - tk_p T n a = tk_e T n b - tk_p T n b
  · rw [if_pos e, C_sameLoop h ha hb e (tk_e T n a - tk_p T n a) 0 k (by omega) (by omega)]
    simp [e]
  · rw [if_neg e]
    simp [e, b_i]
    rfl
def lkp (T : Nat → Nat) (n : Nat) (sc : Nat → Nat) (t : Nat) : Nat → Int32
  | 0 => nM
  | i + 1 => if tk_sm T n (sc i + 1) t = true then nI (sc i) else lkp T n sc t i
theorem C_binderLoop {s : hp_S} {T : Nat → Nat} {n K t : Nat} {sc : Nat → Nat} (h : C_T s T n K) (ht : t < K) : ∀ (z k : Nat), z ≤ 20 → (∀ i, i < z → hs_A s 15 i = nI (sc i) ∧ sc i + 1 < K) → z + 520 ≤ k → l_C_X4_binderOf_7_12 k (nI t) (nI z - 1) s = some (lkp T n sc t z, s) := by
  have hK := (TK_of h).2.1
  intro z
  induction z with
  | zero =>
    intro k _ _ hk
    obtain ⟨k, rfl⟩ : ∃ z, k = z + 1 := ⟨k - 1, by omega⟩
    rw [l_C_X4_binderOf_7_12.eq_2, show (nI 0 - 1 : Int32) = nM from rfl]
    rw [if_pos (by decide)]
    rfl
  | succ z ih =>
    intro k hz hs hk
    obtain ⟨k, rfl⟩ : ∃ z, k = z + 1 := ⟨k - 1, by omega⟩
    obtain ⟨h1, h2⟩ := hs z (by omega)
    have e1 : nI (z + 1) - (1 : Int32) = nI z := by simp (disch := omega) only [↓reduceIte, z_lit, z_m1, z_gd, z_le, z_lt, z_eq, z_em, z_me, z_ml, z_mle, z_lm, z_lem, z_pos, z_sub, nI_add, nI_clamp, ib_nI, pm_let, pm_bd, pm_b1, if_true, if_false, ite_true, ite_false, Nat.not_lt_zero, Nat.zero_le]; rfl
    have e2 : nI z + (-1 : Int32) = nI z - 1 := by rw [Int32.sub_eq_add_neg]
    rw [l_C_X4_binderOf_7_12.eq_2, e1]
    simp only [e2]
    rw [if_neg (by simp (disch := omega) only [↓reduceIte, z_lit, z_m1, z_gd, z_le, z_lt, z_eq, z_em, z_me, z_ml, z_mle, z_lm, z_lem, z_pos, z_sub, nI_add, nI_clamp, ib_nI, pm_let, pm_bd, pm_b1, if_true, if_false, ite_true, ite_false, Nat.not_lt_zero, Nat.zero_le]; simp)]
    simp (disch := omega) only [ib_nI, z_gd, nI_clamp, h1, nI_1, C_areSame h h2 ht, pm_bd, pm_let, lkp, ih k (by omega) (fun i hi => hs i (by omega)) (by omega)]
    cases tk_sm T n (sc z + 1) t <;> simp [b_i]
theorem C_binderOf {s : hp_S} {T : Nat → Nat} {n K t z k : Nat} {sc : Nat → Nat} (h : C_T s T n K) (ht : t < K) (hz : z ≤ 20) (hs4 : hs_I s 7 4 = nI z) (hs : ∀ i, i < z → hs_A s 15 i = nI (sc i) ∧ sc i + 1 < K) (hk : 600 ≤ k) : f_C_X4_binderOf_7 k (nI t) s = some (lkp T n sc t z, s) := by
  unfold f_C_X4_binderOf_7 f_C_J9_min_7cf53
  rw [hs4, if_neg (by rw [show (20 : Int32) = nI 20 from rfl, z_lt (by omega) (by omega)]; omega)]
  simp only [pm_bd, pm_let]
  exact C_binderLoop h ht z k hz hs (by omega)
/-! the reference's small steps -/
theorem hs_ext3 {s u : hp_S} (h : hs_fr [(0, 5), (0, 6), (0, 7)] [] s u) : u = hs_pI (hs_pI (hs_pI s 0 5 (hs_I u 0 5)) 0 6 (hs_I u 0 6)) 0 7 (hs_I u 0 7) := by
  refine Prod.ext (funext fun a => funext fun k => ?_) (funext fun a => funext fun k => h.2 a (by simp) k)
  change hs_I u a k = hs_I (hs_pI (hs_pI (hs_pI s 0 5 (hs_I u 0 5)) 0 6 (hs_I u 0 6)) 0 7 (hs_I u 0 7)) a k
  simp only [hs_I_pI]
  by_cases c : a = 0
  · subst c
    by_cases c1 : k = 7
    · simp [c1]
    by_cases c2 : k = 6
    · simp [c2]
    by_cases c3 : k = 5
    · simp [c3]
    simp only [c1, c2, c3, and_false, if_false]
    exact h.1 _ _ (by simp [c1, c2, c3])
  · simp only [c, false_and, if_false]
    exact h.1 _ _ (by simp [c])
theorem tk_K_M {T : Nat → Nat} {n K t : Nat} (h : TK T n K) (ht : t ≤ K) : (if tk_p T n t < n then lx_kd T n (tk_p T n t) else 0) = tk_K T n K t := by
  unfold tk_K
  by_cases c : t < K
  · rw [if_pos c, if_pos (h.2.2.2.2 t c)]
  · obtain rfl : t = K := by omega
    rw [if_neg c, h.2.2.1, if_neg (Nat.lt_irrefl _)]
/-- at the token t -/
def mL (T : Nat → Nat) (n K : Nat) (m : hp_S) (t : Nat) (x : Int32) : hp_S := hs_pI (hs_pI (hs_pI m 0 5 x) 0 6 (nI (k_M (tk_K T n K t)))) 0 7 (nI (tk_p T n t))
theorem M_lookT {T : Nat → Nat} {n K t : Nat} {m : hp_S} (hT : TK T n K) (h : M_tx m T n) (ht : t < K) (ha : hs_I m 0 5 = nI (tk_e T n t)) : ∃ x, (∀ k, 1100 ≤ k → f_M_X11_look_0 k m = some (mL T n K m (t + 1) x)) ∧ (tk_K T n K (t + 1) ≠ 1 → t + 1 < K → x = nI (tk_e T n (t + 1))) := by
  have hn := hT.1
  obtain ⟨e1, e2⟩ := hT.e ht
  have hp : lx_to (lx_B T n) n (tk_e T n t) = tk_p T n (t + 1) := by
    simp only [tk_p, hT.2.2.2.2 t ht, if_true]
    rfl
  refine ⟨nI (m_at T n (tk_p T n (t + 1))), fun k hk => ?_, ?_⟩
  · obtain ⟨u, q1, q2, q3⟩ := M_look h ha e2 (by omega : 2 * n + 20 ≤ k)
    rw [hp] at q2
    rw [q1, hs_ext3 q3]
    congr 1
    unfold mL
    rw [q2.1, q2.2.1, q2.2.2, tk_K_M hT (by omega)]
  · intro g1 g2
    have g3 := hT.2.2.2.2 _ g2
    rw [← tk_K_M hT (by omega), if_pos g3] at g1
    unfold m_at
    rw [if_pos g3]
    cases hD : lx_D T n (tk_p T n (t + 1)) with
    | true =>
      rw [if_pos rfl]
      rcases (lx_num g3 hD).2 with q | q
      · exact absurd q g1
      · rw [q]; rfl
    | false => rfl
theorem M_need1 {m : hp_S} : f_M_X11_need_0 (nI 1) m = some (nI 1, m) := rfl
/-- refused here -/
def mB (m : hp_S) : hp_S := hs_pI (hs_pI m 0 50 (nI 1)) 0 4 (hs_I m 0 7)
theorem M_need0 {m : hp_S} (h : hs_I m 0 50 = nI 0) : f_M_X11_need_0 (nI 0) m = some (nI 0, mB m) := by
  unfold f_M_X11_need_0
  simp only [↓reduceIte, z_lit, z_m1, z_gd, z_le, z_lt, z_eq, z_em, z_me, z_ml, z_mle, z_lm, z_lem, z_pos, z_sub, nI_add, nI_clamp, ib_nI, pm_let, pm_bd, pm_b1, if_true, if_false, ite_true, ite_false, Nat.not_lt_zero, Nat.zero_le, h, hs_I_pI, hs_I_pA, hs_A_pI, hs_A_pA, and_true, true_and, and_false, false_and, and_self, eq_self, Nat.reduceEqDiff, ↓reduceIte, mB]
  rfl
/-- a token is passed -/
def mP (T : Nat → Nat) (n K : Nat) (m : hp_S) (p : Nat) (a x : Int32) : hp_S := mL T n K (hs_pI (hs_pA (hs_pA (hs_pA m 3 p (nI (tk_p T n p))) 4 p (nI (tk_e T n p))) 5 p a) 0 11 (nI (p + 1))) (p + 1) x
theorem M_pass {T : Nat → Nat} {n K p : Nat} {m : hp_S} {a : Int32} (hT : TK T n K) (h : M_tx m T n) (hp : p < K) (h5 : hs_I m 0 5 = nI (tk_e T n p)) (h7 : hs_I m 0 7 = nI (tk_p T n p)) (h11 : hs_I m 0 11 = nI p) : ∃ x, (∀ k, 1100 ≤ k → f_M_X11_pass_0 k a m = some (nI p, mP T n K m p a x)) ∧ (tk_K T n K (p + 1) ≠ 1 → p + 1 < K → x = nI (tk_e T n (p + 1))) := by
  have hK := hT.2.1
  obtain ⟨x, e1, e2⟩ := M_lookT (m := hs_pI (hs_pA (hs_pA (hs_pA m 3 p (nI (tk_p T n p))) 4 p (nI (tk_e T n p))) 5 p a) 0 11 (nI (p + 1))) hT (M_tx_fr (P := [(0, 11)]) (A := [3, 4, 5]) h (((hs_fr_pA (by decide)).cons (hs_fr_pA (by decide))).cons ((hs_fr_pA (by decide)).cons (hs_fr_pI (by decide)))) (by decide)) hp (by simp only [hs_I_pI, hs_I_pA, hs_A_pI, hs_A_pA, and_true, true_and, and_false, false_and, and_self, eq_self, Nat.reduceEqDiff, ↓reduceIte]; exact h5)
  refine ⟨x, fun k hk => ?_, e2⟩
  have e1 := e1 k hk
  unfold f_M_X11_pass_0
  simp (disch := omega) only [↓reduceIte, z_lit, z_m1, z_gd, z_le, z_lt, z_eq, z_em, z_me, z_ml, z_mle, z_lm, z_lem, z_pos, z_sub, nI_add, nI_clamp, ib_nI, pm_let, pm_bd, pm_b1, if_true, if_false, ite_true, ite_false, Nat.not_lt_zero, Nat.zero_le, hs_I_pI, hs_I_pA, hs_A_pI, hs_A_pA, and_true, true_and, and_false, false_and, and_self, eq_self, Nat.reduceEqDiff, ↓reduceIte, h11, h5, h7, e1]
  simp (disch := omega) only [mP, mL, hs_I_pI, hs_I_pA, hs_A_pI, hs_A_pA, and_true, true_and, and_false, false_and, and_self, eq_self, Nat.reduceEqDiff, ↓reduceIte, ↓reduceIte, z_lit, z_m1, z_gd, z_le, z_lt, z_eq, z_em, z_me, z_ml, z_mle, z_lm, z_lem, z_pos, z_sub, nI_add, nI_clamp, ib_nI, pm_let, pm_bd, pm_b1, if_true, if_false, ite_true, ite_false, Nat.not_lt_zero, Nat.zero_le]
  rfl
