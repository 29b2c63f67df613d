/-! letters and numbers -/
theorem z_div {a b : Nat} (ha : a < 2 ^ 30) (hb : 0 < b) (hb2 : b < 2 ^ 30) : nI a / nI b = nI (a / b) := by
  apply Int32.toInt_inj.mp
  rw [Int32.toInt_div_of_ne_right _ _ (by
    intro h
    have h2 := congrArg Int32.toInt h
    rw [nI_toInt (by omega)] at h2
    have h3 := nM_toInt
    change (b : Int) = nM.toInt at h2
    omega), nI_toInt (by omega), nI_toInt (by omega), nI_toInt (by have := Nat.div_le_self a b; omega)]
  rfl
theorem z_mul {a b : Nat} (h : a * b < 2 ^ 30) : nI a * nI b = nI (a * b) := by
  simp only [nI]
  exact (Int32.ofNat_mul a b).symm
theorem z_mod {a b : Nat} (ha : a < 2 ^ 30) (hb : 0 < b) (hb2 : b < 2 ^ 30) : nI a - nI a / nI b * nI b = nI (a % b) := by
  have h1 := Nat.div_add_mod a b
  have h2 : a / b * b ≤ a := Nat.div_mul_le_self a b
  rw [z_div ha hb hb2, z_mul (by omega), z_sub h2 ha]
  congr 1
  rw [Nat.mul_comm] at h1
  omega
theorem gd0 {p : Nat} (h : 0 < p) (h2 : p < 2 ^ 31) : (!decide (nI p = (0 : Int32))) = true := by
  rw [show (0 : Int32) = nI 0 from rfl]
  have : ¬ nI p = nI 0 := by rw [nI_eq h2 (by omega)]; omega
  simp [this]
def digs (n : Nat) : Nat → List Nat
  | 0 => [48 + n % 10]
  | k + 1 => (48 + n / 10 ^ (k + 1) % 10) :: digs n k
theorem p10 {k : Nat} (h : k ≤ 3) : 0 < 10 ^ k ∧ 10 ^ k ≤ 1000 := by
  rcases (show k = 0 ∨ k = 1 ∨ k = 2 ∨ k = 3 by omega) with rfl | rfl | rfl | rfl <;> decide
theorem C_dig {n : Nat} (hn : n < 1000) : ∀ (k G : Nat) (s : hp_S), k ≤ 3 → k + 2 ≤ G → l_C_X3_addNumber_39_29 G (nI n) (nI (10 ^ k)) s = cFd (digs n k) s := by
  intro k
  induction k with
  | zero =>
    intro G s hk hG
    obtain ⟨G, rfl⟩ : ∃ z, G = z + 2 := ⟨G - 2, by omega⟩
    have last : ∀ s, l_C_X3_addNumber_39_29 (G + 1) (nI n) (nI 0) s = some s := by
      intro s
      rw [l_C_X3_addNumber_39_29.eq_2, if_pos (by decide)]
    have e1 : nI 1 / (10 : Int32) = nI 0 := by decide
    have e2 : (48 : Int32) + (nI n / nI 1 - nI n / nI 1 / 10 * 10) = nI (48 + n % 10) := by
      rw [z_div (by omega) (by omega) (by omega), Nat.div_one]
      rw [show (10 : Int32) = nI 10 from rfl, z_mod (by omega) (by omega) (by omega)]
      simp (disch := omega) only [↓reduceIte, z_lit, z_m1, z_gd, z_le, z_lt, z_eq, z_em, z_me, z_ml, z_mle, z_lm, z_lem, z_pos, z_sub, nI_add, nI_clamp, ib_nI, pm_let, pm_bd, pm_b1, if_true, if_false, ite_true, ite_false, Nat.not_lt_zero, Nat.zero_le]
    rw [Nat.pow_zero, l_C_X3_addNumber_39_29.eq_2, if_neg (by decide), gd0 (by omega) (by omega), z_gd]
    simp only [e1, e2, pm_let, digs, cFd]
    cases f_C_X3_add_39 (nI (48 + n % 10)) s with
    | none => rfl
    | some s1 => simp only [pm_b1]; exact last s1
  | succ k ih =>
    intro G s hk hG
    obtain ⟨G, rfl⟩ : ∃ z, G = z + 1 := ⟨G - 1, by omega⟩
    obtain ⟨a1, a2⟩ := p10 hk
    obtain ⟨b1, b2⟩ := p10 (show k ≤ 3 by omega)
    have ih' := fun s => ih G s (by omega) (by omega)
    have e1 : nI (10 ^ (k + 1)) / (10 : Int32) = nI (10 ^ k) := by
      rw [show (10 : Int32) = nI 10 from rfl, z_div (by omega) (by omega) (by omega)]
      congr 1
      rw [Nat.pow_succ]
      omega
    have dl := Nat.div_le_self n (10 ^ (k + 1))
    have e2 : (48 : Int32) + (nI n / nI (10 ^ (k + 1)) - nI n / nI (10 ^ (k + 1)) / 10 * 10) = nI (48 + n / 10 ^ (k + 1) % 10) := by
      rw [z_div (by omega) (by omega) (by omega), show (10 : Int32) = nI 10 from rfl, z_mod (by omega) (by omega) (by omega)]
      simp (disch := omega) only [↓reduceIte, z_lit, z_m1, z_gd, z_le, z_lt, z_eq, z_em, z_me, z_ml, z_mle, z_lm, z_lem, z_pos, z_sub, nI_add, nI_clamp, ib_nI, pm_let, pm_bd, pm_b1, if_true, if_false, ite_true, ite_false, Nat.not_lt_zero, Nat.zero_le]
    rw [l_C_X3_addNumber_39_29.eq_2, if_neg (by rw [show (0 : Int32) = nI 0 from rfl, z_le (by omega) (by omega)]; omega), gd0 (by omega) (by omega), z_gd]
    simp only [e1, e2, pm_let, digs, cFd]
    cases f_C_X3_add_39 (nI (48 + n / 10 ^ (k + 1) % 10)) s with
    | none => rfl
    | some s1 => simp only [pm_b1]; exact ih' s1
theorem M_dig {n : Nat} (hn : n < 1000) : ∀ (k G : Nat) (s : hp_S), k ≤ 3 → k + 2 ≤ G → l_M_X11_letter_0_78 G (nI n) (nI (10 ^ k)) s = mFd (digs n k) s := by
  intro k
  induction k with
  | zero =>
    intro G s hk hG
    obtain ⟨G, rfl⟩ : ∃ z, G = z + 2 := ⟨G - 2, by omega⟩
    have last : ∀ s, l_M_X11_letter_0_78 (G + 1) (nI n) (nI 0) s = some s := by
      intro s
      rw [l_M_X11_letter_0_78.eq_2, if_pos (by decide)]
    have e1 : nI 1 / (10 : Int32) = nI 0 := by decide
    have e2 : (48 : Int32) + (nI n / nI 1 - nI n / nI 1 / 10 * 10) = nI (48 + n % 10) := by
      rw [z_div (by omega) (by omega) (by omega), Nat.div_one]
      rw [show (10 : Int32) = nI 10 from rfl, z_mod (by omega) (by omega) (by omega)]
      simp (disch := omega) only [↓reduceIte, z_lit, z_m1, z_gd, z_le, z_lt, z_eq, z_em, z_me, z_ml, z_mle, z_lm, z_lem, z_pos, z_sub, nI_add, nI_clamp, ib_nI, pm_let, pm_bd, pm_b1, if_true, if_false, ite_true, ite_false, Nat.not_lt_zero, Nat.zero_le]
    rw [Nat.pow_zero, l_M_X11_letter_0_78.eq_2, if_neg (by decide), gd0 (by omega) (by omega), z_gd]
    simp only [e1, e2, pm_let, digs, mFd]
    cases f_M_X11_write_0 (nI (48 + n % 10)) s with
    | none => rfl
    | some s1 => simp only [pm_b1]; exact last s1
  | succ k ih =>
    intro G s hk hG
    obtain ⟨G, rfl⟩ : ∃ z, G = z + 1 := ⟨G - 1, by omega⟩
    obtain ⟨a1, a2⟩ := p10 hk
    obtain ⟨b1, b2⟩ := p10 (show k ≤ 3 by omega)
    have ih' := fun s => ih G s (by omega) (by omega)
    have e1 : nI (10 ^ (k + 1)) / (10 : Int32) = nI (10 ^ k) := by
      rw [show (10 : Int32) = nI 10 from rfl, z_div (by omega) (by omega) (by omega)]
      congr 1
      rw [Nat.pow_succ]
      omega
    have dl := Nat.div_le_self n (10 ^ (k + 1))
    have e2 : (48 : Int32) + (nI n / nI (10 ^ (k + 1)) - nI n / nI (10 ^ (k + 1)) / 10 * 10) = nI (48 + n / 10 ^ (k + 1) % 10) := by
      rw [z_div (by omega) (by omega) (by omega), show (10 : Int32) = nI 10 from rfl, z_mod (by omega) (by omega) (by omega)]
      simp (disch := omega) only [↓reduceIte, z_lit, z_m1, z_gd, z_le, z_lt, z_eq, z_em, z_me, z_ml, z_mle, z_lm, z_lem, z_pos, z_sub, nI_add, nI_clamp, ib_nI, pm_let, pm_bd, pm_b1, if_true, if_false, ite_true, ite_false, Nat.not_lt_zero, Nat.zero_le]
    rw [l_M_X11_letter_0_78.eq_2, if_neg (by rw [show (0 : Int32) = nI 0 from rfl, z_le (by omega) (by omega)]; omega), gd0 (by omega) (by omega), z_gd]
    simp only [e1, e2, pm_let, digs, mFd]
    cases f_M_X11_write_0 (nI (48 + n / 10 ^ (k + 1) % 10)) s with
    | none => rfl
    | some s1 => simp only [pm_b1]; exact ih' s1
/-- how many digits -/
def dgk (n : Nat) : Nat := if n < 10 then 0 else if n < 100 then 1 else 2
theorem C_num {n G : Nat} (hn : n < 1000) (hG : 20 ≤ G) (s : hp_S) : f_C_X3_addNumber_39 G (nI n) s = cFd (digs n (dgk n)) s := by
  obtain ⟨G, rfl⟩ : ∃ z, G = z + 3 := ⟨G - 3, by omega⟩
  have d0 : nI n / (1 : Int32) = nI (n / 1) := z_div (b := 1) (by omega) (by omega) (by omega)
  have d1 : nI n / (10 : Int32) = nI (n / 10) := z_div (b := 10) (by omega) (by omega) (by omega)
  have d2 : nI n / (100 : Int32) = nI (n / 100) := z_div (b := 100) (by omega) (by omega) (by omega)
  have g1 : (!decide ((1 : Int32) = 0)) = true := by decide
  have g10 : (!decide ((10 : Int32) = 0)) = true := by decide
  have g100 : (!decide ((100 : Int32) = 0)) = true := by decide
  have m1 : (1 : Int32) * 10 = 10 := by decide
  have m10 : (10 : Int32) * 10 = 100 := by decide
  have a1 : ¬ (9 : Int32) ≤ 1 := by decide
  have a2 : ¬ (9 : Int32) ≤ 2 := by decide
  have a3 : ¬ (9 : Int32) ≤ 3 := by decide
  have s1 : (1 : Int32) + 1 = 2 := by decide
  have s2 : (2 : Int32) + 1 = 3 := by decide
  have lt : ∀ a, a < 1000 → (nI a < (10 : Int32) ↔ a < 10) := fun a ha => by rw [show (10 : Int32) = nI 10 from rfl, z_lt (by omega) (by omega)]
  unfold f_C_X3_addNumber_39 dgk
  by_cases c1 : n < 10
  · rw [if_pos c1, ← C_dig hn 0 (G + 2) s (by omega) (by omega), l_C_X3_addNumber_39_4.eq_2, if_neg a1, g1, z_gd, d0, if_pos ((lt _ (by omega)).mpr (by omega))]
    rfl
  · rw [if_neg c1]
    by_cases c2 : n < 100
    · rw [if_pos c2, ← C_dig hn 1 (G + 1) s (by omega) (by omega), l_C_X3_addNumber_39_4.eq_2, if_neg a1, g1, z_gd, d0, if_neg (fun q => by have := (lt _ (by omega)).mp q; omega)]
      simp only [pm_let]
      rw [m1, s1, l_C_X3_addNumber_39_4.eq_2, if_neg a2, g10, z_gd, d1, if_pos ((lt _ (by omega)).mpr (by omega))]
      rfl
    · rw [if_neg c2, ← C_dig hn 2 G s (by omega) (by omega), l_C_X3_addNumber_39_4.eq_2, if_neg a1, g1, z_gd, d0, if_neg (fun q => by have := (lt _ (by omega)).mp q; omega)]
      simp only [pm_let]
      rw [m1, s1, l_C_X3_addNumber_39_4.eq_2, if_neg a2, g10, z_gd, d1, if_neg (fun q => by have := (lt _ (by omega)).mp q; omega)]
      simp only [pm_let]
      rw [m10, s2, l_C_X3_addNumber_39_4.eq_2, if_neg a3, g100, z_gd, d2, if_pos ((lt _ (by omega)).mpr (by omega))]
      rfl
theorem M_num {n G : Nat} (hn : n < 1000) (hG : 20 ≤ G) (s : hp_S) : l_M_X11_letter_0_62 G (nI n) (1 : Int32) s = mFd (digs n (dgk n)) s := by
  obtain ⟨G, rfl⟩ : ∃ z, G = z + 3 := ⟨G - 3, by omega⟩
  have d0 : nI n / (1 : Int32) = nI (n / 1) := z_div (b := 1) (by omega) (by omega) (by omega)
  have d1 : nI n / (10 : Int32) = nI (n / 10) := z_div (b := 10) (by omega) (by omega) (by omega)
  have d2 : nI n / (100 : Int32) = nI (n / 100) := z_div (b := 100) (by omega) (by omega) (by omega)
  have g1 : (!decide ((1 : Int32) = 0)) = true := by decide
  have g10 : (!decide ((10 : Int32) = 0)) = true := by decide
  have g100 : (!decide ((100 : Int32) = 0)) = true := by decide
  have m1 : (1 : Int32) * 10 = 10 := by decide
  have m10 : (10 : Int32) * 10 = 100 := by decide
  have le : ∀ a, a < 1000 → (nI a ≤ (9 : Int32) ↔ a ≤ 9) := fun a ha => by rw [show (9 : Int32) = nI 9 from rfl, z_le (by omega) (by omega)]
  unfold dgk
  by_cases c1 : n < 10
  · rw [if_pos c1, ← M_dig hn 0 (G + 2) s (by omega) (by omega), l_M_X11_letter_0_62.eq_2, g1, z_gd, d0, if_pos ((le _ (by omega)).mpr (by omega))]
    rfl
  · rw [if_neg c1]
    by_cases c2 : n < 100
    · rw [if_pos c2, ← M_dig hn 1 (G + 1) s (by omega) (by omega), l_M_X11_letter_0_62.eq_2, g1, z_gd, d0, if_neg (fun q => by have := (le _ (by omega)).mp q; omega)]
      simp only [pm_let]
      rw [m1, l_M_X11_letter_0_62.eq_2, g10, z_gd, d1, if_pos ((le _ (by omega)).mpr (by omega))]
      rfl
    · rw [if_neg c2, ← M_dig hn 2 G s (by omega) (by omega), l_M_X11_letter_0_62.eq_2, g1, z_gd, d0, if_neg (fun q => by have := (le _ (by omega)).mp q; omega)]
      simp only [pm_let]
      rw [m1, l_M_X11_letter_0_62.eq_2, g10, z_gd, d1, if_neg (fun q => by have := (le _ (by omega)).mp q; omega)]
      simp only [pm_let]
      rw [m10, l_M_X11_letter_0_62.eq_2, g100, z_gd, d2, if_pos ((le _ (by omega)).mpr (by omega))]
      rfl
/-- a letter and its number, once it is known -/
def letL (l : Nat) : List Nat := (97 + l % 26) :: if l < 26 then [] else digs (l / 26) (dgk (l / 26))
theorem C_let1 {s : hp_S} {R x l G : Nat} (h5 : hs_I s 31 5 = nI R) (hR : R ≤ 10002) (hx : x < R) (hm : hs_A s 35 x = nI (l + 1)) (hl : l < 10002) (hG : 20 ≤ G) : f_C_X8_writeLetter_41 G (nI x) s = cFd (letL l) s := by
  have dl := Nat.div_le_self l 26
  unfold f_C_X8_writeLetter_41
  have c0 : ¬ nI (l + 1) = (0 : Int32) := by rw [show (0 : Int32) = nI 0 from rfl, nI_eq (by omega) (by omega)]; omega
  have e1 : nI (l + 1) - (1 : Int32) = nI l := by rw [show (1 : Int32) = nI 1 from rfl, z_sub (by omega) (by omega)]; rfl
  have e2 : (97 : Int32) + (nI l - nI l / 26 * 26) = nI (97 + l % 26) := by
    rw [show (26 : Int32) = nI 26 from rfl, z_mod (by omega) (by omega) (by omega)]
    simp (disch := omega) only [↓reduceIte, z_lit, z_m1, z_gd, z_le, z_lt, z_eq, z_em, z_me, z_ml, z_mle, z_lm, z_lem, z_pos, z_sub, nI_add, nI_clamp, ib_nI, pm_let, pm_bd, pm_b1, if_true, if_false, ite_true, ite_false, Nat.not_lt_zero, Nat.zero_le]
  have e3 : nI l / (26 : Int32) = nI (l / 26) := by rw [show (26 : Int32) = nI 26 from rfl, z_div (by omega) (by omega) (by omega)]
  simp only [C_mk31 h5 hR hx, hm, pm_bd, pm_let, e1, e2]
  rw [if_neg c0]
  simp only [letL, cFd]
  cases f_C_X3_add_39 (nI (97 + l % 26)) s with
  | none => rfl
  | some s1 =>
    simp only [pm_b1]
    by_cases c : l < 26
    · rw [if_pos (show nI l < (26 : Int32) by rw [show (26 : Int32) = nI 26 from rfl, z_lt (by omega) (by omega)]; exact c), if_pos c]
      rfl
    · rw [if_neg (show ¬ nI l < (26 : Int32) by rw [show (26 : Int32) = nI 26 from rfl, z_lt (by omega) (by omega)]; exact c), if_neg c, e3, C_num (by omega) hG]
      cases cFd (digs (l / 26) (dgk (l / 26))) s1 <;> rfl
theorem M_let1 {m : hp_S} {p l G : Nat} (hp : p < 10200) (hm : hs_A m 33 p = nI l) (hl : l < 10002) (h46 : ∃ w, w ≤ 4000 ∧ hs_I m 0 46 = nI w) (hG : 20 ≤ G) : f_M_X11_letter_0 G (nI p) m = mFd (letL l) m := by
  have dl := Nat.div_le_self l 26
  have e2 : (97 : Int32) + (nI l - nI l / 26 * 26) = nI (97 + l % 26) := by
    rw [show (26 : Int32) = nI 26 from rfl, z_mod (by omega) (by omega) (by omega)]
    simp (disch := omega) only [↓reduceIte, z_lit, z_m1, z_gd, z_le, z_lt, z_eq, z_em, z_me, z_ml, z_mle, z_lm, z_lem, z_pos, z_sub, nI_add, nI_clamp, ib_nI, pm_let, pm_bd, pm_b1, if_true, if_false, ite_true, ite_false, Nat.not_lt_zero, Nat.zero_le]
  have e3 : nI l / (26 : Int32) = nI (l / 26) := by rw [show (26 : Int32) = nI 26 from rfl, z_div (by omega) (by omega) (by omega)]
  have i1 : pm_ib (nI p) 10200 = true := ib_nI hp (by omega)
  have q1 : (nI p).toNatClampNeg = p := nI_clamp (by omega)
  unfold f_M_X11_letter_0
  rw [i1, z_gd]
  simp only [pm_let, q1, hm]
  rw [if_pos (show (0 : Int32) ≤ nI l by rw [show (0 : Int32) = nI 0 from rfl, z_le (by omega) (by omega)]; omega)]
  simp only [i1, z_gd, e2, letL, mFd]
  -- a byte more doesn't change the letters
  have w33 : ∀ m1, f_M_X11_write_0 (nI (97 + l % 26)) m = some m1 → hs_A m1 33 p = nI l := by
    intro m1 h
    obtain ⟨w, hw, ew⟩ := h46
    unfold f_M_X11_write_0 at h
    by_cases c : 4000 ≤ w
    · simp (disch := omega) only [↓reduceIte, z_lit, z_m1, z_gd, z_le, z_lt, z_eq, z_em, z_me, z_ml, z_mle, z_lm, z_lem, z_pos, z_sub, nI_add, nI_clamp, ib_nI, pm_let, pm_bd, pm_b1, if_true, if_false, ite_true, ite_false, Nat.not_lt_zero, Nat.zero_le, ew, c, Option.some.injEq] at h
      rw [← h]; exact hm
    · simp (disch := omega) only [↓reduceIte, z_lit, z_m1, z_gd, z_le, z_lt, z_eq, z_em, z_me, z_ml, z_mle, z_lm, z_lem, z_pos, z_sub, nI_add, nI_clamp, ib_nI, pm_let, pm_bd, pm_b1, if_true, if_false, ite_true, ite_false, Nat.not_lt_zero, Nat.zero_le, ew, c, Option.some.injEq] at h
      rw [← h]; simp only [hs_I_pI, hs_I_pA, hs_A_pI, hs_A_pA, and_true, true_and, and_false, false_and, and_self, eq_self, Nat.reduceEqDiff, ↓reduceIte]; exact hm
  cases hc : f_M_X11_write_0 (nI (97 + l % 26)) m with
  | none => rfl
  | some m1 =>
    simp only [pm_b1, w33 m1 hc, e3]
    by_cases c : l < 26
    · rw [if_pos (show nI (l / 26) = (0 : Int32) by rw [show (0 : Int32) = nI 0 from rfl, nI_eq (by omega) (by omega)]; omega), if_pos c]
      rfl
    · rw [if_neg (show ¬ nI (l / 26) = (0 : Int32) by rw [show (0 : Int32) = nI 0 from rfl, nI_eq (by omega) (by omega)]; omega), if_neg c]
      exact M_num (n := l / 26) (by omega) hG m1
