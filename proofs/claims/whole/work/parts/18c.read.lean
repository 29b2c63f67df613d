/-! ALL TOKENS of the class: the t-th one begins at tk_p t; those behind the last one at the text's end -/
def tk_p (T : Nat → Nat) (n : Nat) : Nat → Nat
  | 0 => lx_to (lx_B T n) n 0
  | t + 1 => if tk_p T n t < n then lx_to (lx_B T n) n (lx_end T n (tk_p T n t)) else n
theorem tk_p_le (T : Nat → Nat) (n : Nat) : ∀ t, tk_p T n t ≤ n
  | 0 => (lx_to_ge _ (Nat.zero_le n)).2
  | t + 1 => by
    simp only [tk_p]
    split
    · next h => exact (lx_to_ge _ (lx_end_le h).2).2
    · exact Nat.le_refl _
theorem tk_p_lt (T : Nat → Nat) (n t : Nat) (h : tk_p T n t < n) : tk_p T n t < tk_p T n (t + 1) ∧ lx_end T n (tk_p T n t) ≤ tk_p T n (t + 1) := by
  simp only [tk_p, h, if_true]
  have h1 := lx_end_le (T := T) h
  have h2 := lx_to_ge (lx_B T n) h1.2
  omega
theorem tk_p_n (T : Nat → Nat) (n t : Nat) (h : tk_p T n t = n) : tk_p T n (t + 1) = n := by
  simp only [tk_p]
  rw [if_neg (by omega)]
theorem tk_p_mono (T : Nat → Nat) (n : Nat) : ∀ d t, tk_p T n t ≤ tk_p T n (t + d)
  | 0, t => Nat.le_refl _
  | d + 1, t => by
    have h := tk_p_mono T n d t
    refine Nat.le_trans h ?_
    rcases Nat.lt_or_ge (tk_p T n (t + d)) n with q | q
    · exact Nat.le_of_lt (tk_p_lt T n (t + d) q).1
    · have q2 : tk_p T n (t + d) = n := Nat.le_antisymm (tk_p_le T n _) q
      rw [q2, show t + (d + 1) = t + d + 1 by omega, tk_p_n T n _ q2]
      exact Nat.le_refl _
theorem tk_p_big (T : Nat → Nat) (n : Nat) : ∀ t, tk_p T n t < n → t ≤ tk_p T n t
  | 0, _ => Nat.zero_le _
  | t + 1, h => by
    have h0 : tk_p T n t < n := Nat.lt_of_le_of_lt (tk_p_mono T n 1 t) h
    have h1 := tk_p_big T n t h0
    have h2 := (tk_p_lt T n t h0).1
    omega
/-- the class holds the first K tokens -/
def C_tk (s : hp_S) (T : Nat → Nat) (n K : Nat) : Prop := hs_I s 3 4 = nI K ∧ (∀ t, t < K → tk_p T n t < n ∧ hs_A s 4 t = nI (lx_kd T n (tk_p T n t)) ∧ hs_A s 5 t = nI (tk_p T n t) ∧ hs_A s 6 t = nI (lx_end T n (tk_p T n t)))
theorem C_tx_fr {s t : hp_S} {T : Nat → Nat} {n : Nat} {P : List (Nat × Nat)} {A : List Nat} (h : C_tx s T n) (f : hs_fr P A s t) (g : (1, 1) ∉ P ∧ 2 ∉ A) : C_tx t T n :=
  ⟨by rw [f.1 _ _ g.1]; exact h.1, h.2.1, fun j hj => by rw [f.2 _ g.2]; exact h.2.2 j hj⟩
theorem C_tk_fr {s t : hp_S} {T : Nat → Nat} {n K : Nat} {P : List (Nat × Nat)} {A : List Nat} (h : C_tk s T n K) (f : hs_fr P A s t) (g : (3, 4) ∉ P ∧ 4 ∉ A ∧ 5 ∉ A ∧ 6 ∉ A) : C_tk t T n K :=
  ⟨by rw [f.1 _ _ g.1]; exact h.1, fun j hj => by rw [f.2 _ g.2.1, f.2 _ g.2.2.1, f.2 _ g.2.2.2]; exact h.2 j hj⟩
theorem C_add {s : hp_S} {T : Nat → Nat} {n K k : Nat} (h : C_tx s T n) (ht : C_tk s T n K) (hK : tk_p T n K < n) (hk : n + 30 ≤ k) : ∃ u, f_C_X6_add_3 k (nI (tk_p T n K)) (nI (lx_end T n (tk_p T n K))) s = some u ∧ C_tk u T n (K + 1) ∧ hs_fr [(3, 4)] [4, 5, 6] s u := by
  have hn := h.2.1
  have hKb := tk_p_big T n K hK
  obtain ⟨h1, h2⟩ := ht
  unfold f_C_X6_add_3
  simp only [C_kindFrom h hK hk, pm_bd, pm_let, hs_I_pA, h1]
  rw [if_neg (by rw [show (500 : Int32) = nI 500 from rfl]; exact nI_ge (by omega) (by omega))]
  simp only [gd_t (ib_nI (show K < 500 by omega) (by omega)), nI_clamp (show K < 2 ^ 31 by omega), nI_1]
  refine ⟨_, rfl, ⟨by rw [hs_I_pI]; rfl, fun t htK => ?_⟩, ?_⟩
  · simp only [hs_A_pI, hs_A_pA]
    by_cases c : t = K
    · subst c
      simp [hK]
    · have h3 := h2 t (by omega)
      simp only [c, and_false, if_false]
      simp [h3]
  · exact ((hs_fr_pA (by decide)).cons ((hs_fr_pA (by decide)).cons (hs_fr_pA (by decide)))).cons (hs_fr_pI (by decide))
/-- from a place i behind the first K tokens, where only blanks stand up to the next token -/
theorem C_readLoop {T : Nat → Nat} {n : Nat} : ∀ (d i st K k : Nat) (s : hp_S), i + d = n → n + d + 60 ≤ k → st ≤ i → C_tx s T n → C_tk s T n K → lx_to (lx_B T n) n i = tk_p T n K → ∃ u K2, l_C_X6_read_3_9 k (nI i) (nI st) s = some u ∧ C_tk u T n K2 ∧ tk_p T n K2 = n ∧ hs_fr [(3, 4)] [4, 5, 6] s u := by
  intro d
  induction d using Nat.strongRecOn with
  | ind d ih =>
  intro i st K k s hi hk hst h ht hlx
  have hn := h.2.1
  obtain ⟨k, rfl⟩ : ∃ z, k = z + 1 := ⟨k - 1, by omega⟩
  rw [l_C_X6_read_3_9.eq_2]
  simp only [pm_let, C_length h, pm_bd, C_isBlank h (show i < 2 ^ 20 by omega), nI_1]
  by_cases ce : i = n
  · subst ce
    rw [lx_to_n] at hlx
    refine ⟨s, K, ?_, ht, hlx.symm, hs_fr.rf⟩
    rw [if_pos (nI_le (Nat.le_refl _) (by omega))]
    split <;> rfl
  rw [if_neg (by rw [show (500 : Int32) = nI 500 from rfl]; exact nI_ge (by omega) (by omega)), if_neg (nI_ge (by omega) (by omega))]
  have hstep := lx_to_step (lx_B T n) (show i < n by omega)
  rw [hlx] at hstep
  cases hb : lx_B T n i with
  | true =>
    rw [hb, if_pos rfl] at hstep
    rw [if_neg (by simp [b_i])]
    exact ih (d - 1) (by omega) (i + 1) (st + 1) K k s (by omega) (by omega) (by omega) h ht hstep.symm
  | false =>
    rw [hb, if_neg (by decide)] at hstep
    rw [if_pos (by simp [b_i])]
    have hK : tk_p T n K < n := by omega
    subst hstep
    obtain ⟨u, a1, a2, a3⟩ := C_add (k := k) h ht hK (by omega)
    have hle := lx_end_le (T := T) hK
    obtain ⟨w, K2, b1, b2, b3, b4⟩ := ih (n - lx_end T n (tk_p T n K)) (by omega) (lx_end T n (tk_p T n K)) (st + 1) (K + 1) k u (by omega) (by omega) (by omega) (C_tx_fr h a3 (by decide)) a2 (by simp only [tk_p, hK, if_true])
    refine ⟨w, K2, ?_, b2, b3, a3.cons b4⟩
    rw [C_endFrom h hK (by omega)]
    simp only [a1, pm_b1]
    exact b1
/-- Tokens.read: all tokens of the text -/
theorem C_read {s : hp_S} {T : Nat → Nat} {n k : Nat} (h : C_tx s T n) (hk : 2 * n + 60 ≤ k) : ∃ u K, f_C_X6_read_3 k s = some u ∧ C_tk u T n K ∧ tk_p T n K = n ∧ hs_fr [(3, 4)] [4, 5, 6] s u := by
  unfold f_C_X6_read_3
  simp only [pm_let]
  obtain ⟨u, K, a1, a2, a3, a4⟩ := C_readLoop n 0 0 0 k (hs_pI s 3 4 0) (by omega) (by omega) (Nat.le_refl _) (C_tx_fr (P := [(3, 4)]) (A := []) h (hs_fr_pI (by decide)) (by decide)) ⟨by rw [hs_I_pI]; rfl, fun t ht => by omega⟩ rfl
  exact ⟨u, K, a1, a2, a3, (hs_fr_pI (by decide)).cons a4⟩
