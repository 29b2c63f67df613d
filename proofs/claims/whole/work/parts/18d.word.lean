/-! WORDS, in the reference: a name's first bytes as a number -/
theorem cmp_eq {x y : Int64} : lg_cmp x y = 0 ↔ x = y := by
  unfold lg_cmp
  constructor
  · intro h
    by_cases c1 : x > y
    · rw [if_pos c1] at h; exact absurd h (by decide)
    · rw [if_neg c1] at h
      by_cases c2 : x = y
      · exact c2
      · rw [if_neg c2] at h; exact absurd h (by decide)
  · intro h
    subst h
    simp
def M_tx (s : hp_S) (T : Nat → Nat) (n : Nat) : Prop := hs_I s 0 3 = nI n ∧ n ≤ 500 ∧ ∀ j, j < n → T j < 256 ∧ hs_A s 2 j = sb_b (T j)
theorem M_tx_fr {s t : hp_S} {T : Nat → Nat} {n : Nat} {P : List (Nat × Nat)} {A : List Nat} (h : M_tx s T n) (f : hs_fr P A s t) (g : (0, 3) ∉ P ∧ 2 ∉ A) : M_tx t T n :=
  ⟨by rw [f.1 _ _ g.1]; exact h.1, h.2.1, fun j hj => by rw [f.2 _ g.2]; exact h.2.2 j hj⟩
theorem M_here {s : hp_S} {T : Nat → Nat} {n p : Nat} (h : M_tx s T n) (hp : hs_I s 0 5 = nI p) (hpn : p ≤ n) : f_M_X11_here_0 0 s = some (if p < n then nI (T p) else -1, s) := by
  obtain ⟨h1, h2, h3⟩ := h
  unfold f_M_X11_here_0
  rw [h1, hp, Int32.add_zero]
  by_cases c : p < n
  · rw [if_neg (nI_ge c (by omega)), gd_t (ib_nI (by omega) (by omega)), nI_clamp (by omega), (h3 p c).2, (byte_all _ (h3 p c).1).1, if_pos c]
  · rw [if_pos (nI_le (by omega) (by omega)), if_neg c]
theorem M_isLetter {s : hp_S} {T : Nat → Nat} {n p : Nat} (hT : p < n → T p < 256) : f_M_X11_isLetter (if p < n then nI (T p) else -1) s = some (b_i (lx_L T n p), s) := by
  unfold f_M_X11_isLetter
  by_cases c : p < n
  · have hT := hT c
    simp only [c, if_true, lx_L, lx_lt, decide_true, Bool.true_and]
    rw [show ((97 : Int32)) = nI 97 from rfl, show ((122 : Int32)) = nI 122 from rfl]
    simp only [nI_ltI (show T p < 2 ^ 31 by omega) (show 97 < 2 ^ 31 by decide), nI_ltI (show 122 < 2 ^ 31 by decide) (show T p < 2 ^ 31 by omega)]
    by_cases c1 : T p < 97
    · have c3 : ¬ 97 ≤ T p := by omega
      simp [c1, c3, b_i]
    · have c3 : 97 ≤ T p := by omega
      by_cases c2 : 122 < T p
      · have c4 : ¬ T p ≤ 122 := by omega
        simp [c1, c2, c4, b_i]
      · have c4 : T p ≤ 122 := by omega
        simp [c1, c2, c3, c4, b_i]
  · simp only [c, if_false, lx_L, decide_false, Bool.false_and]
    rfl
theorem M_isDigit {s : hp_S} {T : Nat → Nat} {n p : Nat} (hT : p < n → T p < 256) : f_M_X11_isDigit (if p < n then nI (T p) else -1) s = some (b_i (lx_D T n p), s) := by
  unfold f_M_X11_isDigit
  by_cases c : p < n
  · have hT := hT c
    simp only [c, if_true, lx_D, lx_dg, decide_true, Bool.true_and]
    rw [show ((48 : Int32)) = nI 48 from rfl, show ((57 : Int32)) = nI 57 from rfl]
    simp only [nI_ltI (show T p < 2 ^ 31 by omega) (show 48 < 2 ^ 31 by decide), nI_ltI (show 57 < 2 ^ 31 by decide) (show T p < 2 ^ 31 by omega)]
    by_cases c1 : T p < 48
    · have c3 : ¬ 48 ≤ T p := by omega
      simp [c1, c3, b_i]
    · have c3 : 48 ≤ T p := by omega
      by_cases c2 : 57 < T p
      · have c4 : ¬ T p ≤ 57 := by omega
        simp [c1, c2, c4, b_i]
      · have c4 : T p ≤ 57 := by omega
        simp [c1, c2, c3, c4, b_i]
  · simp only [c, if_false, lx_D, decide_false, Bool.false_and]
    rfl
/-- the first i bytes of f as a number -/
def en_c (f : Nat → Nat) : Nat → Nat
  | 0 => 0
  | i + 1 => en_c f i * 256 + f i
theorem en_lt (f : Nat → Nat) : ∀ m, (∀ j, j < m → f j < 256) → en_c f m < 256 ^ m
  | 0, _ => by simp [en_c]
  | m + 1, h => by
    have h1 := en_lt f m (fun j hj => h j (by omega))
    have h2 := h m (by omega)
    simp only [en_c, Nat.pow_succ]
    omega
theorem en_inj (f g : Nat → Nat) : ∀ m k, (∀ j, j < m → 1 ≤ f j ∧ f j < 256) → (∀ j, j < k → 1 ≤ g j ∧ g j < 256) → en_c f m = en_c g k → m = k ∧ ∀ j, j < m → f j = g j
  | 0, 0, _, _, _ => ⟨rfl, fun j hj => by omega⟩
  | 0, k + 1, _, hg, e => by
    have := (hg k (by omega)).1
    simp only [en_c] at e
    omega
  | m + 1, 0, hf, _, e => by
    have := (hf m (by omega)).1
    simp only [en_c] at e
    omega
  | m + 1, k + 1, hf, hg, e => by
    have h1 := hf m (by omega)
    have h2 := hg k (by omega)
    simp only [en_c] at e
    have e1 : f m = g k := by omega
    have e2 : en_c f m = en_c g k := by omega
    obtain ⟨rfl, h3⟩ := en_inj f g m k (fun j hj => hf j (by omega)) (fun j hj => hg j (by omega)) e2
    refine ⟨rfl, fun j hj => ?_⟩
    by_cases c : j = m
    · rw [c]; exact e1
    · exact h3 j (by omega)
theorem en_congr (f g : Nat → Nat) : ∀ m, (∀ j, j < m → f j = g j) → en_c f m = en_c g m
  | 0, _ => rfl
  | m + 1, h => by
    simp only [en_c]
    rw [en_congr f g m (fun j hj => h j (by omega)), h m (by omega)]
/-- the words as numbers -/
def wd_c (k : Nat) : Nat := en_c (fun j => (wd_L.getD k []).getD j 0) (wd_L.getD k []).length
theorem wd_5 : (List.range 11).map wd_c = [26222, 7103860, 26990, 26982, 1952998766, 1701606245, 1953658213, 439721161573, 7237492, 6714228, 7564900] := by decide +kernel
theorem wd_6 : ∀ k, k < 11 → ∀ j, j < (wd_L.getD k []).length → 1 ≤ (wd_L.getD k []).getD j 0 ∧ (wd_L.getD k []).getD j 0 < 256 ∧ (wd_L.getD k []).getD j 32 = (wd_L.getD k []).getD j 0 ∧ (wd_L.getD k []).getD j 0 ≠ 32 := by decide +kernel
theorem wd_7 : ∀ k, k < 11 → ∀ j, j < 5 → (wd_L.getD k []).length ≤ j → (wd_L.getD k []).getD j 32 = 32 := by decide +kernel
/-- the token is the k-th word, where no blank stands in it -/
theorem lx_is_iff {T : Nat → Nat} {p e k : Nat} (hk : k < 11) (hpe : p < e) (hT : ∀ j, p ≤ j → j < e → T j ≠ 32) : lx_is T p e k = true ↔ e - p = (wd_L.getD k []).length ∧ ∀ j, j < e - p → T (p + j) = (wd_L.getD k []).getD j 0 := by
  have hl := (wd_3 k hk).1
  unfold lx_is
  rw [Bool.and_eq_true, decide_eq_true_eq, lx_wm_iff]
  constructor
  · rintro ⟨h1, h2⟩
    have hm : e - p = (wd_L.getD k []).length := by
      rcases Nat.lt_trichotomy (e - p) (wd_L.getD k []).length with c | c | c
      · exfalso
        have h3 := h2 (e - p) (by omega) (by omega)
        rw [wd_2 k hk _ (by omega), lx_pd, if_neg (by omega), (wd_6 k hk _ c).2.2.1] at h3
        exact (wd_6 k hk _ c).2.2.2 h3.symm
      · exact c
      · exfalso
        have h3 := h2 (wd_L.getD k []).length (by omega) (by omega)
        rw [wd_2 k hk _ (by omega), lx_pd, if_pos (by omega), wd_7 k hk _ (by omega) (Nat.le_refl _)] at h3
        exact hT _ (by omega) (by omega) h3
    refine ⟨hm, fun j hj => ?_⟩
    have h3 := h2 j (by omega) (by omega)
    rw [wd_2 k hk _ (by omega), lx_pd, if_pos (by omega), (wd_6 k hk j (by omega)).2.2.1] at h3
    exact h3
  · rintro ⟨h1, h2⟩
    refine ⟨by omega, fun j _ hj => ?_⟩
    rw [wd_2 k hk _ (by omega), lx_pd]
    by_cases c : p + j < e
    · rw [if_pos c, h2 j (by omega), (wd_6 k hk j (by omega)).2.2.1]
    · rw [if_neg c, wd_7 k hk j (by omega) (by omega)]
/-- .. by its number -/
theorem lx_is_en {T : Nat → Nat} {p e k : Nat} (hk : k < 11) (hpe : p < e) (hT : ∀ j, p ≤ j → j < e → 33 ≤ T j ∧ T j < 256) : en_c (fun j => T (p + j)) (min (e - p) 7) = wd_c k ↔ lx_is T p e k = true := by
  have hl := (wd_3 k hk).1
  rw [lx_is_iff hk hpe (fun j h1 h2 => by have := hT j h1 h2; omega)]
  constructor
  · intro h
    obtain ⟨h1, h2⟩ := en_inj _ _ _ _ (fun j hj => by have := hT (p + j) (by omega) (by omega); omega) (fun j hj => ⟨(wd_6 k hk j hj).1, (wd_6 k hk j hj).2.1⟩) h
    have h3 : e - p = (wd_L.getD k []).length := by omega
    exact ⟨h3, fun j hj => h2 j (by omega)⟩
  · rintro ⟨h1, h2⟩
    rw [Nat.min_eq_left (by omega), h1]
    exact en_congr _ _ _ (fun j hj => h2 j (by omega))
