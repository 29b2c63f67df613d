theorem lx_LD_rng {T : Nat → Nat} {n j : Nat} (h : lx_LD T n j = true) : j < n ∧ 48 ≤ T j ∧ T j ≤ 122 := by
  simp only [lx_LD, lx_L, lx_D, lx_lt, lx_dg, Bool.or_eq_true, Bool.and_eq_true, decide_eq_true_eq] at h
  omega
theorem lx_to_in (P : Nat → Bool) {n i j : Nat} (h1 : i ≤ j) (h2 : j < lx_to P n i) : P j = true := lx_go_in P _ _ _ h1 h2
theorem lx_to_end (P : Nat → Bool) {n i : Nat} (hi : i ≤ n) (h : lx_to P n i < n) : P (lx_to P n i) = false := lx_go_end P _ _ (by unfold lx_to at h; omega)
theorem M_look66 {T : Nat → Nat} {n b : Nat} : ∀ (d p k : Nat) (s : hp_S), p + d = n → d + 12 ≤ k → M_tx s T n → hs_I s 0 5 = nI p → hs_I s 0 7 = nI b → b ≤ p → b < lx_to (lx_LD T n) n p → (∀ j, b ≤ j → j < p → 48 ≤ T j ∧ T j ≤ 122) → ∃ u, l_M_X11_look_0_66 k s = some u ∧ hs_I u 0 5 = nI (lx_to (lx_LD T n) n p) ∧ hs_I u 0 6 = nI (if lx_to (lx_LD T n) n p - b ≤ 10 then k_M (lx_wf (lx_is T b (lx_to (lx_LD T n) n p)) 11 0) else 21) ∧ hs_fr [(0, 5), (0, 6)] [] s u := by
  intro d
  induction d with
  | zero =>
    intro p k s hp hk h ha hb hbp hlt hT
    obtain ⟨k, rfl⟩ : ∃ z, k = z + 1 := ⟨k - 1, by omega⟩
    obtain rfl : p = n := by omega
    rw [lx_to_n] at hlt ⊢
    have hw := M_wordOf (k := k) h hb ha hlt (Nat.le_refl _) hT (by omega)
    rw [l_M_X11_look_0_66.eq_2]
    simp only [pm_let, M_here h ha (Nat.le_refl _), pm_bd, M_isLetter (s := s) (T := T) (n := p) (p := p) (fun q => absurd q (Nat.lt_irrefl _)), M_isDigit (s := s) (T := T) (n := p) (p := p) (fun q => absurd q (Nat.lt_irrefl _)), hw]
    have e1 : lx_L T p p = false := by simp [lx_L]
    have e2 : lx_D T p p = false := by simp [lx_D]
    rw [e1, e2, if_pos (by decide), if_pos (by decide)]
    exact ⟨_, rfl, by rw [hs_I_pI]; exact ha, by rw [hs_I_pI]; rfl, hs_fr_pI (by decide)⟩
  | succ d ih =>
    intro p k s hp hk h ha hb hbp hlt hT
    obtain ⟨k, rfl⟩ : ∃ z, k = z + 1 := ⟨k - 1, by omega⟩
    have hTp := (h.2.2 p (by omega)).1
    have hst := lx_to_step (lx_LD T n) (show p < n by omega)
    rw [l_M_X11_look_0_66.eq_2]
    simp only [pm_let, M_here h ha (by omega), pm_bd, M_isLetter (s := s) (T := T) (n := n) (p := p) (fun _ => hTp), M_isDigit (s := s) (T := T) (n := n) (p := p) (fun _ => hTp), ha, nI_1]
    cases hLD : lx_LD T n p with
    | false =>
      rw [hLD, if_neg (by decide)] at hst
      rw [hst] at hlt ⊢
      have hw := M_wordOf (k := k) h hb ha hlt (by omega) hT (by omega)
      have e1 : lx_L T n p = false := by
        simp only [lx_LD, Bool.or_eq_false_iff] at hLD
        exact hLD.1
      have e2 : lx_D T n p = false := by
        simp only [lx_LD, Bool.or_eq_false_iff] at hLD
        exact hLD.2
      rw [e1, e2, if_pos (by decide), if_pos (by decide)]
      simp only [hw]
      exact ⟨_, rfl, by rw [hs_I_pI]; exact ha, by rw [hs_I_pI]; rfl, hs_fr_pI (by decide)⟩
    | true =>
      rw [hLD, if_pos rfl] at hst
      rw [hst] at hlt ⊢
      have hr := lx_LD_rng hLD
      obtain ⟨u, a1, a2, a3, a4⟩ := ih (p + 1) k (hs_pI s 0 5 (nI (p + 1))) (by omega) (by omega) (M_tx_fr (P := [(0, 5)]) (A := []) h (hs_fr_pI (by decide)) (by decide)) (by rw [hs_I_pI]; rfl) (by rw [hs_I_pI]; exact hb) (by omega) hlt (fun j h1 h2 => by
        by_cases c : j = p
        · rw [c]; exact hr.2
        · exact hT j h1 (by omega))
      refine ⟨u, ?_, a2, a3, (hs_fr_pI (by decide)).cons a4⟩
      rw [a1]
      simp only [lx_LD] at hLD
      cases h1 : lx_L T n p with
      | true => rw [if_neg (by simp [b_i])]
      | false =>
        rw [h1] at hLD
        rw [if_pos (by simp [b_i])]
        have h2 : lx_D T n p = true := by simpa using hLD
        rw [h2, if_neg (by simp [b_i])]
/-- the digits of a number -/
theorem M_look119 {T : Nat → Nat} {n b : Nat} : ∀ (d p k : Nat) (s : hp_S), p + d = n → d + 3 ≤ k → M_tx s T n → hs_I s 0 5 = nI p → hs_I s 0 7 = nI b → b ≤ p → ∃ u, l_M_X11_look_0_119 k s = some u ∧ hs_I u 0 5 = nI (lx_to (lx_D T n) n p) ∧ hs_I u 0 6 = nI (if 9 < lx_to (lx_D T n) n p - b then 21 else if lx_L T n (lx_to (lx_D T n) n p) = true then 21 else 2) ∧ hs_fr [(0, 5), (0, 6)] [] s u := by
  intro d
  induction d with
  | zero =>
    intro p k s hp hk h ha hb hbp
    obtain ⟨k, rfl⟩ : ∃ z, k = z + 1 := ⟨k - 1, by omega⟩
    obtain rfl : p = n := by omega
    have hn := h.2.1
    have e1 : lx_L T p p = false := by simp [lx_L]
    have e2 : lx_D T p p = false := by simp [lx_D]
    rw [l_M_X11_look_0_119.eq_2, lx_to_n]
    simp only [pm_let, M_here h ha (Nat.le_refl _), pm_bd, M_isLetter (s := s) (T := T) (n := p) (p := p) (fun q => absurd q (Nat.lt_irrefl _)), M_isDigit (s := s) (T := T) (n := p) (p := p) (fun q => absurd q (Nat.lt_irrefl _)), ha, hb, e1, e2]
    rw [if_pos (by decide), pk_sub hbp, show (9 : Int32) = nI 9 from rfl]
    by_cases c : 9 < p - b
    · rw [if_pos (nI_lt c (by omega)), if_pos c]
      exact ⟨_, rfl, by rw [hs_I_pI]; exact ha, by rw [hs_I_pI]; rfl, hs_fr_pI (by decide)⟩
    · rw [if_neg (nI_nlt (by omega) (by omega)), if_neg c, if_pos (by decide)]
      exact ⟨_, rfl, by rw [hs_I_pI]; exact ha, by rw [hs_I_pI]; rfl, hs_fr_pI (by decide)⟩
  | succ d ih =>
    intro p k s hp hk h ha hb hbp
    obtain ⟨k, rfl⟩ : ∃ z, k = z + 1 := ⟨k - 1, by omega⟩
    have hn := h.2.1
    have hTp := (h.2.2 p (by omega)).1
    have hst := lx_to_step (lx_D T n) (show p < n by omega)
    rw [l_M_X11_look_0_119.eq_2]
    simp only [pm_let, M_here h ha (by omega), pm_bd, M_isLetter (s := s) (T := T) (n := n) (p := p) (fun _ => hTp), M_isDigit (s := s) (T := T) (n := n) (p := p) (fun _ => hTp), ha, hb, nI_1]
    cases hD : lx_D T n p with
    | false =>
      rw [hD, if_neg (by decide)] at hst
      rw [hst, if_pos (by simp [b_i]), pk_sub hbp, show (9 : Int32) = nI 9 from rfl]
      by_cases c : 9 < p - b
      · rw [if_pos (nI_lt c (by omega)), if_pos c]
        exact ⟨_, rfl, by rw [hs_I_pI]; exact ha, by rw [hs_I_pI]; rfl, hs_fr_pI (by decide)⟩
      · rw [if_neg (nI_nlt (by omega) (by omega)), if_neg c]
        cases hL : lx_L T n p with
        | true =>
          rw [if_neg (by simp [b_i])]
          exact ⟨_, rfl, by rw [hs_I_pI]; exact ha, by rw [hs_I_pI]; rfl, hs_fr_pI (by decide)⟩
        | false =>
          rw [if_pos (by simp [b_i])]
          exact ⟨_, rfl, by rw [hs_I_pI]; exact ha, by rw [hs_I_pI]; rfl, hs_fr_pI (by decide)⟩
    | true =>
      rw [hD, if_pos rfl] at hst
      obtain ⟨u, a1, a2, a3, a4⟩ := ih (p + 1) k (hs_pI s 0 5 (nI (p + 1))) (by omega) (by omega) (M_tx_fr (P := [(0, 5)]) (A := []) h (hs_fr_pI (by decide)) (by decide)) (by rw [hs_I_pI]; rfl) (by rw [hs_I_pI]; exact hb) (by omega)
      rw [hst]
      refine ⟨u, ?_, a2, a3, (hs_fr_pI (by decide)).cons a4⟩
      rw [if_neg (by simp [b_i])]
      exact a1
/-- the reference stands at the place b: what it says of the token there -/
def m_at (T : Nat → Nat) (n b : Nat) : Nat := if b < n then (if lx_D T n b = true then lx_to (lx_D T n) n b else lx_end T n b) else n
def M_lk (s : hp_S) (T : Nat → Nat) (n b : Nat) : Prop := hs_I s 0 7 = nI b ∧ hs_I s 0 6 = nI (k_M (if b < n then lx_kd T n b else 0)) ∧ hs_I s 0 5 = nI (m_at T n b)
theorem lx_L_not_D {T : Nat → Nat} {n p : Nat} (h : lx_L T n p = true) : lx_D T n p = false := by
  simp only [lx_L, lx_lt, Bool.and_eq_true, decide_eq_true_eq] at h
  simp only [lx_D, lx_dg, Bool.and_eq_false_iff, decide_eq_false_iff_not]
  omega
/-- a number: by its digits alone, or by letters too -/
theorem lx_num {T : Nat → Nat} {n b : Nat} (hb : b < n) (hD : lx_D T n b = true) : k_M (lx_kd T n b) = (if 9 < lx_to (lx_D T n) n b - b then 21 else if lx_L T n (lx_to (lx_D T n) n b) = true then 21 else 2) ∧ (lx_kd T n b = 1 ∨ lx_to (lx_D T n) n b = lx_end T n b) := by
  have hL : lx_L T n b = false := by
    cases h : lx_L T n b with
    | false => rfl
    | true => rw [lx_L_not_D h] at hD; cases hD
  have hLD : lx_LD T n b = true := by simp [lx_LD, hD]
  have he : lx_end T n b = lx_to (lx_LD T n) n b := by rw [lx_to_step _ hb, hLD, if_pos rfl, lx_end, hLD, if_pos rfl]
  have hb1 := lx_to_ge (lx_LD T n) (n := n) (i := b) (by omega)
  have hb2 := lx_to_ge (lx_D T n) (n := n) (i := b) (by omega)
  unfold lx_kd
  rw [hL, if_neg (by decide), hD, if_pos rfl, he]
  generalize hE : lx_to (lx_LD T n) n b = e at *
  generalize hF : lx_to (lx_D T n) n b = f at *
  have hfe : f ≤ e := by
    rcases Nat.lt_or_ge e f with c | c
    · exfalso
      have h1 : lx_D T n e = true := lx_to_in (lx_D T n) (n := n) (i := b) (by omega) (by omega)
      have h2 : lx_LD T n e = false := by rw [← hE]; exact lx_to_end _ (by omega) (by omega)
      simp [lx_LD, h1] at h2
    · exact c
  have hbe : b < e := by
    rcases Nat.lt_or_ge b e with c | c
    · exact c
    · have c2 : e = b := by omega
      have h2 : lx_LD T n e = false := by rw [← hE]; exact lx_to_end _ (by omega) (by omega)
      rw [c2, hLD] at h2
      cases h2
  by_cases hf : f = e
  · have hnl : lx_hl T n e b = false := by
      simp only [lx_hl, decide_eq_false_iff_not]
      intro hlt
      have h3 := lx_to_end (fun j => !lx_L T n j) (n := e) (i := b) (by omega) hlt
      have h4 := lx_to_ge (fun j => !lx_L T n j) (n := e) (i := b) (by omega)
      have h5 : lx_D T n (lx_to (fun j => !lx_L T n j) e b) = true := lx_to_in (lx_D T n) (n := n) (i := b) (by omega) (by omega)
      have h6 : lx_L T n (lx_to (fun j => !lx_L T n j) e b) = true := by simpa using h3
      rw [lx_L_not_D h6] at h5
      cases h5
    have hLe : lx_L T n e = false := by
      rcases Nat.lt_or_ge e n with c | c
      · have h2 : lx_LD T n e = false := by rw [← hE]; exact lx_to_end _ (by omega) (by omega)
        simp only [lx_LD, Bool.or_eq_false_iff] at h2
        exact h2.1
      · simp [lx_L]; intro; omega
    rw [hf, hnl, hLe]
    refine ⟨?_, Or.inr rfl⟩
    by_cases c : 9 < e - b
    · simp [c, k_M]
    · simp [c, k_M]
  · have hlt : f < e := by omega
    have h1 : lx_LD T n f = true := lx_to_in (lx_LD T n) (n := n) (i := b) (by omega) (by omega)
    have h2 : lx_D T n f = false := by rw [← hF]; exact lx_to_end _ (by omega) (by omega)
    have h3 : lx_L T n f = true := by simpa [lx_LD, h2] using h1
    have hhl : lx_hl T n e b = true := by
      simp only [lx_hl, decide_eq_true_eq]
      rcases Nat.lt_or_ge (lx_to (fun j => !lx_L T n j) e b) e with c | c
      · exact c
      · exfalso
        have h4 := lx_to_in (fun j => !lx_L T n j) (n := e) (i := b) (j := f) (by omega) (by omega)
        simp [h3] at h4
    rw [hhl, h3]
    by_cases c : 9 < e - b
    · simp [c, k_M]
    · simp [c, k_M]
