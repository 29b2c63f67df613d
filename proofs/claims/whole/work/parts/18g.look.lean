theorem lx_name {T : Nat → Nat} {n b : Nat} (hb : b < n) (hL : lx_L T n b = true) : lx_end T n b = lx_to (lx_LD T n) n b ∧ k_M (lx_kd T n b) = (if lx_to (lx_LD T n) n b - b ≤ 10 then k_M (lx_wf (lx_is T b (lx_to (lx_LD T n) n b)) 11 0) else 21) ∧ b < lx_to (lx_LD T n) n b := by
  have hLD : lx_LD T n b = true := by simp [lx_LD, hL]
  have he : lx_end T n b = lx_to (lx_LD T n) n b := by rw [lx_to_step _ hb, hLD, if_pos rfl, lx_end, hLD, if_pos rfl]
  refine ⟨he, ?_, by rw [← he]; exact (lx_end_le hb).1⟩
  unfold lx_kd
  rw [hL, if_pos rfl, he]
  split
  · rfl
  · rfl
/-- a sign -/
theorem M_sign {T : Nat → Nat} {n b : Nat} {s : hp_S} (hb : b < n) (hn : n ≤ 500) (hLD : lx_LD T n b = false) (h : M_tx s T n) (ha : hs_I s 0 5 = nI b) (hg : hs_I s 0 7 = nI b) (j275 : Int32 → hp_S → Option hp_S)
    (hj : ∀ z t, j275 z t = (if hs_I (hs_pI t 0 6 z) 0 6 = 14 then some (hs_pI (hs_pI t 0 6 z) 0 5 (hs_I (hs_pI t 0 6 z) 0 5 + 1)) else some (hs_pI (hs_pI t 0 6 z) 0 5 (hs_I (hs_pI t 0 6 z) 0 5)))) :
    ∃ u, (if nI (T b) = 61 then (if (if b + 1 < n then nI (T (b + 1)) else -1) = 62 then j275 14 (hs_pI s 0 5 (nI (b + 1))) else j275 15 (hs_pI s 0 5 (nI (b + 1)))) else if nI (T b) = 40 then j275 16 (hs_pI s 0 5 (nI (b + 1))) else if nI (T b) = 41 then j275 17 (hs_pI s 0 5 (nI (b + 1))) else if nI (T b) = 44 then j275 18 (hs_pI s 0 5 (nI (b + 1))) else if nI (T b) = 43 then j275 19 (hs_pI s 0 5 (nI (b + 1))) else if nI (T b) = 60 then j275 20 (hs_pI s 0 5 (nI (b + 1))) else j275 21 (hs_pI s 0 5 (nI (b + 1)))) = some u ∧ M_lk u T n b ∧ hs_fr [(0, 5), (0, 6), (0, 7)] [] s u := by
  have hTb := (h.2.2 b hb).1
  have hL : lx_L T n b = false := by simp only [lx_LD, Bool.or_eq_false_iff] at hLD; exact hLD.1
  have hD : lx_D T n b = false := by simp only [lx_LD, Bool.or_eq_false_iff] at hLD; exact hLD.2
  have hend : ∀ (z : Nat) (q : Nat), z < 256 → z ≠ 14 → q < 256 → lx_kd T n b = q → k_M q = z → lx_end T n b = b + 1 → ∃ u, j275 (nI z) (hs_pI s 0 5 (nI (b + 1))) = some u ∧ M_lk u T n b ∧ hs_fr [(0, 5), (0, 6), (0, 7)] [] s u := by
    intro z q hz hz14 hq h1 h2 h3
    have e : hs_I (hs_pI (hs_pI s 0 5 (nI (b + 1))) 0 6 (nI z)) 0 6 = nI z := by rw [hs_I_pI]; rfl
    rw [hj, e, if_neg (by rw [show (14 : Int32) = nI 14 from rfl, nI_eq (by omega) (by omega)]; exact hz14)]
    refine ⟨_, rfl, ⟨?_, ?_, ?_⟩, ((hs_fr_pI (by decide)).cons (hs_fr_pI (by decide))).cons (hs_fr_pI (by decide))⟩
    · simp only [hs_I_pI]; simpa using hg
    · simp only [hs_I_pI, hb, if_true, h1, h2]; simp
    · simp only [hs_I_pI, m_at, hb, if_true, hD, h3]; simp
  have hkd : lx_kd T n b = if lx_end T n b - b = 2 then 15 else lx_sg (T b) := by
    unfold lx_kd
    rw [hL, if_neg (by decide), hD, if_neg (by decide)]
  have he : lx_end T n b = if T b = 61 ∧ b + 1 < n ∧ T (b + 1) = 62 then b + 2 else b + 1 := by
    unfold lx_end
    rw [hLD, if_neg (by decide)]
  rw [show (61 : Int32) = nI 61 from rfl, show (40 : Int32) = nI 40 from rfl, show (41 : Int32) = nI 41 from rfl, show (44 : Int32) = nI 44 from rfl, show (43 : Int32) = nI 43 from rfl, show (60 : Int32) = nI 60 from rfl]
  have eq : ∀ k, k < 256 → (nI (T b) = nI k ↔ T b = k) := fun k hk => nI_eq (by omega) (by omega)
  simp only [eq 61 (by decide), eq 40 (by decide), eq 41 (by decide), eq 44 (by decide), eq 43 (by decide), eq 60 (by decide)]
  by_cases c : T b = 61
  · rw [if_pos c]
    by_cases c2 : b + 1 < n ∧ T (b + 1) = 62
    · have he2 : lx_end T n b = b + 2 := by rw [he, if_pos ⟨c, c2⟩]
      have e : hs_I (hs_pI (hs_pI s 0 5 (nI (b + 1))) 0 6 14) 0 6 = 14 := by rw [hs_I_pI]; rfl
      rw [if_pos c2.1, c2.2, if_pos (show nI 62 = 62 from rfl), hj, e, if_pos rfl]
      have h15 : lx_kd T n b = 15 := by rw [hkd, he2, if_pos (by omega)]
      refine ⟨_, rfl, ⟨?_, ?_, ?_⟩, ((hs_fr_pI (by decide)).cons (hs_fr_pI (by decide))).cons (hs_fr_pI (by decide))⟩
      · simp only [hs_I_pI]; simpa using hg
      · simp only [hs_I_pI, hb, if_true, h15]; simp [k_M]; rfl
      · simp only [hs_I_pI, m_at, hb, if_true, hD, he2]; simp [nI_1]
    · have he1 : lx_end T n b = b + 1 := by rw [he, if_neg (fun q => c2 q.2)]
      have h16 : lx_kd T n b = 16 := by rw [hkd, he1, if_neg (by omega), c]; rfl
      have hn2 : ¬ (if b + 1 < n then nI (T (b + 1)) else -1) = 62 := by
        by_cases c3 : b + 1 < n
        · have hT2 := (h.2.2 (b + 1) c3).1
          rw [if_pos c3, show (62 : Int32) = nI 62 from rfl, nI_eq (by omega) (by omega)]
          exact fun q => c2 ⟨c3, q⟩
        · rw [if_neg c3]; decide
      rw [if_neg hn2]
      exact hend 15 16 (by decide) (by decide) (by decide) h16 rfl he1
  · rw [if_neg c]
    have he1 : lx_end T n b = b + 1 := by rw [he, if_neg (fun q => c q.1)]
    have hsg : lx_kd T n b = lx_sg (T b) := by rw [hkd, he1, if_neg (by omega)]
    by_cases c1 : T b = 40
    · rw [if_pos c1]; exact hend 16 17 (by decide) (by decide) (by decide) (by rw [hsg, c1]; rfl) rfl he1
    rw [if_neg c1]
    by_cases c2 : T b = 41
    · rw [if_pos c2]; exact hend 17 18 (by decide) (by decide) (by decide) (by rw [hsg, c2]; rfl) rfl he1
    rw [if_neg c2]
    by_cases c3 : T b = 44
    · rw [if_pos c3]; exact hend 18 19 (by decide) (by decide) (by decide) (by rw [hsg, c3]; rfl) rfl he1
    rw [if_neg c3]
    by_cases c4 : T b = 43
    · rw [if_pos c4]; exact hend 19 20 (by decide) (by decide) (by decide) (by rw [hsg, c4]; rfl) rfl he1
    rw [if_neg c4]
    by_cases c5 : T b = 60
    · rw [if_pos c5]; exact hend 20 21 (by decide) (by decide) (by decide) (by rw [hsg, c5]; rfl) rfl he1
    rw [if_neg c5]
    exact hend 21 1 (by decide) (by decide) (by decide) (by rw [hsg]; simp [lx_sg, c, c1, c2, c3, c4, c5]) rfl he1
theorem look_eq (k : Nat) (s : hp_S) : f_M_X11_look_0 k s = l_M_X11_look_0_0 (k + 1) s := by
  rw [l_M_X11_look_0_0.eq_2]
  rfl
theorem M_lookLoop {T : Nat → Nat} {n : Nat} : ∀ (d p k : Nat) (s : hp_S), p + d = n → n + d + 20 ≤ k → M_tx s T n → hs_I s 0 5 = nI p → ∃ u, l_M_X11_look_0_0 k s = some u ∧ M_lk u T n (lx_to (lx_B T n) n p) ∧ hs_fr [(0, 5), (0, 6), (0, 7)] [] s u := by
  intro d
  induction d with
  | zero =>
    intro p k s hp hk h ha
    obtain ⟨k, rfl⟩ : ∃ z, k = z + 1 := ⟨k - 1, by omega⟩
    obtain rfl : p = n := by omega
    rw [l_M_X11_look_0_0.eq_2, lx_to_n]
    have h2 : M_tx (hs_pI s 0 7 (nI p)) T p := M_tx_fr (P := [(0, 7)]) (A := []) h (hs_fr_pI (by decide)) (by decide)
    have ha2 : hs_I (hs_pI s 0 7 (nI p)) 0 5 = nI p := by rw [hs_I_pI]; exact ha
    simp only [pm_let, M_here h ha (Nat.le_refl _), pm_bd, ha, M_here h2 ha2 (Nat.le_refl _), Nat.lt_irrefl, if_false]
    rw [if_neg (by decide), if_neg (by decide), if_neg (by decide)]
    refine ⟨_, rfl, ⟨?_, ?_, ?_⟩, (hs_fr_pI (by decide)).cons (hs_fr_pI (by decide))⟩
    · simp only [hs_I_pI]; simp
    · simp only [hs_I_pI, Nat.lt_irrefl, if_false]; simp [k_M]; rfl
    · simp only [hs_I_pI, m_at, Nat.lt_irrefl, if_false]; simpa using ha
  | succ d ih =>
    intro p k s hp hk h ha
    obtain ⟨k, rfl⟩ : ∃ z, k = z + 1 := ⟨k - 1, by omega⟩
    have hn := h.2.1
    have hpn : p < n := by omega
    have hTp := (h.2.2 p hpn).1
    have hst := lx_to_step (lx_B T n) hpn
    rw [l_M_X11_look_0_0.eq_2]
    have h2 : M_tx (hs_pI s 0 7 (nI p)) T n := M_tx_fr (P := [(0, 7)]) (A := []) h (hs_fr_pI (by decide)) (by decide)
    have ha2 : hs_I (hs_pI s 0 7 (nI p)) 0 5 = nI p := by rw [hs_I_pI]; exact ha
    have hb2 : hs_I (hs_pI s 0 7 (nI p)) 0 7 = nI p := by rw [hs_I_pI]; rfl
    simp only [pm_let, M_here h ha (by omega), pm_bd, ha, M_here h2 ha2 (by omega), nI_1]
    cases hB : lx_B T n p with
    | true =>
      rw [hB, if_pos rfl] at hst
      obtain ⟨u, a1, a2, a3⟩ := ih (p + 1) k (hs_pI s 0 5 (nI (p + 1))) (by omega) (by omega) (M_tx_fr (P := [(0, 5)]) (A := []) h (hs_fr_pI (by decide)) (by decide)) (by rw [hs_I_pI]; rfl)
      rw [hst]
      refine ⟨u, ?_, a2, (hs_fr_pI (by decide)).cons a3⟩
      rw [if_pos hpn, a1]
      simp only [lx_B, lx_bl, hpn, decide_true, Bool.true_and, Bool.or_eq_true, decide_eq_true_eq] at hB
      rcases hB with q | q
      · rw [q, if_neg (by decide), if_pos (show nI 10 = 10 from rfl)]
      · rw [q, if_pos (show nI 32 = 32 from rfl)]
    | false =>
      rw [hB, if_neg (by decide)] at hst
      rw [hst, if_pos hpn]
      simp only [lx_B, lx_bl, hpn, decide_true, Bool.true_and, Bool.or_eq_false_iff, decide_eq_false_iff_not] at hB
      rw [if_neg (by rw [show (32 : Int32) = nI 32 from rfl, nI_eq (by omega) (by omega)]; exact hB.2), if_neg (by rw [show (10 : Int32) = nI 10 from rfl, nI_eq (by omega) (by omega)]; exact hB.1), if_pos (nI_pos' (by omega))]
      have mL := M_isLetter (s := hs_pI s 0 7 (nI p)) (T := T) (n := n) (p := p) (fun _ => hTp)
      have mD := M_isDigit (s := hs_pI s 0 7 (nI p)) (T := T) (n := n) (p := p) (fun _ => hTp)
      rw [if_pos hpn] at mL mD
      simp only [mL, mD, ha2, nI_1]
      cases hL : lx_L T n p with
      | true =>
        rw [if_neg (by simp [b_i])]
        obtain ⟨e1, e2, e3⟩ := lx_name hpn hL
        obtain ⟨u, a1, a2, a3, a4⟩ := M_look66 (b := p) d.succ p k (hs_pI s 0 7 (nI p)) (by omega) (by omega) h2 ha2 hb2 (Nat.le_refl _) e3 (fun j q1 q2 => by omega)
        refine ⟨u, a1, ⟨by rw [a4.1 _ _ (by decide)]; exact hb2, by rw [a3, if_pos hpn, e2], by rw [a2, m_at, if_pos hpn, lx_L_not_D hL, if_neg (by decide), e1]⟩, ?_⟩
        exact (hs_fr_pI (by decide)).tr a4 (fun a q => q.elim id (fun q => (by decide : ∀ a ∈ [((0 : Nat), (5 : Nat)), (0, 6)], a ∈ [((0 : Nat), (5 : Nat)), (0, 6), (0, 7)]) a q)) (fun a q => q.elim (fun q => q) (fun q => q))
      | false =>
        rw [if_pos (by simp [b_i])]
        cases hD : lx_D T n p with
        | true =>
          rw [if_neg (by simp [b_i])]
          obtain ⟨e1, e2⟩ := lx_num hpn hD
          obtain ⟨u, a1, a2, a3, a4⟩ := M_look119 (b := p) d.succ p k (hs_pI s 0 7 (nI p)) (by omega) (by omega) h2 ha2 hb2 (Nat.le_refl _)
          refine ⟨u, a1, ⟨by rw [a4.1 _ _ (by decide)]; exact hb2, by rw [a3, if_pos hpn, e1], ?_⟩, ?_⟩
          · rw [a2, m_at, if_pos hpn, hD, if_pos rfl]
          · exact (hs_fr_pI (by decide)).tr a4 (fun a q => q.elim id (fun q => (by decide : ∀ a ∈ [((0 : Nat), (5 : Nat)), (0, 6)], a ∈ [((0 : Nat), (5 : Nat)), (0, 6), (0, 7)]) a q)) (fun a q => q.elim (fun q => q) (fun q => q))
        | false =>
          rw [if_pos (by simp [b_i])]
          have hLD : lx_LD T n p = false := by simp [lx_LD, hL, hD]
          have h3 : M_tx (hs_pI (hs_pI s 0 7 (nI p)) 0 5 (nI (p + 1))) T n := M_tx_fr (P := [(0, 5)]) (A := []) h2 (hs_fr_pI (by decide)) (by decide)
          have ha3 : hs_I (hs_pI (hs_pI s 0 7 (nI p)) 0 5 (nI (p + 1))) 0 5 = nI (p + 1) := by rw [hs_I_pI]; rfl
          simp only [M_here h3 ha3 (by omega)]
          obtain ⟨u, a1, a2, a3⟩ := M_sign hpn hn hLD h2 ha2 hb2 _ (fun z t => rfl)
          exact ⟨u, a1, a2, (hs_fr_pI (by decide)).cons a3⟩
/-- look: from the place behind a token to the next one -/
theorem M_look {T : Nat → Nat} {n p k : Nat} {s : hp_S} (h : M_tx s T n) (ha : hs_I s 0 5 = nI p) (hp : p ≤ n) (hk : 2 * n + 20 ≤ k) : ∃ u, f_M_X11_look_0 k s = some u ∧ M_lk u T n (lx_to (lx_B T n) n p) ∧ hs_fr [(0, 5), (0, 6), (0, 7)] [] s u := by
  rw [look_eq]
  exact M_lookLoop (n - p) p (k + 1) s (by omega) (by omega) h ha
