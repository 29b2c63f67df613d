/-! WRITING: bytes and words -/
def tx_L (i : Nat) : List Nat := if i = 1 then [40] else if i = 2 then [] else if i = 3 then [41, 32, 45, 62, 32] else if i = 4 then [32, 45, 62, 32] else if i = 5 then [44, 32] else if i = 6 then [41] else if i = 7 then [105, 110, 116] else if i = 8 then [98, 111, 111, 108] else if i = 9 then [46, 46, 32] else if i = 10 then [32, 46, 46, 32] else if i = 11 then [32] else if i = 12 then [32, 46, 46] else []
theorem tx_l1 : ∀ i, i < 13 → 1 ≤ i → Int32.ofNat (pm_lenS.getD i 0) >>> ((0 : Int32) &&& 31) = nI (tx_L i).length := by decide +kernel
theorem tx_len : ∀ i, i < 13 → 1 ≤ i → ∀ s, f_C_J0_length_8abf5 i s = some (nI (tx_L i).length, s) := by
  intro i h1 h2 s
  unfold f_C_J0_length_8abf5 f_C_J0_coder_7d493
  have hd : decide (i < 13) = true := by simpa using h1
  rw [gd_t hd, gd_t hd, gd_t hd]
  simp only [pm_bd]
  rw [gd_t hd, tx_l1 i h1 h2]
theorem tx_chr : ∀ i, i < 13 → 1 ≤ i → ∀ s j, j < (tx_L i).length → f_C_J0_charAt_5068e i (nI j) s = some (nI ((tx_L i).getD j 0), s) := by
  intro i h1 h2 s j hj
  have hl : (tx_L i).length ≤ 5 := by
    rcases (show i = 1 ∨ i = 2 ∨ i = 3 ∨ i = 4 ∨ i = 5 ∨ i = 6 ∨ i = 7 ∨ i = 8 ∨ i = 9 ∨ i = 10 ∨ i = 11 ∨ i = 12 by omega) with rfl | rfl | rfl | rfl | rfl | rfl | rfl | rfl | rfl | rfl | rfl | rfl <;> decide
  rcases (show j = 0 ∨ j = 1 ∨ j = 2 ∨ j = 3 ∨ j = 4 by omega) with rfl | rfl | rfl | rfl | rfl <;> rcases (show i = 1 ∨ i = 2 ∨ i = 3 ∨ i = 4 ∨ i = 5 ∨ i = 6 ∨ i = 7 ∨ i = 8 ∨ i = 9 ∨ i = 10 ∨ i = 11 ∨ i = 12 by omega) with rfl | rfl | rfl | rfl | rfl | rfl | rfl | rfl | rfl | rfl | rfl | rfl <;> first | rfl | exact absurd hj (by decide)
/-- what has been written -/
def OU (s m : hp_S) (w : Nat) : Prop := w ≤ 4000 ∧ hs_I s 39 1 = nI w ∧ hs_I s 39 2 = nI 0 ∧ hs_I m 0 46 = nI w ∧ ∀ j, j < w → hs_A s 40 j = hs_A m 32 j ∧ (hs_A m 32 j).toInt8.toInt32 = hs_A m 32 j
theorem t8_i (x : Int32) : (x.toInt8.toInt32).toInt8.toInt32 = x.toInt8.toInt32 := by
  congr 1
  apply Int8.toBitVec_inj.mp
  simp
def oP : List (Nat × Nat) := [(39, 1)]
def oA : List Nat := [40]
def pP : List (Nat × Nat) := [(0, 46)]
def pA' : List Nat := [32]
theorem OU_add {s m : hp_S} {w : Nat} {c c' : Int32} (h : OU s m w) (hc : c.toInt8 = c'.toInt8) : ∃ s' m' w', f_C_X3_add_39 c s = some s' ∧ f_M_X11_write_0 c' m = some m' ∧ OU s' m' w' ∧ hs_fr oP oA s s' ∧ hs_fr pP pA' m m' ∧ (w' = w + 1 ∨ (w' = w ∧ w = 4000)) := by
  obtain ⟨h1, h2, h3, h4, h5⟩ := h
  by_cases c4 : w < 4000
  · refine ⟨hs_pI (hs_pA s 40 w (c.toInt8.toInt32)) 39 1 (nI (w + 1)), hs_pI (hs_pA m 32 w (c'.toInt8.toInt32)) 0 46 (nI (w + 1)), w + 1, ?_, ?_, ⟨by omega, by simp only [hs_I_pI, hs_I_pA, hs_A_pI, hs_A_pA, and_true, true_and, and_false, false_and, and_self, eq_self, Nat.reduceEqDiff, ↓reduceIte], by simp only [hs_I_pI, hs_I_pA, hs_A_pI, hs_A_pA, and_true, true_and, and_false, false_and, and_self, eq_self, Nat.reduceEqDiff, ↓reduceIte]; exact h3, by simp only [hs_I_pI, hs_I_pA, hs_A_pI, hs_A_pA, and_true, true_and, and_false, false_and, and_self, eq_self, Nat.reduceEqDiff, ↓reduceIte], fun j hj => ?_⟩, (hs_fr_pA (by decide)).cons (hs_fr_pI (by decide)), (hs_fr_pA (by decide)).cons (hs_fr_pI (by decide)), Or.inl rfl⟩
    · unfold f_C_X3_add_39 f_C_X3_isFull_39
      simp (disch := omega) only [↓reduceIte, z_lit, z_m1, z_gd, z_le, z_lt, z_eq, z_em, z_me, z_ml, z_mle, z_lm, z_lem, z_pos, z_sub, nI_add, nI_clamp, ib_nI, pm_let, pm_bd, pm_b1, if_true, if_false, ite_true, ite_false, Nat.not_lt_zero, Nat.zero_le, hs_I_pI, hs_I_pA, hs_A_pI, hs_A_pA, and_true, true_and, and_false, false_and, and_self, eq_self, Nat.reduceEqDiff, ↓reduceIte, h2, c4, nb_nar, t8_i]
    · have c5 : ¬ 4000 ≤ w := by omega
      unfold f_M_X11_write_0
      simp (disch := omega) only [↓reduceIte, z_lit, z_m1, z_gd, z_le, z_lt, z_eq, z_em, z_me, z_ml, z_mle, z_lm, z_lem, z_pos, z_sub, nI_add, nI_clamp, ib_nI, pm_let, pm_bd, pm_b1, if_true, if_false, ite_true, ite_false, Nat.not_lt_zero, Nat.zero_le, hs_I_pI, hs_I_pA, hs_A_pI, hs_A_pA, and_true, true_and, and_false, false_and, and_self, eq_self, Nat.reduceEqDiff, ↓reduceIte, h4, c5, nb_nar, t8_i]
    · by_cases e : j = w
      · subst e
        simp only [hs_I_pI, hs_I_pA, hs_A_pI, hs_A_pA, and_true, true_and, and_false, false_and, and_self, eq_self, Nat.reduceEqDiff, ↓reduceIte]
        rw [hc]
        exact ⟨rfl, t8_i c'⟩
      · simp only [hs_I_pI, hs_I_pA, hs_A_pI, hs_A_pA, and_true, true_and, and_false, false_and, and_self, eq_self, Nat.reduceEqDiff, ↓reduceIte, e]
        exact h5 j (by omega)
  · have e4 : w = 4000 := by omega
    refine ⟨s, m, w, ?_, ?_, ⟨h1, h2, h3, h4, h5⟩, hs_fr.rf, hs_fr.rf, Or.inr ⟨rfl, e4⟩⟩
    · unfold f_C_X3_add_39 f_C_X3_isFull_39
      simp (disch := omega) only [↓reduceIte, z_lit, z_m1, z_gd, z_le, z_lt, z_eq, z_em, z_me, z_ml, z_mle, z_lm, z_lem, z_pos, z_sub, nI_add, nI_clamp, ib_nI, pm_let, pm_bd, pm_b1, if_true, if_false, ite_true, ite_false, Nat.not_lt_zero, Nat.zero_le, h2, c4]
      simp
    · have c5 : 4000 ≤ w := by omega
      unfold f_M_X11_write_0
      simp (disch := omega) only [↓reduceIte, z_lit, z_m1, z_gd, z_le, z_lt, z_eq, z_em, z_me, z_ml, z_mle, z_lm, z_lem, z_pos, z_sub, nI_add, nI_clamp, ib_nI, pm_let, pm_bd, pm_b1, if_true, if_false, ite_true, ite_false, Nat.not_lt_zero, Nat.zero_le, h4, c5]
def cFd : List Nat → hp_S → Option hp_S
  | [], s => some s
  | c :: L, s => pm_b1 (f_C_X3_add_39 (nI c) s) (cFd L)
def mFd : List Nat → hp_S → Option hp_S
  | [], s => some s
  | c :: L, s => pm_b1 (f_M_X11_write_0 (nI c) s) (mFd L)
theorem OU_fd : ∀ (L : List Nat) (s m : hp_S) (w : Nat), OU s m w → ∃ s' m' w', cFd L s = some s' ∧ mFd L m = some m' ∧ OU s' m' w' ∧ hs_fr oP oA s s' ∧ hs_fr pP pA' m m' ∧ (w' = w + L.length ∨ (w' = 4000 ∧ 4000 ≤ w + L.length))
  | [], s, m, w, h => ⟨s, m, w, rfl, rfl, h, hs_fr.rf, hs_fr.rf, Or.inl rfl⟩
  | c :: L, s, m, w, h => by
    obtain ⟨s1, m1, w1, a1, a2, a3, a4, a5, a6⟩ := OU_add h (c := nI c) (c' := nI c) rfl
    obtain ⟨s2, m2, w2, b1, b2, b3, b4, b5, b6⟩ := OU_fd L s1 m1 w1 a3
    refine ⟨s2, m2, w2, ?_, ?_, b3, a4.cons b4, a5.cons b5, ?_⟩
    · simp only [cFd, a1, pm_b1, b1]
    · simp only [mFd, a2, pm_b1, b2]
    · have q1 := a3.1
      have q2 := b3.1
      have q3 := h.1
      simp only [List.length_cons]
      omega
theorem C_textL {i : Nat} (h1 : i < 13) (h2 : 1 ≤ i) : ∀ (L : List Nat) (j G : Nat) (s : hp_S), (tx_L i).drop j = L → j + L.length = (tx_L i).length → L.length + 1 ≤ G → l_C_X3_addText_39_str_2 i G (nI j) s = cFd L s := by
  have hd : decide (i < 13) = true := by simpa using h1
  have hl : (tx_L i).length ≤ 5 := by
    rcases (show i = 1 ∨ i = 2 ∨ i = 3 ∨ i = 4 ∨ i = 5 ∨ i = 6 ∨ i = 7 ∨ i = 8 ∨ i = 9 ∨ i = 10 ∨ i = 11 ∨ i = 12 by omega) with rfl | rfl | rfl | rfl | rfl | rfl | rfl | rfl | rfl | rfl | rfl | rfl <;> decide
  intro L
  induction L with
  | nil =>
    intro j G s e hj hG
    obtain ⟨G, rfl⟩ : ∃ z, G = z + 1 := ⟨G - 1, by omega⟩
    simp only [List.length_nil, Nat.add_zero] at hj
    rw [l_C_X3_addText_39_str_2.eq_2, tx_len i h1 h2]
    simp only [pm_bd, hd, z_gd, hj]
    rw [if_pos (Int32.le_refl _)]
    rfl
  | cons c L ih =>
    intro j G s e hj hG
    obtain ⟨G, rfl⟩ : ∃ z, G = z + 1 := ⟨G - 1, by omega⟩
    simp only [List.length_cons] at hj hG
    have c1 : ¬ (tx_L i).length ≤ j := by omega
    have g : (tx_L i).getD j 0 = c := by
      have : (tx_L i)[j]? = some c := by
        rw [← List.head?_drop, e]
        rfl
      rw [List.getD_eq_getElem?_getD, this]
      rfl
    have e' : (tx_L i).drop (j + 1) = L := by
      rw [← List.tail_drop, e]
      rfl
    have ih' := fun s => ih (j + 1) G s e' (by omega) (by omega)
    have ch := tx_chr i h1 h2 s j (by omega)
    rw [g] at ch
    rw [l_C_X3_addText_39_str_2.eq_2, tx_len i h1 h2]
    simp only [pm_bd, hd, z_gd]
    rw [if_neg (show ¬ (nI (tx_L i).length ≤ nI j) by rw [z_le (by omega) (by omega)]; exact c1)]
    simp only [ch, pm_let, cFd]
    have ej : nI j + 1 = nI (j + 1) := by simp (disch := omega) only [↓reduceIte, z_lit, z_m1, z_gd, z_le, z_lt, z_eq, z_em, z_me, z_ml, z_mle, z_lm, z_lem, z_pos, z_sub, nI_add, nI_clamp, ib_nI, pm_let, pm_bd, pm_b1, if_true, if_false, ite_true, ite_false, Nat.not_lt_zero, Nat.zero_le]
    cases f_C_X3_add_39 (nI c) s with
    | none => rfl
    | some s1 => simp only [pm_b1, ej]; exact ih' s1
theorem C_text {i : Nat} (h1 : i < 13) (h2 : 1 ≤ i) {G : Nat} (hG : 10 ≤ G) (s : hp_S) : f_C_X3_addText_39_str G i s = cFd (tx_L i) s := by
  have hl : (tx_L i).length ≤ 5 := by
    rcases (show i = 1 ∨ i = 2 ∨ i = 3 ∨ i = 4 ∨ i = 5 ∨ i = 6 ∨ i = 7 ∨ i = 8 ∨ i = 9 ∨ i = 10 ∨ i = 11 ∨ i = 12 by omega) with rfl | rfl | rfl | rfl | rfl | rfl | rfl | rfl | rfl | rfl | rfl | rfl <;> decide
  unfold f_C_X3_addText_39_str
  exact C_textL h1 h2 (tx_L i) 0 G s rfl (by omega) (by omega)
/-- the bytes of a word -/
def wdB (w : Int64) (k : Nat) : Int32 := ((w >>> (((8 : Int32) * nI k).toInt64 &&& 63)) &&& (255 : Int64)).toInt32
def wdF (w : Int64) : Nat → List Nat
  | 0 => if wdB w 0 ≤ 0 then [] else [(wdB w 0).toNatClampNeg]
  | k + 1 => if wdB w (k + 1) ≤ 0 then wdF w k else (wdB w (k + 1)).toNatClampNeg :: wdF w k
theorem wdB_n {w : Int64} {k : Nat} (h : ¬ wdB w k ≤ 0) : nI (wdB w k).toNatClampNeg = wdB w k := by
  have h2 : ¬ wdB w k < 0 := fun q => h (Int32.le_of_lt q)
  obtain ⟨j, hj, e⟩ := nI_of h2
  rw [e, nI_clamp hj]
theorem M_wordL (w : Int64) : ∀ (k G : Nat) (m : hp_S), k < 8 → k + 2 ≤ G → l_M_X11_writeWord_0_3 G w (nI k) m = mFd (wdF w k) m := by
  intro k
  induction k with
  | zero =>
    intro G m hk hG
    obtain ⟨G, rfl⟩ : ∃ z, G = z + 2 := ⟨G - 2, by omega⟩
    have last : ∀ m, l_M_X11_writeWord_0_3 (G + 1) w (nI 0 + (-1 : Int32)) m = some m := by
      intro m
      rw [l_M_X11_writeWord_0_3.eq_2, if_pos (by decide)]
    rw [l_M_X11_writeWord_0_3.eq_2, if_neg (by decide)]
    simp only [pm_let]
    change (if wdB w 0 ≤ 0 then _ else pm_b1 (f_M_X11_write_0 (wdB w 0) m) _) = _
    simp only [wdF]
    by_cases c : wdB w 0 ≤ 0
    · rw [if_pos c, if_pos c]; exact last m
    · rw [if_neg c, if_neg c]
      simp only [mFd, wdB_n c]
      cases f_M_X11_write_0 (wdB w 0) m with
      | none => rfl
      | some m1 => simp only [pm_b1]; exact last m1
  | succ k ih =>
    intro G m hk hG
    obtain ⟨G, rfl⟩ : ∃ z, G = z + 1 := ⟨G - 1, by omega⟩
    have nx : nI (k + 1) + (-1 : Int32) = nI k := by
      rw [show nI (k + 1) + (-1 : Int32) = nI (k + 1) - nI 1 by rw [Int32.sub_eq_add_neg]; rfl, z_sub (by omega) (by omega)]
      rfl
    have ih' := fun m => ih G m (by omega) (by omega)
    rw [l_M_X11_writeWord_0_3.eq_2, if_neg (by rw [show (0 : Int32) = nI 0 from rfl, z_lt (by omega) (by omega)]; omega)]
    simp only [pm_let, nx]
    change (if wdB w (k + 1) ≤ 0 then _ else pm_b1 (f_M_X11_write_0 (wdB w (k + 1)) m) _) = _
    simp only [wdF]
    by_cases c : wdB w (k + 1) ≤ 0
    · rw [if_pos c, if_pos c]; exact ih' m
    · rw [if_neg c, if_neg c]
      simp only [mFd, wdB_n c]
      cases f_M_X11_write_0 (wdB w (k + 1)) m with
      | none => rfl
      | some m1 => simp only [pm_b1]; exact ih' m1
theorem M_word (w : Int64) {G : Nat} (hG : 10 ≤ G) (m : hp_S) : f_M_X11_writeWord_0 G w m = mFd (wdF w 7) m := by
  unfold f_M_X11_writeWord_0
  exact M_wordL w 7 G m (by omega) (by omega)
theorem wd_all : wdF 2108974 7 = tx_L 12 ∧ wdF 3026464 7 = tx_L 9 ∧ wdF 539897376 7 = tx_L 10 ∧ wdF 6909556 7 = tx_L 7 ∧ wdF 1651470188 7 = tx_L 8 ∧ wdF 539835936 7 = tx_L 4 ∧ wdF 176633495072 7 = tx_L 3 ∧ wdF 11296 7 = tx_L 5 ∧ wdF 41 7 = tx_L 6 := by decide +kernel
/-- a text of the class and its word -/
theorem J_text {s m : hp_S} {w i G G' : Nat} {x : Int64} (h : OU s m w) (h1 : i < 13) (h2 : 1 ≤ i) (hx : wdF x 7 = tx_L i) (hG : 10 ≤ G) (hG' : 10 ≤ G') : ∃ s' m' w', f_C_X3_addText_39_str G i s = some s' ∧ f_M_X11_writeWord_0 G' x m = some m' ∧ OU s' m' w' ∧ hs_fr oP oA s s' ∧ hs_fr pP pA' m m' ∧ (w' = w + (tx_L i).length ∨ (w' = 4000 ∧ 4000 ≤ w + (tx_L i).length)) := by
  obtain ⟨s', m', w', a1, a2, a3⟩ := OU_fd (tx_L i) s m w h
  exact ⟨s', m', w', by rw [C_text h1 h2 hG]; exact a1, by rw [M_word x hG', hx]; exact a2, a3⟩
