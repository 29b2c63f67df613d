/-! WRITING A TYPE: the two machines' steps -/
theorem C_pop {s : hp_S} {d x g : Nat} (h3 : hs_I s 41 3 = nI (d + 1)) (hd : d < 10002) (h36 : hs_A s 36 d = nI (x * 3 + g)) : f_C_X8_pop_41 s = some (nI (x * 3 + g), hs_pI s 41 3 (nI d)) := by
  have c1 : ¬ d + 1 < 1 := by omega
  have c2 : d + 1 ≤ 10002 := by omega
  unfold f_C_X8_pop_41
  simp (disch := omega) only [↓reduceIte, z_lit, z_m1, z_gd, z_le, z_lt, z_eq, z_em, z_me, z_ml, z_mle, z_lm, z_lem, z_pos, z_sub, nI_add, nI_clamp, ib_nI, pm_let, pm_bd, pm_b1, if_true, if_false, ite_true, ite_false, Nat.not_lt_zero, Nat.zero_le, hs_I_pI, hs_I_pA, hs_A_pI, hs_A_pA, and_true, true_and, and_false, false_and, and_self, eq_self, Nat.reduceEqDiff, ↓reduceIte, h3, c1, c2, Nat.add_sub_cancel, h36]
theorem C_pushA {s : hp_S} {d x g : Nat} (h3 : hs_I s 41 3 = nI d) (hd : d < 10002) (hx : x < 10002) (hg : g < 3) : f_C_X8_pushAgain_41 (nI x) (nI g) s = some (hs_pI (hs_pA s 36 d (nI (x * 3 + g))) 41 3 (nI (d + 1))) := by
  have c1 : ¬ 10002 ≤ d := by omega
  have e1 : nI x * nI 3 = nI (x * 3) := z_mul (by omega)
  unfold f_C_X8_pushAgain_41
  simp (disch := omega) only [↓reduceIte, z_lit, z_m1, z_gd, z_le, z_lt, z_eq, z_em, z_me, z_ml, z_mle, z_lm, z_lem, z_pos, z_sub, nI_add, nI_clamp, ib_nI, pm_let, pm_bd, pm_b1, if_true, if_false, ite_true, ite_false, Nat.not_lt_zero, Nat.zero_le, hs_I_pI, hs_I_pA, hs_A_pI, hs_A_pA, and_true, true_and, and_false, false_and, and_self, eq_self, Nat.reduceEqDiff, ↓reduceIte, h3, c1, e1]
theorem C_next {s s1 s' : hp_S} {x g k G : Nat} (hp : f_C_X8_pop_41 s = some (nI (x * 3 + g), s1)) (hg : g < 3) (hx : x < 10002) (hk : f_C_X9_kind_31 (nI x) s1 = some (nI k, s1)) (hk2 : k < 10) (h : (k = 2 → f_C_X3_addText_39_str G 7 s1 = some s') ∧ (k = 3 → f_C_X3_addText_39_str G 8 s1 = some s') ∧ (k = 4 → f_C_X8_writeFunction_41 G (nI x) (nI g) s1 = some s') ∧ (k = 5 → f_C_X8_writePair_41 G (nI x) (nI g) s1 = some s') ∧ (k = 0 → f_C_X8_writeLetter_41 G (nI x) s1 = some s')) (hr : k = 0 ∨ k = 2 ∨ k = 3 ∨ k = 4 ∨ k = 5) : f_C_X8_writeNext_41 G s = some s' := by
  have e1 : nI (x * 3 + g) / (3 : Int32) = nI x := by
    rw [show (3 : Int32) = nI 3 from rfl, z_div (by omega) (by omega) (by omega)]
    congr 1
    omega
  have e2 : nI (x * 3 + g) - nI x * (3 : Int32) = nI g := by
    rw [show (3 : Int32) = nI 3 from rfl, z_mul (by omega), z_sub (by omega) (by omega)]
    congr 1
    omega
  unfold f_C_X8_writeNext_41
  simp only [hp, pm_bd, pm_let, e1, e2, hk]
  rcases hr with rfl | rfl | rfl | rfl | rfl
  · repeat rw [if_neg (by decide)]
    simp only [h.2.2.2.2 rfl, pm_b1]
  · rw [if_pos (by decide)]
    simp only [h.1 rfl, pm_b1]
  · repeat rw [if_neg (by decide)]
    rw [if_pos (by decide)]
    simp only [h.2.1 rfl, pm_b1]
  · repeat rw [if_neg (by decide)]
    rw [if_pos (by decide)]
    simp only [h.2.2.1 rfl, pm_b1]
  · repeat rw [if_neg (by decide)]
    rw [if_pos (by decide)]
    simp only [h.2.2.2.1 rfl, pm_b1]
/-- a function, before its first part -/
theorem C_fun0 {s s1 s2 s3 s4 : hp_S} {x l k f G : Nat} (h1 : f_C_X9_left_31 (nI x) s = some (nI l, s)) (h2 : f_C_X9_rootOf_31 G (nI l) s = some (nI f, s1)) (h3 : f_C_X9_kind_31 (nI f) s1 = some (nI k, s1)) (hk : k < 10) (h4 : f_C_X3_addText_39_str G (if k = 4 then 1 else 2) s1 = some s2) (h5 : f_C_X8_pushAgain_41 (nI x) (nI 1) s2 = some s3) (h6 : f_C_X8_push_41 G (nI f) s3 = some s4) : f_C_X8_writeFunction_41 G (nI x) (nI 0) s = some s4 := by
  unfold f_C_X8_writeFunction_41
  simp only [h1, h2, h3, pm_bd, pm_let]
  by_cases c : k = 4
  · subst c
    rw [if_pos rfl] at h4
    rw [if_pos (by decide), if_pos (by decide), if_neg (by decide)]
    have h5' : f_C_X8_pushAgain_41 (nI x) 1 s2 = some s3 := h5
    simp only [h4, h5', h6, pm_b1]
  · rw [if_neg c] at h4
    have c' : ¬ nI k = (4 : Int32) := by rw [show (4 : Int32) = nI 4 from rfl, nI_eq (by omega) (by omega)]; exact c
    rw [if_neg c', if_pos (by decide), if_pos (by decide)]
    have h5' : f_C_X8_pushAgain_41 (nI x) 1 s2 = some s3 := h5
    simp only [h4, h5', h6, pm_b1]
/-- and behind it -/
theorem C_fun1 {s s1 s2 s4 : hp_S} {x l k f r G : Nat} (h1 : f_C_X9_left_31 (nI x) s = some (nI l, s)) (h2 : f_C_X9_rootOf_31 G (nI l) s = some (nI f, s1)) (h3 : f_C_X9_kind_31 (nI f) s1 = some (nI k, s1)) (hk : k < 10) (h4 : f_C_X3_addText_39_str G (if k = 4 then 3 else 4) s1 = some s2) (h5 : f_C_X9_right_31 (nI x) s2 = some (nI r, s2)) (h6 : f_C_X8_push_41 G (nI r) s2 = some s4) : f_C_X8_writeFunction_41 G (nI x) (nI 1) s = some s4 := by
  unfold f_C_X8_writeFunction_41
  simp only [h1, h2, h3, pm_bd, pm_let]
  by_cases c : k = 4
  · subst c
    rw [if_pos rfl] at h4
    rw [if_pos (by decide), if_neg (by decide), if_neg (by decide)]
    simp only [h4, h5, h6, pm_b1]
  · rw [if_neg c] at h4
    have c' : ¬ nI k = (4 : Int32) := by rw [show (4 : Int32) = nI 4 from rfl, nI_eq (by omega) (by omega)]; exact c
    rw [if_neg c', if_neg (by decide), if_pos (by decide)]
    simp only [h4, h5, h6, pm_b1]
theorem C_pr0 {s s2 s3 s4 : hp_S} {x l G : Nat} (h4 : f_C_X3_addText_39_str G 1 s = some s2) (h5 : f_C_X8_pushAgain_41 (nI x) (nI 1) s2 = some s3) (h1 : f_C_X9_left_31 (nI x) s3 = some (nI l, s3)) (h6 : f_C_X8_push_41 G (nI l) s3 = some s4) : f_C_X8_writePair_41 G (nI x) (nI 0) s = some s4 := by
  unfold f_C_X8_writePair_41
  rw [if_pos (by decide)]
  have h5' : f_C_X8_pushAgain_41 (nI x) 1 s2 = some s3 := h5
  simp only [h4, h5', h1, h6, pm_b1, pm_bd]
theorem C_pr1 {s s2 s3 s4 : hp_S} {x r G : Nat} (h4 : f_C_X3_addText_39_str G 5 s = some s2) (h5 : f_C_X8_pushAgain_41 (nI x) (nI 2) s2 = some s3) (h1 : f_C_X9_right_31 (nI x) s3 = some (nI r, s3)) (h6 : f_C_X8_push_41 G (nI r) s3 = some s4) : f_C_X8_writePair_41 G (nI x) (nI 1) s = some s4 := by
  unfold f_C_X8_writePair_41
  rw [if_neg (by decide), if_pos (by decide)]
  have h5' : f_C_X8_pushAgain_41 (nI x) 2 s2 = some s3 := h5
  simp only [h4, h5', h1, h6, pm_b1, pm_bd]
theorem C_pr2 {s s2 : hp_S} {x G : Nat} (h4 : f_C_X3_addText_39_str G 6 s = some s2) : f_C_X8_writePair_41 G (nI x) (nI 2) s = some s2 := by
  unfold f_C_X8_writePair_41
  rw [if_neg (by decide), if_neg (by decide)]
  simp only [h4, pm_b1]
/-! the reference's -/
theorem pl_u {α β : Type} (a : α) (f : α → Option β) : pm_let a f = f a := rfl
theorem M_w0 {m m4 : hp_S} {n w G : Nat} {x : Int32} (h40 : hs_I m 0 40 = nI (n + 1)) (hn : n < 19999) (h46 : hs_I m 0 46 = nI w) (hw : w < 4000) (h27 : hs_A m 27 n = x) (h4 : m4 = hs_pI m 0 40 (nI n)) :
    (x = -1 → ∀ m', f_M_X11_writeWord_0 G 539835936 m4 = some m' → l_M_X11_writeType_0_40 (G + 1) m = l_M_X11_writeType_0_40 G m') ∧
    (x = -2 → ∀ m', f_M_X11_writeWord_0 G 176633495072 m4 = some m' → l_M_X11_writeType_0_40 (G + 1) m = l_M_X11_writeType_0_40 G m') ∧
    (x = -3 → ∀ m', f_M_X11_writeWord_0 G 11296 m4 = some m' → l_M_X11_writeType_0_40 (G + 1) m = l_M_X11_writeType_0_40 G m') ∧
    (x = -4 → ∀ m', f_M_X11_writeWord_0 G 41 m4 = some m' → l_M_X11_writeType_0_40 (G + 1) m = l_M_X11_writeType_0_40 G m') ∧
    (∀ q m', (0 : Int32) ≤ x → f_M_X11_root_0 G x m4 = some (nI q, m4) → q < 10200 → hs_A m4 24 q = nI 0 → f_M_X11_letter_0 G (nI q) m4 = some m' → l_M_X11_writeType_0_40 (G + 1) m = l_M_X11_writeType_0_40 G m') ∧
    (∀ q m', (0 : Int32) ≤ x → f_M_X11_root_0 G x m4 = some (nI q, m4) → q < 10200 → hs_A m4 24 q = nI 1 → f_M_X11_writeWord_0 G 6909556 m4 = some m' → l_M_X11_writeType_0_40 (G + 1) m = l_M_X11_writeType_0_40 G m') ∧
    (∀ q m', (0 : Int32) ≤ x → f_M_X11_root_0 G x m4 = some (nI q, m4) → q < 10200 → hs_A m4 24 q = nI 2 → f_M_X11_writeWord_0 G 1651470188 m4 = some m' → l_M_X11_writeType_0_40 (G + 1) m = l_M_X11_writeType_0_40 G m') ∧
    (∀ q ql k m5, (0 : Int32) ≤ x → f_M_X11_root_0 G x m4 = some (nI q, m4) → q < 10200 → hs_A m4 24 q = nI 3 → f_M_X11_root_0 G (hs_A m4 25 q) m4 = some (nI ql, m4) → ql < 10200 → hs_A m4 24 ql = nI k → k < 10 → (if k = 3 then f_M_X11_write_0 (nI 40) m4 = some m5 else m5 = m4) → hs_I m5 0 40 = nI n → hs_A m5 25 q = hs_A m4 25 q → hs_A m5 26 q = hs_A m4 26 q → l_M_X11_writeType_0_40 (G + 1) m = l_M_X11_writeType_0_40 G (hs_pI (hs_pA (hs_pA (hs_pA m5 27 n (hs_A m4 26 q)) 27 (n + 1) (if k = 3 then (-2 : Int32) else -1)) 27 (n + 2) (hs_A m4 25 q)) 0 40 (nI (n + 3)))) ∧
    (∀ q m5, (0 : Int32) ≤ x → f_M_X11_root_0 G x m4 = some (nI q, m4) → q < 10200 → hs_A m4 24 q = nI 4 → f_M_X11_write_0 (nI 40) m4 = some m5 → hs_I m5 0 40 = nI n → hs_A m5 25 q = hs_A m4 25 q → hs_A m5 26 q = hs_A m4 26 q → n < 19990 → l_M_X11_writeType_0_40 (G + 1) m = l_M_X11_writeType_0_40 G (hs_pI (hs_pA (hs_pA (hs_pA (hs_pA m5 27 n (-4 : Int32)) 27 (n + 1) (hs_A m4 26 q)) 27 (n + 2) (-3 : Int32)) 27 (n + 3) (hs_A m4 25 q)) 0 40 (nI (n + 4)))) ∨ 19990 ≤ n := by
  by_cases hn2 : n < 19990
  case neg => exact Or.inr (by omega)
  left
  have c1 : ¬ nI (n + 1) ≤ (0 : Int32) := by rw [show (0 : Int32) = nI 0 from rfl, z_le (by omega) (by omega)]; omega
  have c2 : ¬ (4000 : Int32) ≤ nI w := by rw [show (4000 : Int32) = nI 4000 from rfl, z_le (by omega) (by omega)]; omega
  have e4 : hs_pI m 0 40 (nI (n + 1) - 1) = m4 := by
    rw [h4, show (1 : Int32) = nI 1 from rfl, z_sub (by omega) (by omega)]
    rfl
  have k40 : hs_I m4 0 40 = nI n := by rw [h4]; simp only [hs_I_pI, hs_I_pA, hs_A_pI, hs_A_pA, and_true, true_and, and_false, false_and, and_self, eq_self, Nat.reduceEqDiff, ↓reduceIte]
  have k27 : hs_A m4 27 n = x := by rw [h4]; simp only [hs_I_pI, hs_I_pA, hs_A_pI, hs_A_pA, and_true, true_and, and_false, false_and, and_self, eq_self, Nat.reduceEqDiff, ↓reduceIte]; exact h27
  have i1 : pm_ib (nI n) 20000 = true := ib_nI (by omega) (by omega)
  have q1 : (nI n).toNatClampNeg = n := nI_clamp (by omega)
  have neg : ¬ (0 : Int32) ≤ -1 ∧ ¬ (0 : Int32) ≤ -2 ∧ ¬ (0 : Int32) ≤ -3 ∧ ¬ (0 : Int32) ≤ -4 := by decide
  refine ⟨fun hx m' hm => ?_, fun hx m' hm => ?_, fun hx m' hm => ?_, fun hx m' hm => ?_, fun q m' h0 hr hq hs hm => ?_, fun q m' h0 hr hq hs hm => ?_, fun q m' h0 hr hq hs hm => ?_, fun q ql k m5 h0 hr hq hs hr2 hq2 hs2 hk hb h5 h25 h26 => ?_, fun q m5 h0 hr hq hs hb h5 h25 h26 _ => ?_⟩
  · rw [l_M_X11_writeType_0_40.eq_2, h40, h46, if_neg c1, if_neg c2, pl_u, e4, k40, i1, z_gd, pl_u, q1, k27, hx, if_neg neg.1, pl_u, if_pos rfl]
    simp only [hm, pm_b1]
  · rw [l_M_X11_writeType_0_40.eq_2, h40, h46, if_neg c1, if_neg c2, pl_u, e4, k40, i1, z_gd, pl_u, q1, k27, hx, if_neg neg.2.1, pl_u, if_neg (by decide), if_pos rfl]
    simp only [hm, pm_b1]
  · rw [l_M_X11_writeType_0_40.eq_2, h40, h46, if_neg c1, if_neg c2, pl_u, e4, k40, i1, z_gd, pl_u, q1, k27, hx, if_neg neg.2.2.1, pl_u, if_neg (by decide), if_neg (by decide), if_pos rfl]
    simp only [hm, pm_b1]
  · rw [l_M_X11_writeType_0_40.eq_2, h40, h46, if_neg c1, if_neg c2, pl_u, e4, k40, i1, z_gd, pl_u, q1, k27, hx, if_neg neg.2.2.2, pl_u, if_neg (by decide), if_neg (by decide), if_neg (by decide)]
    simp only [hm, pm_b1]
  · have i2 : pm_ib (nI q) 10200 = true := ib_nI hq (by omega)
    have q2 : (nI q).toNatClampNeg = q := nI_clamp (by omega)
    rw [l_M_X11_writeType_0_40.eq_2, h40, h46, if_neg c1, if_neg c2, pl_u, e4, k40, i1, z_gd, pl_u, q1, k27, if_pos h0, hr]
    simp only [pm_bd]
    rw [i2, z_gd, pl_u, pl_u, q2, hs, if_pos (by decide)]
    simp only [hm, pm_b1]
  · have i2 : pm_ib (nI q) 10200 = true := ib_nI hq (by omega)
    have q2 : (nI q).toNatClampNeg = q := nI_clamp (by omega)
    rw [l_M_X11_writeType_0_40.eq_2, h40, h46, if_neg c1, if_neg c2, pl_u, e4, k40, i1, z_gd, pl_u, q1, k27, if_pos h0, hr]
    simp only [pm_bd]
    rw [i2, z_gd, pl_u, pl_u, q2, hs, if_neg (by decide), if_pos (by decide)]
    simp only [hm, pm_b1]
  · have i2 : pm_ib (nI q) 10200 = true := ib_nI hq (by omega)
    have q2 : (nI q).toNatClampNeg = q := nI_clamp (by omega)
    rw [l_M_X11_writeType_0_40.eq_2, h40, h46, if_neg c1, if_neg c2, pl_u, e4, k40, i1, z_gd, pl_u, q1, k27, if_pos h0, hr]
    simp only [pm_bd]
    rw [i2, z_gd, pl_u, pl_u, q2, hs, if_neg (by decide), if_neg (by decide), if_pos (by decide)]
    simp only [hm, pm_b1]
  · have i2 : pm_ib (nI q) 10200 = true := ib_nI hq (by omega)
    have q2 : (nI q).toNatClampNeg = q := nI_clamp (by omega)
    have i3 : pm_ib (nI ql) 10200 = true := ib_nI hq2 (by omega)
    have q3 : (nI ql).toNatClampNeg = ql := nI_clamp (by omega)
    have k3 : (nI k = (3 : Int32)) = (k = 3) := by rw [show (3 : Int32) = nI 3 from rfl, z_eq (by omega) (by omega)]
    rw [l_M_X11_writeType_0_40.eq_2, h40, h46, if_neg c1, if_neg c2, pl_u, e4, k40, i1, z_gd, pl_u, q1, k27, if_pos h0, hr]
    simp only [pm_bd]
    rw [i2, z_gd, pl_u, pl_u, q2, hs, if_neg (by decide), if_neg (by decide), if_neg (by decide), if_pos (by decide), z_gd, hr2]
    simp only [pm_bd]
    rw [i3, z_gd, pl_u, q3, hs2]
    by_cases ck3 : k = 3
    · rw [if_pos ck3] at hb
      have hb' : f_M_X11_write_0 40 m4 = some m5 := hb
      rw [if_pos (by rw [k3]; exact ck3), if_pos ck3]
      dsimp only
      rw [pl_u, if_neg (by decide), hb']
      simp only [pm_b1]
      simp (disch := omega) only [↓reduceIte, z_lit, z_m1, z_gd, z_le, z_lt, z_eq, z_em, z_me, z_ml, z_mle, z_lm, z_lem, z_pos, z_sub, nI_add, nI_clamp, ib_nI, pm_let, pm_bd, pm_b1, if_true, if_false, ite_true, ite_false, Nat.not_lt_zero, Nat.zero_le, hs_I_pI, hs_I_pA, hs_A_pI, hs_A_pA, and_true, true_and, and_false, false_and, and_self, eq_self, Nat.reduceEqDiff, ↓reduceIte, h5, i2, q2, h25, h26, i1, q1]
    · rw [if_neg ck3] at hb
      subst hb
      rw [if_neg (by rw [k3]; exact ck3), if_neg ck3]
      dsimp only
      rw [pl_u, if_pos (by decide)]
      simp (disch := omega) only [↓reduceIte, z_lit, z_m1, z_gd, z_le, z_lt, z_eq, z_em, z_me, z_ml, z_mle, z_lm, z_lem, z_pos, z_sub, nI_add, nI_clamp, ib_nI, pm_let, pm_bd, pm_b1, if_true, if_false, ite_true, ite_false, Nat.not_lt_zero, Nat.zero_le, hs_I_pI, hs_I_pA, hs_A_pI, hs_A_pA, and_true, true_and, and_false, false_and, and_self, eq_self, Nat.reduceEqDiff, ↓reduceIte, k40, i2, q2, i1, q1]
  · have i2 : pm_ib (nI q) 10200 = true := ib_nI hq (by omega)
    have q2 : (nI q).toNatClampNeg = q := nI_clamp (by omega)
    have hb' : f_M_X11_write_0 40 m4 = some m5 := hb
    rw [l_M_X11_writeType_0_40.eq_2, h40, h46, if_neg c1, if_neg c2, pl_u, e4, k40, i1, z_gd, pl_u, q1, k27, if_pos h0, hr]
    simp only [pm_bd]
    rw [i2, z_gd, pl_u, pl_u, q2, hs, if_neg (by decide), if_neg (by decide), if_neg (by decide), if_neg (by decide), hb']
    simp only [pm_b1]
    simp (disch := omega) only [↓reduceIte, z_lit, z_m1, z_gd, z_le, z_lt, z_eq, z_em, z_me, z_ml, z_mle, z_lm, z_lem, z_pos, z_sub, nI_add, nI_clamp, ib_nI, pm_let, pm_bd, pm_b1, if_true, if_false, ite_true, ite_false, Nat.not_lt_zero, Nat.zero_le, hs_I_pI, hs_I_pA, hs_A_pI, hs_A_pA, and_true, true_and, and_false, false_and, and_self, eq_self, Nat.reduceEqDiff, ↓reduceIte, h5, i2, q2, h25, h26, i1, q1]
