/-! WHAT NODES ASK: the two programs' branches -/
theorem M_typeOf {s m : hp_S} {t : TT} {g : GG} {z V c k F : Nat} (h : TRt s m t) (hc : CP s m t g z V) (hcz : c < z) (h1 : fn g c ≤ k) (h2 : k < en t g c) (hF : 102 ≤ F) : f_M_X11_typeOf_0 F (nI c) (nI (tnd t k)) m = some (nI (rv g c k), m) := by
  obtain ⟨r1, r2⟩ := CP_rng h hc hcz
  have q1 := h.1.2
  have z2 := hc.1.2.1
  obtain ⟨a1, a2, a3, a4, a5, a6⟩ := h.2.2.2.1 k (by omega)
  have b1 := (hc.2.2.2.2.1 c hcz).2.1
  have b2 := CP_le h hc (show c ≤ z by omega)
  have V2 := hc.1.2.2.2
  unfold f_M_X11_typeOf_0 rv
  simp (disch := omega) only [↓reduceIte, z_lit, z_m1, z_gd, z_le, z_lt, z_eq, z_em, z_me, z_ml, z_mle, z_lm, z_lem, z_pos, z_sub, nI_add, nI_clamp, ib_nI, pm_let, pm_bd, pm_b1, if_true, if_false, ite_true, ite_false, Nat.not_lt_zero, Nat.zero_le, M_low h hc hcz hF, a5, b1]
theorem M_nameOf {s m : hp_S} {t : TT} {g : GG} {z V c k F : Nat} (h : TRt s m t) (hc : CP s m t g z V) (hcz : c < z) (h1 : fn g c ≤ k) (h2 : k < en t g c) (hF : 102 ≤ F) : f_M_X11_nameOf_0 F (nI c) (nI (tnd t k)) m = some (nI (rn' t g c k), m) := by
  obtain ⟨r1, r2⟩ := CP_rng h hc hcz
  have q1 := h.1.2
  have z2 := hc.1.2.1
  obtain ⟨a1, a2, a3, a4, a5, a6⟩ := h.2.2.2.1 k (by omega)
  have b1 := (hc.2.2.2.2.1 c hcz).2.1
  have b2 := CP_le h hc (show c ≤ z by omega)
  have V2 := hc.1.2.2.2
  have f1 := (h.2.2.2.2.2.2.1.2.2 k (by omega)).2
  have f2 := (h.2.2.2.2.2.2.1.2.2 (fn g c) (by omega)).2
  have f3 := TR_fb h (k - fn g c) (fn g c) (by omega)
  rw [show fn g c + (k - fn g c) = k by omega] at f3
  have f4 := (sl_b h (show k ≤ tq t by omega)).2.2
  unfold f_M_X11_nameOf_0 rn'
  simp (disch := omega) only [↓reduceIte, z_lit, z_m1, z_gd, z_le, z_lt, z_eq, z_em, z_me, z_ml, z_mle, z_lm, z_lem, z_pos, z_sub, nI_add, nI_clamp, ib_nI, pm_let, pm_bd, pm_b1, if_true, if_false, ite_true, ite_false, Nat.not_lt_zero, Nat.zero_le, M_low h hc hcz hF, M_high h hc hcz hF, a5, b1, f1, f2]
  rw [show gb g c + en t g c - fn g c + tfb t k - tfb t (fn g c) = gb g c + (en t g c - fn g c) + tfb t k - tfb t (fn g c) by omega]
theorem z_blr {r : Nat} (h : r < 2) : pm_bl (nI r) = true := by
  rcases (show r = 0 ∨ r = 1 by omega) with rfl | rfl <;> decide
def AP (s : hp_S) (c n o : Nat) (x4 x6 x8 x10 : Int32) (kd : Nat) : Prop := f_C_X1_variable_26 (nI c) (nI n) s = some (nI o, s) ∧ f_C_X2_first_17 (nI n) s = some (x4, s) ∧ f_C_X1_variable_26 (nI c) x4 s = some (x6, s) ∧ f_C_X2_second_17 (nI n) s = some (x8, s) ∧ f_C_X1_variable_26 (nI c) x8 s = some (x10, s) ∧ f_C_X2_kind_17 (nI n) s = some (nI kd, s)
theorem C_ask2 {s s' : hp_S} {c n o k r : Nat} {x4 x6 x8 x10 : Int32} (h : AP s c n o x4 x6 x8 x10 2) (hr : r < 2) {x : Int32} (ht : f_C_X1_target_26 (nI o) s = some (x, s)) (hu : f_C_X9_unify_31 k (nI o) x s = some (nI r, s')) : f_C_X0_ask_37 k (nI c) (nI n) s = some (nI r, s') := by
  obtain ⟨h1, h2, h3, h4, h5, h6⟩ := h
  unfold f_C_X0_ask_37
  simp only [h1, h2, h3, h4, h5, h6, pm_bd]
  repeat rw [if_neg (by decide)]
  rw [if_pos (by decide)]
  simp only [ht, hu, pm_bd, z_blr hr, z_gd]
theorem C_ask3 {s s' : hp_S} {c n o k r : Nat} {x4 x6 x8 x10 : Int32} (h : AP s c n o x4 x6 x8 x10 3) (hr : r < 2) (hu : f_C_X9_unify_31 k (nI o) (hs_I s 31 6) s = some (nI r, s')) : f_C_X0_ask_37 k (nI c) (nI n) s = some (nI r, s') := by
  obtain ⟨h1, h2, h3, h4, h5, h6⟩ := h
  unfold f_C_X0_ask_37
  simp only [h1, h2, h3, h4, h5, h6, pm_bd]
  repeat rw [if_neg (by decide)]
  rw [if_pos (by decide)]
  simp only [f_C_X9_intCell_31, hu, pm_bd, z_blr hr, z_gd]
theorem C_ask10 {s s' : hp_S} {c n o k r : Nat} {x4 x6 x8 x10 : Int32} (h : AP s c n o x4 x6 x8 x10 10) (hr : r < 2) (hu : f_C_X9_unify_31 k (nI o) (hs_I s 31 7) s = some (nI r, s')) : f_C_X0_ask_37 k (nI c) (nI n) s = some (nI r, s') := by
  obtain ⟨h1, h2, h3, h4, h5, h6⟩ := h
  unfold f_C_X0_ask_37
  simp only [h1, h2, h3, h4, h5, h6, pm_bd]
  repeat rw [if_neg (by decide)]
  rw [if_pos (by decide)]
  simp only [f_C_X9_boolCell_31, hu, pm_bd, z_blr hr, z_gd]
theorem C_ask11 {s s' : hp_S} {c n o k r : Nat} {x4 x6 x8 x10 : Int32} (h : AP s c n o x4 x6 x8 x10 11) (hr : r < 2) (hu : f_C_X9_unify_31 k (nI o) (hs_I s 31 7) s = some (nI r, s')) : f_C_X0_ask_37 k (nI c) (nI n) s = some (nI r, s') := by
  obtain ⟨h1, h2, h3, h4, h5, h6⟩ := h
  unfold f_C_X0_ask_37
  simp only [h1, h2, h3, h4, h5, h6, pm_bd]
  repeat rw [if_neg (by decide)]
  rw [if_pos (by decide)]
  simp only [f_C_X9_boolCell_31, hu, pm_bd, z_blr hr, z_gd]
theorem C_ask5 {s s' : hp_S} {c n o k r : Nat} {x4 x6 x8 x10 : Int32} (h : AP s c n o x4 x6 x8 x10 5) (hr : r < 2) (hu : f_C_X9_unify_31 k (nI o) x10 s = some (nI r, s')) : f_C_X0_ask_37 k (nI c) (nI n) s = some (nI r, s') := by
  obtain ⟨h1, h2, h3, h4, h5, h6⟩ := h
  unfold f_C_X0_ask_37
  simp only [h1, h2, h3, h4, h5, h6, pm_bd]
  repeat rw [if_neg (by decide)]
  rw [if_pos (by decide)]
  simp only [hu, pm_bd, z_blr hr, z_gd]
theorem C_ask4 {s s' : hp_S} {c n o k r : Nat} {x4 x6 x8 x10 : Int32} (h : AP s c n o x4 x6 x8 x10 4) (hr : r < 2) {x : Int32} {s1 : hp_S} (ha : f_C_X9_add_31 (nI 4) (nI o + nI 1) x6 s = some (x, s1)) (hu : f_C_X9_unify_31 k (nI o) x s1 = some (nI r, s')) : f_C_X0_ask_37 k (nI c) (nI n) s = some (nI r, s') := by
  obtain ⟨h1, h2, h3, h4, h5, h6⟩ := h
  unfold f_C_X0_ask_37
  simp only [h1, h2, h3, h4, h5, h6, pm_bd]
  repeat rw [if_neg (by decide)]
  rw [if_pos (by decide)]
  simp only [z_lit, f_C_X9_function_31, ha, hu, pm_bd, z_blr hr, z_gd]
theorem C_ask12 {s s' : hp_S} {c n o k r : Nat} {x4 x6 x8 x10 : Int32} (h : AP s c n o x4 x6 x8 x10 12) (hr : r < 2) {x : Int32} {s1 : hp_S} (ha : f_C_X9_add_31 (nI 4) (hs_I s 31 7) (hs_I s 31 7) s = some (x, s1)) (hu : f_C_X9_unify_31 k (nI o) x s1 = some (nI r, s')) : f_C_X0_ask_37 k (nI c) (nI n) s = some (nI r, s') := by
  obtain ⟨h1, h2, h3, h4, h5, h6⟩ := h
  unfold f_C_X0_ask_37
  simp only [h1, h2, h3, h4, h5, h6, pm_bd]
  repeat rw [if_neg (by decide)]
  rw [if_pos (by decide)]
  simp only [z_lit, f_C_X9_boolCell_31, f_C_X9_function_31, ha, hu, pm_bd, z_blr hr, z_gd]
theorem C_ask17 {s s' : hp_S} {c n o k r : Nat} {x4 x6 x8 x10 : Int32} (h : AP s c n o x4 x6 x8 x10 17) (hr : r < 2) {x : Int32} {s1 : hp_S} (ha : f_C_X9_add_31 (nI 4) x10 (nI o) s = some (x, s1)) (hu : f_C_X9_unify_31 k x6 x s1 = some (nI r, s')) : f_C_X0_ask_37 k (nI c) (nI n) s = some (nI r, s') := by
  obtain ⟨h1, h2, h3, h4, h5, h6⟩ := h
  unfold f_C_X0_ask_37
  simp only [h1, h2, h3, h4, h5, h6, pm_bd]
  repeat rw [if_neg (by decide)]
  rw [if_pos (by decide)]
  simp only [z_lit, f_C_X9_function_31, ha, hu, pm_bd, z_blr hr, z_gd]
theorem C_ask19 {s s' : hp_S} {c n o k r : Nat} {x4 x6 x8 x10 : Int32} (h : AP s c n o x4 x6 x8 x10 19) (hr : r < 2) {x : Int32} {s1 : hp_S} (ha : f_C_X9_add_31 (nI 5) x6 x10 s = some (x, s1)) (hu : f_C_X9_unify_31 k (nI o) x s1 = some (nI r, s')) : f_C_X0_ask_37 k (nI c) (nI n) s = some (nI r, s') := by
  obtain ⟨h1, h2, h3, h4, h5, h6⟩ := h
  unfold f_C_X0_ask_37
  simp only [h1, h2, h3, h4, h5, h6, pm_bd]
  repeat rw [if_neg (by decide)]
  rw [if_pos (by decide)]
  simp only [z_lit, f_C_X9_pair_31, ha, hu, pm_bd, z_blr hr, z_gd]
theorem C_ask13 {s s' : hp_S} {c n o k r : Nat} {x4 x6 x8 x10 : Int32} (h : AP s c n o x4 x6 x8 x10 13) (hr : r < 2) {a b p x : Int32} {s1 s2 s3 s4 : hp_S} (e1 : f_C_X9_add_31 (nI 0) nM nM s = some (a, s1)) (e2 : f_C_X9_add_31 (nI 0) nM nM s1 = some (b, s2)) (e3 : f_C_X9_add_31 (nI 5) a b s2 = some (p, s3)) (e4 : f_C_X9_add_31 (nI 4) p a s3 = some (x, s4)) (hu : f_C_X9_unify_31 k (nI o) x s4 = some (nI r, s')) : f_C_X0_ask_37 k (nI c) (nI n) s = some (nI r, s') := by
  obtain ⟨h1, h2, h3, h4, h5, h6⟩ := h
  unfold f_C_X0_ask_37
  simp only [h1, h2, h3, h4, h5, h6, pm_bd]
  repeat rw [if_neg (by decide)]
  rw [if_pos (by decide)]
  have ep : f_C_X9_partFunction_31 (1 : Int32) s = some (x, s4) := by
    unfold f_C_X9_partFunction_31 f_C_X9_free_31 f_C_X9_pair_31 f_C_X9_function_31
    have e1' : f_C_X9_add_31 0 (-1) (-1) s = some (a, s1) := e1
    have e2' : f_C_X9_add_31 0 (-1) (-1) s1 = some (b, s2) := e2
    have e3' : f_C_X9_add_31 5 a b s2 = some (p, s3) := e3
    have e4' : f_C_X9_add_31 4 p a s3 = some (x, s4) := e4
    simp only [e1', e2', e3', pm_bd, pm_let]
    rw [if_neg (show ¬ ((1 : Int32) = 0) by decide)]
    simp only [e4']
  simp only [ep, hu, pm_bd, z_blr hr, z_gd]
theorem C_ask14 {s s' : hp_S} {c n o k r : Nat} {x4 x6 x8 x10 : Int32} (h : AP s c n o x4 x6 x8 x10 14) (hr : r < 2) {a b p x : Int32} {s1 s2 s3 s4 : hp_S} (e1 : f_C_X9_add_31 (nI 0) nM nM s = some (a, s1)) (e2 : f_C_X9_add_31 (nI 0) nM nM s1 = some (b, s2)) (e3 : f_C_X9_add_31 (nI 5) a b s2 = some (p, s3)) (e4 : f_C_X9_add_31 (nI 4) p b s3 = some (x, s4)) (hu : f_C_X9_unify_31 k (nI o) x s4 = some (nI r, s')) : f_C_X0_ask_37 k (nI c) (nI n) s = some (nI r, s') := by
  obtain ⟨h1, h2, h3, h4, h5, h6⟩ := h
  unfold f_C_X0_ask_37
  simp only [h1, h2, h3, h4, h5, h6, pm_bd]
  repeat rw [if_neg (by decide)]
  rw [if_pos (by decide)]
  have ep : f_C_X9_partFunction_31 (0 : Int32) s = some (x, s4) := by
    unfold f_C_X9_partFunction_31 f_C_X9_free_31 f_C_X9_pair_31 f_C_X9_function_31
    have e1' : f_C_X9_add_31 0 (-1) (-1) s = some (a, s1) := e1
    have e2' : f_C_X9_add_31 0 (-1) (-1) s1 = some (b, s2) := e2
    have e3' : f_C_X9_add_31 5 a b s2 = some (p, s3) := e3
    have e4' : f_C_X9_add_31 4 p b s3 = some (x, s4) := e4
    simp only [e1', e2', e3', pm_bd, pm_let, if_true, e4']
  simp only [ep, hu, pm_bd, z_blr hr, z_gd]
theorem C_ask7a {s s1 s2 s3 : hp_S} {c n o k r : Nat} {x4 x6 x8 x10 : Int32} (h : AP s c n o x4 x6 x8 x10 7) (u1 : f_C_X9_unify_31 k x6 (hs_I s 31 7) s = some (nI 0, s1)) : f_C_X0_ask_37 k (nI c) (nI n) s = some (nI 0, s1) := by
  obtain ⟨h1, h2, h3, h4, h5, h6⟩ := h
  unfold f_C_X0_ask_37
  simp only [h1, h2, h3, h4, h5, h6, pm_bd]
  repeat rw [if_neg (by decide)]
  rw [if_pos (by decide)]
  simp only [f_C_X9_boolCell_31, u1, pm_bd]
  rw [if_pos (show (nI 0 = (0 : Int32)) from rfl)]
  rfl
theorem C_ask7b {s s1 s2 s3 : hp_S} {c n o k r : Nat} {x4 x6 x8 x10 : Int32} (h : AP s c n o x4 x6 x8 x10 7) (u1 : f_C_X9_unify_31 k x6 (hs_I s 31 7) s = some (nI 1, s1)) (u2 : f_C_X9_unify_31 k (nI o) x10 s1 = some (nI 0, s2)) : f_C_X0_ask_37 k (nI c) (nI n) s = some (nI 0, s2) := by
  obtain ⟨h1, h2, h3, h4, h5, h6⟩ := h
  unfold f_C_X0_ask_37
  simp only [h1, h2, h3, h4, h5, h6, pm_bd]
  repeat rw [if_neg (by decide)]
  rw [if_pos (by decide)]
  simp only [f_C_X9_boolCell_31, u1, pm_bd]
  rw [if_neg (show ¬ (nI 1 = (0 : Int32)) by decide)]
  simp only [u2]
  rw [if_pos (show (nI 0 = (0 : Int32)) from rfl)]
  rfl
theorem C_ask7c {s s1 s2 s3 : hp_S} {c n o k r : Nat} {x4 x6 x8 x10 : Int32} (h : AP s c n o x4 x6 x8 x10 7) {x34 x36 : Int32} (hr : r < 2) (u1 : f_C_X9_unify_31 k x6 (hs_I s 31 7) s = some (nI 1, s1)) (u2 : f_C_X9_unify_31 k (nI o) x10 s1 = some (nI 1, s2)) (h7 : f_C_X2_third_17 (nI n) s2 = some (x34, s2)) (h8 : f_C_X1_variable_26 (nI c) x34 s2 = some (x36, s2)) (u3 : f_C_X9_unify_31 k (nI o) x36 s2 = some (nI r, s3)) : f_C_X0_ask_37 k (nI c) (nI n) s = some (nI r, s3) := by
  obtain ⟨h1, h2, h3, h4, h5, h6⟩ := h
  unfold f_C_X0_ask_37
  simp only [h1, h2, h3, h4, h5, h6, pm_bd]
  repeat rw [if_neg (by decide)]
  rw [if_pos (by decide)]
  simp only [f_C_X9_boolCell_31, u1, pm_bd]
  rw [if_neg (show ¬ (nI 1 = (0 : Int32)) by decide)]
  simp only [u2]
  rw [if_neg (show ¬ (nI 1 = (0 : Int32)) by decide)]
  simp only [h7, h8, u3]
  rcases (show r = 0 ∨ r = 1 by omega) with rfl | rfl
  · rw [if_pos (show (nI 0 = (0 : Int32)) from rfl)]; rfl
  · rw [if_neg (show ¬ (nI 1 = (0 : Int32)) by decide)]; rfl
theorem C_ask20a {s s1 s2 s3 : hp_S} {c n o k r : Nat} {x4 x6 x8 x10 : Int32} (h : AP s c n o x4 x6 x8 x10 20) (u1 : f_C_X9_unify_31 k x6 (hs_I s 31 6) s = some (nI 0, s1)) : f_C_X0_ask_37 k (nI c) (nI n) s = some (nI 0, s1) := by
  obtain ⟨h1, h2, h3, h4, h5, h6⟩ := h
  unfold f_C_X0_ask_37
  simp only [h1, h2, h3, h4, h5, h6, pm_bd]
  repeat rw [if_neg (by decide)]
  rw [if_pos (by decide)]
  simp only [f_C_X9_intCell_31, u1, pm_bd]
  rw [if_pos (show (nI 0 = (0 : Int32)) from rfl)]
  rfl
theorem C_ask20b {s s1 s2 s3 : hp_S} {c n o k r : Nat} {x4 x6 x8 x10 : Int32} (h : AP s c n o x4 x6 x8 x10 20) (u1 : f_C_X9_unify_31 k x6 (hs_I s 31 6) s = some (nI 1, s1)) (u2 : f_C_X9_unify_31 k x10 (hs_I s1 31 6) s1 = some (nI 0, s2)) : f_C_X0_ask_37 k (nI c) (nI n) s = some (nI 0, s2) := by
  obtain ⟨h1, h2, h3, h4, h5, h6⟩ := h
  unfold f_C_X0_ask_37
  simp only [h1, h2, h3, h4, h5, h6, pm_bd]
  repeat rw [if_neg (by decide)]
  rw [if_pos (by decide)]
  simp only [f_C_X9_intCell_31, u1, pm_bd]
  rw [if_neg (show ¬ (nI 1 = (0 : Int32)) by decide)]
  simp only [u2]
  rw [if_pos (show (nI 0 = (0 : Int32)) from rfl)]
  rfl
theorem C_ask20c {s s1 s2 s3 : hp_S} {c n o k r : Nat} {x4 x6 x8 x10 : Int32} (h : AP s c n o x4 x6 x8 x10 20) (hr : r < 2) (u1 : f_C_X9_unify_31 k x6 (hs_I s 31 6) s = some (nI 1, s1)) (u2 : f_C_X9_unify_31 k x10 (hs_I s1 31 6) s1 = some (nI 1, s2)) (u3 : f_C_X9_unify_31 k (nI o) (hs_I s2 31 6) s2 = some (nI r, s3)) : f_C_X0_ask_37 k (nI c) (nI n) s = some (nI r, s3) := by
  obtain ⟨h1, h2, h3, h4, h5, h6⟩ := h
  unfold f_C_X0_ask_37
  simp only [h1, h2, h3, h4, h5, h6, pm_bd]
  repeat rw [if_neg (by decide)]
  rw [if_pos (by decide)]
  simp only [f_C_X9_intCell_31, u1, pm_bd]
  rw [if_neg (show ¬ (nI 1 = (0 : Int32)) by decide)]
  simp only [u2]
  rw [if_neg (show ¬ (nI 1 = (0 : Int32)) by decide)]
  simp only [u3]
  rcases (show r = 0 ∨ r = 1 by omega) with rfl | rfl
  · rw [if_pos (show (nI 0 = (0 : Int32)) from rfl)]; rfl
  · rw [if_neg (show ¬ (nI 1 = (0 : Int32)) by decide)]; rfl
theorem C_ask21a {s s1 s2 s3 : hp_S} {c n o k r : Nat} {x4 x6 x8 x10 : Int32} (h : AP s c n o x4 x6 x8 x10 21) (u1 : f_C_X9_unify_31 k x6 (hs_I s 31 6) s = some (nI 0, s1)) : f_C_X0_ask_37 k (nI c) (nI n) s = some (nI 0, s1) := by
  obtain ⟨h1, h2, h3, h4, h5, h6⟩ := h
  unfold f_C_X0_ask_37
  simp only [h1, h2, h3, h4, h5, h6, pm_bd]
  repeat rw [if_neg (by decide)]
  rw [if_pos (by decide)]
  simp only [f_C_X9_intCell_31, f_C_X9_boolCell_31, u1, pm_bd]
  rw [if_pos (show (nI 0 = (0 : Int32)) from rfl)]
  rfl
theorem C_ask21b {s s1 s2 s3 : hp_S} {c n o k r : Nat} {x4 x6 x8 x10 : Int32} (h : AP s c n o x4 x6 x8 x10 21) (u1 : f_C_X9_unify_31 k x6 (hs_I s 31 6) s = some (nI 1, s1)) (u2 : f_C_X9_unify_31 k x10 (hs_I s1 31 6) s1 = some (nI 0, s2)) : f_C_X0_ask_37 k (nI c) (nI n) s = some (nI 0, s2) := by
  obtain ⟨h1, h2, h3, h4, h5, h6⟩ := h
  unfold f_C_X0_ask_37
  simp only [h1, h2, h3, h4, h5, h6, pm_bd]
  repeat rw [if_neg (by decide)]
  rw [if_pos (by decide)]
  simp only [f_C_X9_intCell_31, f_C_X9_boolCell_31, u1, pm_bd]
  rw [if_neg (show ¬ (nI 1 = (0 : Int32)) by decide)]
  simp only [u2]
  rw [if_pos (show (nI 0 = (0 : Int32)) from rfl)]
  rfl
theorem C_ask21c {s s1 s2 s3 : hp_S} {c n o k r : Nat} {x4 x6 x8 x10 : Int32} (h : AP s c n o x4 x6 x8 x10 21) (hr : r < 2) (u1 : f_C_X9_unify_31 k x6 (hs_I s 31 6) s = some (nI 1, s1)) (u2 : f_C_X9_unify_31 k x10 (hs_I s1 31 6) s1 = some (nI 1, s2)) (u3 : f_C_X9_unify_31 k (nI o) (hs_I s2 31 7) s2 = some (nI r, s3)) : f_C_X0_ask_37 k (nI c) (nI n) s = some (nI r, s3) := by
  obtain ⟨h1, h2, h3, h4, h5, h6⟩ := h
  unfold f_C_X0_ask_37
  simp only [h1, h2, h3, h4, h5, h6, pm_bd]
  repeat rw [if_neg (by decide)]
  rw [if_pos (by decide)]
  simp only [f_C_X9_intCell_31, f_C_X9_boolCell_31, u1, pm_bd]
  rw [if_neg (show ¬ (nI 1 = (0 : Int32)) by decide)]
  simp only [u2]
  rw [if_neg (show ¬ (nI 1 = (0 : Int32)) by decide)]
  simp only [u3]
  rcases (show r = 0 ∨ r = 1 by omega) with rfl | rfl
  · rw [if_pos (show (nI 0 = (0 : Int32)) from rfl)]; rfl
  · rw [if_neg (show ¬ (nI 1 = (0 : Int32)) by decide)]; rfl
theorem M_ask2 {m m' : hp_S} {F n' : Nat} {c t0 a3 : Int32} (hn : n' < 101) (h0 : f_M_X11_typeOf_0 F c (nI n') m = some (t0, m)) (h6 : hs_A m 6 n' = nI 2) (hs : f_M_X11_same_0 F t0 (hs_I m 0 57) m = some m') : f_M_X11_ask_0 F c (nI n') a3 m = some m' := by
  unfold f_M_X11_ask_0
  rw [h0]
  simp only [pm_bd]
  rw [ib_nI (show n' < 101 from hn) (by omega), z_gd]
  simp only [pm_let]
  rw [nI_clamp (show n' < 2 ^ 31 by omega), h6]
  repeat rw [if_neg (by decide)]
  rw [if_pos (by decide)]
  simp (disch := omega) only [z_lit, z_gd, ib_nI, pm_bd, pm_b1, pm_let, nI_clamp, hs]
theorem M_ask9 {m m' : hp_S} {F n' : Nat} {c t0 a3 : Int32} (hn : n' < 101) (h0 : f_M_X11_typeOf_0 F c (nI n') m = some (t0, m)) (h6 : hs_A m 6 n' = nI 9) (hs : f_M_X11_same_0 F t0 (hs_I m 0 58) m = some m') : f_M_X11_ask_0 F c (nI n') a3 m = some m' := by
  unfold f_M_X11_ask_0
  rw [h0]
  simp only [pm_bd]
  rw [ib_nI (show n' < 101 from hn) (by omega), z_gd]
  simp only [pm_let]
  rw [nI_clamp (show n' < 2 ^ 31 by omega), h6]
  repeat rw [if_neg (by decide)]
  rw [if_pos (by decide)]
  simp (disch := omega) only [z_lit, z_gd, ib_nI, pm_bd, pm_b1, pm_let, nI_clamp, hs]
theorem M_ask10 {m m' : hp_S} {F n' : Nat} {c t0 a3 : Int32} (hn : n' < 101) (h0 : f_M_X11_typeOf_0 F c (nI n') m = some (t0, m)) (h6 : hs_A m 6 n' = nI 10) (hs : f_M_X11_same_0 F t0 (hs_I m 0 58) m = some m') : f_M_X11_ask_0 F c (nI n') a3 m = some m' := by
  unfold f_M_X11_ask_0
  rw [h0]
  simp only [pm_bd]
  rw [ib_nI (show n' < 101 from hn) (by omega), z_gd]
  simp only [pm_let]
  rw [nI_clamp (show n' < 2 ^ 31 by omega), h6]
  repeat rw [if_neg (by decide)]
  rw [if_pos (by decide)]
  simp (disch := omega) only [z_lit, z_gd, ib_nI, pm_bd, pm_b1, pm_let, nI_clamp, hs]
theorem M_ask11 {m m' : hp_S} {F n' : Nat} {c t0 a3 : Int32} (hn : n' < 101) (h0 : f_M_X11_typeOf_0 F c (nI n') m = some (t0, m)) (h6 : hs_A m 6 n' = nI 11) {x : Int32} {m1 : hp_S} (hf : f_M_X11_fresh_0 (nI 3) (hs_I m 0 58) (hs_I m 0 58) m = some (x, m1)) (hs : f_M_X11_same_0 F t0 x m1 = some m') : f_M_X11_ask_0 F c (nI n') a3 m = some m' := by
  unfold f_M_X11_ask_0
  rw [h0]
  simp only [pm_bd]
  rw [ib_nI (show n' < 101 from hn) (by omega), z_gd]
  simp only [pm_let]
  rw [nI_clamp (show n' < 2 ^ 31 by omega), h6]
  repeat rw [if_neg (by decide)]
  rw [if_pos (by decide)]
  simp (disch := omega) only [z_lit, z_gd, ib_nI, pm_bd, pm_b1, pm_let, nI_clamp, hf, hs]
theorem M_ask12 {m m' : hp_S} {F n' : Nat} {c t0 a3 : Int32} (hn : n' < 101) (h0 : f_M_X11_typeOf_0 F c (nI n') m = some (t0, m)) (h6 : hs_A m 6 n' = nI 12) {a b p x : Int32} {m1 m2 m3 m4 : hp_S} (e1 : f_M_X11_fresh_0 (nI 0) (nI 0) (nI 0) m = some (a, m1)) (e2 : f_M_X11_fresh_0 (nI 0) (nI 0) (nI 0) m1 = some (b, m2)) (e3 : f_M_X11_fresh_0 (nI 4) a b m2 = some (p, m3)) (h63 : hs_A m3 6 n' = nI 12) (e4 : f_M_X11_fresh_0 (nI 3) p a m3 = some (x, m4)) (hs : f_M_X11_same_0 F t0 x m4 = some m') : f_M_X11_ask_0 F c (nI n') a3 m = some m' := by
  unfold f_M_X11_ask_0
  rw [h0]
  simp only [pm_bd]
  rw [ib_nI (show n' < 101 from hn) (by omega), z_gd]
  simp only [pm_let]
  rw [nI_clamp (show n' < 2 ^ 31 by omega), h6]
  repeat rw [if_neg (by decide)]
  rw [if_pos (by decide)]
  simp (disch := omega) only [z_lit, z_gd, ib_nI, pm_bd, pm_b1, pm_let, nI_clamp, e1, e2, e3, h63]
  simp only [if_true, e4, hs]
theorem M_ask13 {m m' : hp_S} {F n' : Nat} {c t0 a3 : Int32} (hn : n' < 101) (h0 : f_M_X11_typeOf_0 F c (nI n') m = some (t0, m)) (h6 : hs_A m 6 n' = nI 13) {a b p x : Int32} {m1 m2 m3 m4 : hp_S} (e1 : f_M_X11_fresh_0 (nI 0) (nI 0) (nI 0) m = some (a, m1)) (e2 : f_M_X11_fresh_0 (nI 0) (nI 0) (nI 0) m1 = some (b, m2)) (e3 : f_M_X11_fresh_0 (nI 4) a b m2 = some (p, m3)) (h63 : hs_A m3 6 n' = nI 13) (e4 : f_M_X11_fresh_0 (nI 3) p b m3 = some (x, m4)) (hs : f_M_X11_same_0 F t0 x m4 = some m') : f_M_X11_ask_0 F c (nI n') a3 m = some m' := by
  unfold f_M_X11_ask_0
  rw [h0]
  simp only [pm_bd]
  rw [ib_nI (show n' < 101 from hn) (by omega), z_gd]
  simp only [pm_let]
  rw [nI_clamp (show n' < 2 ^ 31 by omega), h6]
  repeat rw [if_neg (by decide)]
  rw [if_pos (by decide)]
  simp (disch := omega) only [z_lit, z_gd, ib_nI, pm_bd, pm_b1, pm_let, nI_clamp, e1, e2, e3, h63]
  rw [if_neg (show ¬ (nI 13 = nI 12) by decide)]
  simp only [e4, hs]
theorem M_ask32 {m m' : hp_S} {F n' : Nat} {c t0 a3 : Int32} (hn : n' < 101) (h0 : f_M_X11_typeOf_0 F c (nI n') m = some (t0, m)) (h6 : hs_A m 6 n' = nI 32) {x y : Int32} (h19 : f_M_X11_copyWith_0 F c (hs_A m 19 n') m = some (x, m)) (h20 : f_M_X11_nameOf_0 F x (hs_A m 19 n') m = some (y, m)) (hs : f_M_X11_same_0 F t0 y m = some m') : f_M_X11_ask_0 F c (nI n') a3 m = some m' := by
  unfold f_M_X11_ask_0
  rw [h0]
  simp only [pm_bd]
  rw [ib_nI (show n' < 101 from hn) (by omega), z_gd]
  simp only [pm_let]
  rw [nI_clamp (show n' < 2 ^ 31 by omega), h6]
  repeat rw [if_neg (by decide)]
  rw [if_pos (by decide)]
  simp (disch := omega) only [z_lit, z_gd, ib_nI, pm_bd, pm_b1, pm_let, nI_clamp, h19, h20, hs]
theorem M_ask33 {m m' : hp_S} {F n' : Nat} {c t0 a3 : Int32} (hn : n' < 101) (h0 : f_M_X11_typeOf_0 F c (nI n') m = some (t0, m)) (h6 : hs_A m 6 n' = nI 33) {b : Nat} {y : Int32} (hb : b < 101) (h19 : hs_A m 19 n' = nI b) (h20 : f_M_X11_typeOf_0 F a3 (hs_A m 7 b) m = some (y, m)) (hs : f_M_X11_same_0 F t0 y m = some m') : f_M_X11_ask_0 F c (nI n') a3 m = some m' := by
  unfold f_M_X11_ask_0
  rw [h0]
  simp only [pm_bd]
  rw [ib_nI (show n' < 101 from hn) (by omega), z_gd]
  simp only [pm_let]
  rw [nI_clamp (show n' < 2 ^ 31 by omega), h6]
  repeat rw [if_neg (by decide)]
  rw [if_pos (by decide)]
  simp (disch := omega) only [z_lit, z_gd, ib_nI, pm_bd, pm_b1, pm_let, nI_clamp, h19, h20, hs]
theorem M_ask3 {m m' : hp_S} {F n' : Nat} {c t0 a3 : Int32} (hn : n' < 101) (h0 : f_M_X11_typeOf_0 F c (nI n') m = some (t0, m)) (h6 : hs_A m 6 n' = nI 3) {x y w : Int32} {m1 : hp_S} (h7 : f_M_X11_nameOf_0 F c (nI n') m = some (x, m)) (h8 : f_M_X11_typeOf_0 F c (hs_A m 7 n') m = some (y, m)) (hf : f_M_X11_fresh_0 (nI 3) x y m = some (w, m1)) (hs : f_M_X11_same_0 F t0 w m1 = some m') : f_M_X11_ask_0 F c (nI n') a3 m = some m' := by
  unfold f_M_X11_ask_0
  rw [h0]
  simp only [pm_bd]
  rw [ib_nI (show n' < 101 from hn) (by omega), z_gd]
  simp only [pm_let]
  rw [nI_clamp (show n' < 2 ^ 31 by omega), h6]
  repeat rw [if_neg (by decide)]
  rw [if_pos (by decide)]
  simp (disch := omega) only [z_lit, z_gd, ib_nI, pm_bd, pm_b1, pm_let, nI_clamp, h7, h8, hf, hs]
theorem M_ask4 {m m' : hp_S} {F n' : Nat} {c t0 a3 : Int32} (hn : n' < 101) (h0 : f_M_X11_typeOf_0 F c (nI n') m = some (t0, m)) (h6 : hs_A m 6 n' = nI 4) {y : Int32} (h8 : f_M_X11_typeOf_0 F c (hs_A m 8 n') m = some (y, m)) (hs : f_M_X11_same_0 F t0 y m = some m') : f_M_X11_ask_0 F c (nI n') a3 m = some m' := by
  unfold f_M_X11_ask_0
  rw [h0]
  simp only [pm_bd]
  rw [ib_nI (show n' < 101 from hn) (by omega), z_gd]
  simp only [pm_let]
  rw [nI_clamp (show n' < 2 ^ 31 by omega), h6]
  repeat rw [if_neg (by decide)]
  rw [if_pos (by decide)]
  simp (disch := omega) only [z_lit, z_gd, ib_nI, pm_bd, pm_b1, pm_let, nI_clamp, h8, hs]
theorem M_ask30 {m m' : hp_S} {F n' : Nat} {c t0 a3 : Int32} (hn : n' < 101) (h0 : f_M_X11_typeOf_0 F c (nI n') m = some (t0, m)) (h6 : hs_A m 6 n' = nI 30) {x y w : Int32} {m1 : hp_S} (h7 : f_M_X11_typeOf_0 F c (hs_A m 7 n') m = some (x, m)) (h8 : f_M_X11_typeOf_0 F c (hs_A m 8 n') m = some (y, m)) (hf : f_M_X11_fresh_0 (nI 3) y t0 m = some (w, m1)) (hs : f_M_X11_same_0 F x w m1 = some m') : f_M_X11_ask_0 F c (nI n') a3 m = some m' := by
  unfold f_M_X11_ask_0
  rw [h0]
  simp only [pm_bd]
  rw [ib_nI (show n' < 101 from hn) (by omega), z_gd]
  simp only [pm_let]
  rw [nI_clamp (show n' < 2 ^ 31 by omega), h6]
  repeat rw [if_neg (by decide)]
  rw [if_pos (by decide)]
  simp (disch := omega) only [z_lit, z_gd, ib_nI, pm_bd, pm_b1, pm_let, nI_clamp, h7, h8, hf, hs]
theorem M_ask31 {m m' : hp_S} {F n' : Nat} {c t0 a3 : Int32} (hn : n' < 101) (h0 : f_M_X11_typeOf_0 F c (nI n') m = some (t0, m)) (h6 : hs_A m 6 n' = nI 31) {x y w : Int32} {m1 : hp_S} (h7 : f_M_X11_typeOf_0 F c (hs_A m 7 n') m = some (x, m)) (h8 : f_M_X11_typeOf_0 F c (hs_A m 8 n') m = some (y, m)) (hf : f_M_X11_fresh_0 (nI 4) x y m = some (w, m1)) (hs : f_M_X11_same_0 F t0 w m1 = some m') : f_M_X11_ask_0 F c (nI n') a3 m = some m' := by
  unfold f_M_X11_ask_0
  rw [h0]
  simp only [pm_bd]
  rw [ib_nI (show n' < 101 from hn) (by omega), z_gd]
  simp only [pm_let]
  rw [nI_clamp (show n' < 2 ^ 31 by omega), h6]
  repeat rw [if_neg (by decide)]
  rw [if_pos (by decide)]
  simp (disch := omega) only [z_lit, z_gd, ib_nI, pm_bd, pm_b1, pm_let, nI_clamp, h7, h8, hf, hs]
theorem M_ask6 {m m' : hp_S} {F n' : Nat} {c t0 a3 : Int32} (hn : n' < 101) (h0 : f_M_X11_typeOf_0 F c (nI n') m = some (t0, m)) (h6 : hs_A m 6 n' = nI 6) {x y w : Int32} {m1 m2 : hp_S} (h7 : f_M_X11_typeOf_0 F c (hs_A m 7 n') m = some (x, m)) (s1 : f_M_X11_same_0 F x (hs_I m 0 58) m = some m1) (h8 : f_M_X11_typeOf_0 F c (hs_A m1 8 n') m1 = some (y, m1)) (s2 : f_M_X11_same_0 F t0 y m1 = some m2) (h9 : f_M_X11_typeOf_0 F c (hs_A m2 9 n') m2 = some (w, m2)) (s3 : f_M_X11_same_0 F t0 w m2 = some m') : f_M_X11_ask_0 F c (nI n') a3 m = some m' := by
  unfold f_M_X11_ask_0
  rw [h0]
  simp only [pm_bd]
  rw [ib_nI (show n' < 101 from hn) (by omega), z_gd]
  simp only [pm_let]
  rw [nI_clamp (show n' < 2 ^ 31 by omega), h6]
  repeat rw [if_neg (by decide)]
  rw [if_pos (by decide)]
  simp (disch := omega) only [z_lit, z_gd, ib_nI, pm_bd, pm_b1, pm_let, nI_clamp, h7, s1, h8, s2, h9, s3]
theorem M_ask19 {m m' : hp_S} {F n' : Nat} {c t0 a3 : Int32} (hn : n' < 101) (h0 : f_M_X11_typeOf_0 F c (nI n') m = some (t0, m)) (h6 : hs_A m 6 n' = nI 19) {x y : Int32} {m1 m2 : hp_S} (h7 : f_M_X11_typeOf_0 F c (hs_A m 7 n') m = some (x, m)) (s1 : f_M_X11_same_0 F x (hs_I m 0 57) m = some m1) (h8 : f_M_X11_typeOf_0 F c (hs_A m1 8 n') m1 = some (y, m1)) (s2 : f_M_X11_same_0 F y (hs_I m1 0 57) m1 = some m2) (h62 : hs_A m2 6 n' = nI 19) (s3 : f_M_X11_same_0 F t0 (hs_I m2 0 57) m2 = some m') : f_M_X11_ask_0 F c (nI n') a3 m = some m' := by
  unfold f_M_X11_ask_0
  rw [h0]
  simp only [pm_bd]
  rw [ib_nI (show n' < 101 from hn) (by omega), z_gd]
  simp only [pm_let]
  rw [nI_clamp (show n' < 2 ^ 31 by omega), h6]
  repeat rw [if_neg (by decide)]
  rw [if_pos (by decide)]
  simp (disch := omega) only [z_lit, z_gd, ib_nI, pm_bd, pm_b1, pm_let, nI_clamp, h7, s1, h8, s2, h62]
  rw [if_neg (show ¬ (nI 19 = nI 20) by decide)]
  simp only [s3]
theorem M_ask20 {m m' : hp_S} {F n' : Nat} {c t0 a3 : Int32} (hn : n' < 101) (h0 : f_M_X11_typeOf_0 F c (nI n') m = some (t0, m)) (h6 : hs_A m 6 n' = nI 20) {x y : Int32} {m1 m2 : hp_S} (h7 : f_M_X11_typeOf_0 F c (hs_A m 7 n') m = some (x, m)) (s1 : f_M_X11_same_0 F x (hs_I m 0 57) m = some m1) (h8 : f_M_X11_typeOf_0 F c (hs_A m1 8 n') m1 = some (y, m1)) (s2 : f_M_X11_same_0 F y (hs_I m1 0 57) m1 = some m2) (h62 : hs_A m2 6 n' = nI 20) (s3 : f_M_X11_same_0 F t0 (hs_I m2 0 58) m2 = some m') : f_M_X11_ask_0 F c (nI n') a3 m = some m' := by
  unfold f_M_X11_ask_0
  rw [h0]
  simp only [pm_bd]
  rw [ib_nI (show n' < 101 from hn) (by omega), z_gd]
  simp only [pm_let]
  rw [nI_clamp (show n' < 2 ^ 31 by omega), h6]
  repeat rw [if_neg (by decide)]
  rw [if_pos (by decide)]
  simp (disch := omega) only [z_lit, z_gd, ib_nI, pm_bd, pm_b1, pm_let, nI_clamp, h7, s1, h8, s2, h62]
  simp only [if_true, s3]
