theorem C_let0 {s s2 : hp_S} {R x c G : Nat} (h5 : hs_I s 31 5 = nI R) (hR : R ≤ 10002) (hx : x < R) (hm : hs_A s 35 x = nI 0) (h4 : hs_I s 41 4 = nI c) (hc : c < 10000) (h2 : s2 = hs_pA (hs_pI s 41 4 (nI (c + 1))) 35 x (nI (c + 1))) : f_C_X8_writeLetter_41 G (nI x) s = f_C_X8_writeLetter_41 G (nI x) s2 := by
  have h5' : hs_I (hs_pI s 41 4 (nI (c + 1))) 31 5 = nI R := by simp only [hs_I_pI, hs_I_pA, hs_A_pI, hs_A_pA, and_true, true_and, and_false, false_and, and_self, eq_self, Nat.reduceEqDiff, ↓reduceIte]; exact h5
  have h52 : hs_I s2 31 5 = nI R := by rw [h2]; simp only [hs_I_pI, hs_I_pA, hs_A_pI, hs_A_pA, and_true, true_and, and_false, false_and, and_self, eq_self, Nat.reduceEqDiff, ↓reduceIte]; exact h5
  have m2 : hs_A s2 35 x = nI (c + 1) := by rw [h2]; simp only [hs_I_pI, hs_I_pA, hs_A_pI, hs_A_pA, and_true, true_and, and_false, false_and, and_self, eq_self, Nat.reduceEqDiff, ↓reduceIte]
  have c0 : ¬ nI (c + 1) = (0 : Int32) := by rw [show (0 : Int32) = nI 0 from rfl, nI_eq (by omega) (by omega)]; omega
  have e1 : nI c + (1 : Int32) = nI (c + 1) := by simp (disch := omega) only [↓reduceIte, z_lit, z_m1, z_gd, z_le, z_lt, z_eq, z_em, z_me, z_ml, z_mle, z_lm, z_lem, z_pos, z_sub, nI_add, nI_clamp, ib_nI, pm_let, pm_bd, pm_b1, if_true, if_false, ite_true, ite_false, Nat.not_lt_zero, Nat.zero_le]
  have e4 : hs_I (hs_pI s 41 4 (nI (c + 1))) 41 4 = nI (c + 1) := by simp only [hs_I_pI, hs_I_pA, hs_A_pI, hs_A_pA, and_true, true_and, and_false, false_and, and_self, eq_self, Nat.reduceEqDiff, ↓reduceIte]
  unfold f_C_X8_writeLetter_41
  simp only [C_mk31 h5 hR hx, C_mk31 h52 hR hx, hm, m2, pm_bd, pm_let]
  rw [if_pos (show nI 0 = (0 : Int32) from rfl), if_neg c0, h4, e1, e4, C_sm31 h5' hR hx, ← h2]
  simp only [pm_b1, C_mk31 h52 hR hx, m2]
theorem M_let0 {m m2 : hp_S} {p c G : Nat} (hp : p < 10200) (hm : hs_A m 33 p = nM) (h48 : hs_I m 0 48 = nI c) (hc : c < 10000) (h2 : m2 = hs_pI (hs_pA m 33 p (nI c)) 0 48 (nI (c + 1))) : f_M_X11_letter_0 G (nI p) m = f_M_X11_letter_0 G (nI p) m2 := by
  have i1 : pm_ib (nI p) 10200 = true := ib_nI hp (by omega)
  have q1 : (nI p).toNatClampNeg = p := nI_clamp (by omega)
  have m33 : hs_A m2 33 p = nI c := by rw [h2]; simp only [hs_I_pI, hs_I_pA, hs_A_pI, hs_A_pA, and_true, true_and, and_false, false_and, and_self, eq_self, Nat.reduceEqDiff, ↓reduceIte]
  have e1 : nI c + (1 : Int32) = nI (c + 1) := by simp (disch := omega) only [↓reduceIte, z_lit, z_m1, z_gd, z_le, z_lt, z_eq, z_em, z_me, z_ml, z_mle, z_lm, z_lem, z_pos, z_sub, nI_add, nI_clamp, ib_nI, pm_let, pm_bd, pm_b1, if_true, if_false, ite_true, ite_false, Nat.not_lt_zero, Nat.zero_le]
  have e4 : hs_I (hs_pA m 33 p (nI c)) 0 48 = nI c := by simp only [hs_I_pI, hs_I_pA, hs_A_pI, hs_A_pA, and_true, true_and, and_false, false_and, and_self, eq_self, Nat.reduceEqDiff, ↓reduceIte]; exact h48
  unfold f_M_X11_letter_0
  rw [i1, z_gd, z_gd]
  simp only [pm_let, q1, hm, m33]
  rw [if_neg (show ¬ (0 : Int32) ≤ nM by decide), if_pos (show (0 : Int32) ≤ nI c by rw [show (0 : Int32) = nI 0 from rfl, z_le (by omega) (by omega)]; omega)]
  simp only [z_gd, h48, e4, e1, ← h2, m33]
def tP' : List (Nat × Nat) := [(39, 1), (41, 3), (41, 4)]
def tA' : List Nat := [33, 35, 36, 40]
def rP' : List (Nat × Nat) := [(0, 40), (0, 46), (0, 48)]
def rA' : List Nat := [27, 32, 33]
theorem OU_fr {s m s' m' : hp_S} {w : Nat} {P P' : List (Nat × Nat)} {L L' : List Nat} (h : OU s m w) (f : hs_fr P L s s') (f' : hs_fr P' L' m m') (g : (39, 1) ∉ P ∧ (39, 2) ∉ P ∧ 40 ∉ L) (g' : (0, 46) ∉ P' ∧ 32 ∉ L') : OU s' m' w := by
  obtain ⟨h1, h2, h3, h4, h5⟩ := h
  refine ⟨h1, by rw [f.1 _ _ g.1]; exact h2, by rw [f.1 _ _ g.2.1]; exact h3, by rw [f'.1 _ _ g'.1]; exact h4, fun j hj => ?_⟩
  rw [f.2 40 g.2.2, f'.2 32 g'.2]
  exact h5 j hj
theorem nI_ge0 {a : Nat} (h : a < 2 ^ 31) : (0 : Int32) ≤ nI a := by rw [show (0 : Int32) = nI 0 from rfl, z_le (by omega) h]; omega
theorem UC_rt {s : hp_S} {A : AA} {R x : Nat} {ρ dp : Nat → Nat} (hU : UC s A R ρ dp) (hx : x < R) (ex : ρ x = x) : hs_A s 32 x = nI (ck (ash A x)) ∧ (3 ≤ ash A x → hs_A s 33 x = nI (alf A x) ∧ hs_A s 34 x = nI (art A x)) := by
  obtain ⟨-, ⟨-, -, k, l⟩ | ⟨q, -⟩⟩ := hU.2.2.2.2.2 x hx
  · exact ⟨k, l⟩
  · exact absurd ex q
theorem J_par {s m : hp_S} {w G : Nat} (b : Nat) (h : OU s m w) (hG : 10 ≤ G) : ∃ s' m' w', f_C_X3_addText_39_str G (if b = 3 then 1 else 2) s = some s' ∧ (if b = 3 then f_M_X11_write_0 (nI 40) m = some m' else m' = m) ∧ OU s' m' w' ∧ hs_fr oP oA s s' ∧ hs_fr pP pA' m m' ∧ w ≤ w' := by
  by_cases c : b = 3
  · rw [if_pos c]
    obtain ⟨s', m', w', a1, a2, a3, a4, a5, a6⟩ := OU_add h (c := nI 40) (c' := nI 40) rfl
    refine ⟨s', m', w', ?_, by rw [if_pos c]; exact a2, a3, a4, a5, by omega⟩
    rw [C_text (by omega) (by omega) hG]
    change pm_b1 (f_C_X3_add_39 (nI 40) s) _ = _
    rw [a1]
    rfl
  · rw [if_neg c]
    refine ⟨s, m, w, ?_, by rw [if_neg c], h, hs_fr.rf, hs_fr.rf, Nat.le_refl _⟩
    rw [C_text (by omega) (by omega) hG]
    rfl
theorem ck_4 {k : Nat} : (ck k = 4) = (k = 3) := by
  unfold ck
  split <;> simp <;> omega
theorem LR_fr {s m s' m' : hp_S} {R c : Nat} {ρC ρM σ : Nat → Nat} {P P' : List (Nat × Nat)} {L L' : List Nat} (h : LR s m R ρC ρM σ c) (f : hs_fr P L s s') (f' : hs_fr P' L' m m') (g : (41, 4) ∉ P ∧ 35 ∉ L) (g' : (0, 48) ∉ P' ∧ 33 ∉ L') : LR s' m' R ρC ρM σ c := by
  obtain ⟨h1, h2, h3⟩ := h
  refine ⟨by rw [f.1 _ _ g.1]; exact h1, by rw [f'.1 _ _ g'.1]; exact h2, fun y hy => ?_⟩
  rw [f.2 35 g.2, f'.2 33 g'.2]
  exact h3 y hy
/-- a function, before its first part: both -/
theorem W_fun0 {s m : hp_S} {A : AA} {R : Nat} {ρC dC ρM dM σ rk : Nat → Nat} {x y : Nat} {L : List (Nat × Nat)} {d0 n0 c w G : Nat} (hE : WE A R ρC ρM σ rk) (U : UC s A R ρC dC) (W : UM m A R ρM dM σ) (h3 : hs_I s 41 3 = nI d0) (h40 : hs_I m 0 40 = nI n0) (hK : SK s m A R ρC σ rk L d0 n0) (hL : LR s m R ρC ρM σ c) (hO : OU s m w) (hx : x < R) (ex : ρC x = x) (hrk : rk x + d0 ≤ 4001) (hy : y < R) (ey : ρC y = x) (a : ash A x = 3) (hG : 20000 ≤ G) : ∃ s' m5 m' w', f_C_X8_writeFunction_41 G (nI x) (nI 0) s = some s' ∧ (if ash A (ρC (alf A x)) = 3 then f_M_X11_write_0 (nI 40) m = some m5 else m5 = m) ∧ hs_fr pP pA' m m5 ∧ m' = hs_pI (hs_pA (hs_pA (hs_pA m5 27 n0 (nI (σ (art A (ρM y))))) 27 (n0 + 1) (if ash A (ρC (alf A x)) = 3 then (-2 : Int32) else -1)) 27 (n0 + 2) (nI (σ (alf A (ρM y))))) 0 40 (nI (n0 + 3)) ∧ WD s' m' A R ρC dC ρM dM σ rk ((ρC (alf A x), 0) :: (x, 1) :: L) (d0 + 2) (n0 + 3) c ∧ OU s' m' w' ∧ w ≤ w' ∧ hs_fr tP' tA' s s' ∧ hs_fr rP' rA' m m' := by
  have hE' := hE
  obtain ⟨hσ, hR, hW, DC, DM, agr, rkb, rkd⟩ := hE'
  have sb := SK_b _ _ _ hK
  have wx := (hW x hx).2 (by omega)
  obtain ⟨q1, q2⟩ := WE_sh hE hy
  rw [ey] at q1 q2
  obtain ⟨q3, q4⟩ := q2 (by omega)
  have rM := (DM.1 y hy).1
  have wM := (hW _ rM).2 (by omega)
  have rf := DC.1 _ wx.1
  obtain ⟨rk1, rk2⟩ := rkd x hx ex (by omega)
  obtain ⟨f, hf⟩ : ∃ f, f = ρC (alf A x) := ⟨_, rfl⟩
  rw [← hf] at rf rk1 q3 ⊢
  obtain ⟨k1, k2⟩ := UC_rt U hx ex
  obtain ⟨k3, k4⟩ := k2 (by omega)
  obtain ⟨s1, a1, U1, f1⟩ := C_rootOf (F := G) U wx.1 (by omega)
  rw [← hf] at a1
  obtain ⟨s2, m5, w', b1, b2, b3, b4, b5, b6⟩ := J_par (G := G) (ash A f) (OU_fr hO f1 (hs_fr.rf (s := m) (P := []) (As := [])) (by decide) (by decide)) (by omega)
  have U2 := UC_fr U1 b4 (by decide)
  have e3 : hs_I s2 41 3 = nI d0 := by rw [b4.1 _ _ (by decide), f1.1 _ _ (by decide)]; exact h3
  have p1 := C_pushA (s := s2) (x := x) (g := 1) e3 (by omega) (by omega) (by omega)
  obtain ⟨s3, hs3⟩ : ∃ s3, s3 = hs_pI (hs_pA s2 36 d0 (nI (x * 3 + 1))) 41 3 (nI (d0 + 1)) := ⟨_, rfl⟩
  rw [← hs3] at p1
  have f3 : hs_fr [(41, 3)] [36] s2 s3 := by rw [hs3]; exact (hs_fr_pA (by decide)).cons (hs_fr_pI (by decide))
  have U3 := UC_fr U2 f3 (by decide)
  obtain ⟨s4, c1, U4, f4⟩ := C_push41 (G := G) (d := d0 + 1) (y := f) U3 (by rw [hs3]; simp only [hs_I_pI, hs_I_pA, hs_A_pI, hs_A_pA, and_true, true_and, and_false, false_and, and_self, eq_self, Nat.reduceEqDiff, ↓reduceIte]) (by omega) rf.1 (by omega)
  rw [rf.2] at c1
  obtain ⟨s5, hs5⟩ : ∃ s5, s5 = hs_pI (hs_pA s4 36 (d0 + 1) (nI (f * 3 + 0))) 41 3 (nI (d0 + 1 + 1)) := ⟨_, rfl⟩
  rw [← hs5] at c1
  have f5 : hs_fr [(41, 3)] [36] s4 s5 := by rw [hs5]; exact (hs_fr_pA (by decide)).cons (hs_fr_pI (by decide))
  obtain ⟨m', hm'⟩ : ∃ m', m' = hs_pI (hs_pA (hs_pA (hs_pA m5 27 n0 (nI (σ (art A (ρM y))))) 27 (n0 + 1) (if ash A f = 3 then (-2 : Int32) else -1)) 27 (n0 + 2) (nI (σ (alf A (ρM y))))) 0 40 (nI (n0 + 3)) := ⟨_, rfl⟩
  have fm : hs_fr [(0, 40)] [27] m5 m' := by rw [hm']; exact (((hs_fr_pA (by decide)).cons (hs_fr_pA (by decide))).cons (hs_fr_pA (by decide))).cons (hs_fr_pI (by decide))
  have kf : f_C_X9_kind_31 (nI f) s1 = some (nI (ck (ash A f)), s1) := by rw [C_k31 U1.1 hR rf.1, (UC_rt U1 rf.1 rf.2).1]
  have wf := (hW f rf.1).1
  have ckb : ck (ash A f) < 10 := by unfold ck; split <;> omega
  have fun0 := C_fun0 (x := x) (by rw [C_l31 U.1 hR hx, k3]) a1 kf ckb (s2 := s2) (by simp only [ck_4]; exact b1) p1 c1
  have g27 : ∀ i, i < n0 → hs_A m' 27 i = hs_A m 27 i := by
    intro i hi
    rw [hm', ← b5.2 27 (by decide)]
    have z1 : ¬ i = n0 := by omega
    have z2 : ¬ i = n0 + 1 := by omega
    have z3 : ¬ i = n0 + 2 := by omega
    simp only [hs_I_pI, hs_I_pA, hs_A_pI, hs_A_pA, and_true, true_and, and_false, false_and, and_self, eq_self, Nat.reduceEqDiff, ↓reduceIte, z1, z2, z3]
  have g36 : ∀ i, i < d0 → hs_A s5 36 i = hs_A s 36 i := by
    intro i hi
    have z1 : ¬ i = d0 := by omega
    have z2 : ¬ i = d0 + 1 := by omega
    rw [hs5]
    simp only [hs_I_pI, hs_I_pA, hs_A_pI, hs_A_pA, and_true, true_and, and_false, false_and, and_self, eq_self, Nat.reduceEqDiff, ↓reduceIte, z2]
    rw [f4.2 36 (by decide), hs3]
    simp only [hs_I_pI, hs_I_pA, hs_A_pI, hs_A_pA, and_true, true_and, and_false, false_and, and_self, eq_self, Nat.reduceEqDiff, ↓reduceIte, z1]
    rw [b4.2 36 (by decide), f1.2 36 (by decide)]
  have F25 : hs_fr [(41, 3)] [33, 36] s2 s5 := ((f3.mono (by decide) (by decide)).cons (f4.mono (by simp) (by decide))).cons (f5.mono (by decide) (by decide))
  have F12 : hs_fr tP' tA' s s2 := (f1.mono (by simp) (by decide)).cons (b4.mono (by decide) (by decide))
  refine ⟨s5, m5, m', w', fun0, b2, b5, hm', ⟨UC_fr U4 f5 (by decide), UM_fr (UM_fr W b5 (by decide)) fm (by decide), by rw [hs5]; simp only [hs_I_pI, hs_I_pA, hs_A_pI, hs_A_pA, and_true, true_and, and_false, false_and, and_self, eq_self, Nat.reduceEqDiff, ↓reduceIte], by rw [hm']; simp only [hs_I_pI, hs_I_pA, hs_A_pI, hs_A_pA, and_true, true_and, and_false, false_and, and_self, eq_self, Nat.reduceEqDiff, ↓reduceIte], ?_, LR_fr (LR_fr (LR_fr hL f1 (hs_fr.rf (s := m) (P := []) (As := [])) (by decide) (by decide)) b4 b5 (by decide) (by decide)) F25 fm (by decide) (by decide)⟩, OU_fr b3 F25 fm (by decide) (by decide), b6, F12.cons (F25.mono (by decide) (by decide)), (b5.mono (by decide) (by decide)).cons (fm.mono (by decide) (by decide))⟩
  have z1 : ¬ d0 = d0 + 1 := by omega
  have y1 : ¬ n0 = n0 + 1 := by omega
  have y2 : ¬ n0 = n0 + 2 := by omega
  have y3 : ¬ n0 + 1 = n0 + 2 := by omega
  refine ⟨d0 + 1, n0 + 2, rfl, by unfold gn; rw [if_neg (show ¬ (0 : Nat) = 1 by decide)], rf.1, rf.2, by rw [hs5]; simp only [hs_I_pI, hs_I_pA, hs_A_pI, hs_A_pA, and_true, true_and, and_false, false_and, and_self, eq_self, Nat.reduceEqDiff, ↓reduceIte], show rk f + (d0 + 1) ≤ 4001 by omega, Or.inl ⟨rfl, alf A (ρM y), wM.1, q3, by rw [hm']; simp only [hs_I_pI, hs_I_pA, hs_A_pI, hs_A_pA, and_true, true_and, and_false, false_and, and_self, eq_self, Nat.reduceEqDiff, ↓reduceIte]⟩, d0, n0, rfl, by unfold gn; rw [if_pos rfl, if_pos a], hx, ex, ?_, hrk, Or.inr (Or.inl ⟨rfl, a, ⟨art A (ρM y), wM.2, q4, by rw [hm']; simp only [hs_I_pI, hs_I_pA, hs_A_pI, hs_A_pA, and_true, true_and, and_false, false_and, and_self, eq_self, Nat.reduceEqDiff, ↓reduceIte, y1, y2]⟩, ?_⟩), SK_fr L d0 n0 hK g36 g27⟩
  · rw [hs5]
    simp only [hs_I_pI, hs_I_pA, hs_A_pI, hs_A_pA, and_true, true_and, and_false, false_and, and_self, eq_self, Nat.reduceEqDiff, ↓reduceIte, z1]
    rw [f4.2 36 (by decide), hs3]
    simp only [hs_I_pI, hs_I_pA, hs_A_pI, hs_A_pA, and_true, true_and, and_false, false_and, and_self, eq_self, Nat.reduceEqDiff, ↓reduceIte]
  · rw [← hf, hm']
    simp only [hs_I_pI, hs_I_pA, hs_A_pI, hs_A_pA, and_true, true_and, and_false, false_and, and_self, eq_self, Nat.reduceEqDiff, ↓reduceIte, y3]
/-- a pair, before its first part -/
theorem W_pr0 {s m : hp_S} {A : AA} {R : Nat} {ρC dC ρM dM σ rk : Nat → Nat} {x y : Nat} {L : List (Nat × Nat)} {d0 n0 c w G : Nat} (hE : WE A R ρC ρM σ rk) (U : UC s A R ρC dC) (W : UM m A R ρM dM σ) (h3 : hs_I s 41 3 = nI d0) (h40 : hs_I m 0 40 = nI n0) (hK : SK s m A R ρC σ rk L d0 n0) (hL : LR s m R ρC ρM σ c) (hO : OU s m w) (hx : x < R) (ex : ρC x = x) (hrk : rk x + d0 ≤ 4001) (hy : y < R) (ey : ρC y = x) (a : ash A x = 4) (hG : 20000 ≤ G) : ∃ s' m5 m' w', f_C_X8_writePair_41 G (nI x) (nI 0) s = some s' ∧ f_M_X11_write_0 (nI 40) m = some m5 ∧ hs_fr pP pA' m m5 ∧ m' = hs_pI (hs_pA (hs_pA (hs_pA (hs_pA m5 27 n0 (-4 : Int32)) 27 (n0 + 1) (nI (σ (art A (ρM y))))) 27 (n0 + 2) (-3 : Int32)) 27 (n0 + 3) (nI (σ (alf A (ρM y))))) 0 40 (nI (n0 + 4)) ∧ WD s' m' A R ρC dC ρM dM σ rk ((ρC (alf A x), 0) :: (x, 1) :: L) (d0 + 2) (n0 + 4) c ∧ OU s' m' w' ∧ w ≤ w' ∧ hs_fr tP' tA' s s' ∧ hs_fr rP' rA' m m' := by
  have hE' := hE
  obtain ⟨hσ, hR, hW, DC, DM, agr, rkb, rkd⟩ := hE'
  have sb := SK_b _ _ _ hK
  have wx := (hW x hx).2 (by omega)
  obtain ⟨q1, q2⟩ := WE_sh hE hy
  rw [ey] at q1 q2
  obtain ⟨q3, q4⟩ := q2 (by omega)
  have rM := (DM.1 y hy).1
  have wM := (hW _ rM).2 (by omega)
  have rf := DC.1 _ wx.1
  obtain ⟨rk1, rk2⟩ := rkd x hx ex (by omega)
  obtain ⟨f, hf⟩ : ∃ f, f = ρC (alf A x) := ⟨_, rfl⟩
  rw [← hf] at rf rk1 q3 ⊢
  obtain ⟨s2, m5, w', b1, b2, b3, b4, b5, b6⟩ := J_par (G := G) 3 hO (by omega)
  rw [if_pos rfl] at b1 b2
  have U2 := UC_fr U b4 (by decide)
  have e3 : hs_I s2 41 3 = nI d0 := by rw [b4.1 _ _ (by decide)]; exact h3
  have p1 := C_pushA (s := s2) (x := x) (g := 1) e3 (by omega) (by omega) (by omega)
  obtain ⟨s3, hs3⟩ : ∃ s3, s3 = hs_pI (hs_pA s2 36 d0 (nI (x * 3 + 1))) 41 3 (nI (d0 + 1)) := ⟨_, rfl⟩
  rw [← hs3] at p1
  have f3 : hs_fr [(41, 3)] [36] s2 s3 := by rw [hs3]; exact (hs_fr_pA (by decide)).cons (hs_fr_pI (by decide))
  have U3 := UC_fr U2 f3 (by decide)
  obtain ⟨k1, k2⟩ := UC_rt U3 hx ex
  obtain ⟨k3, k4⟩ := k2 (by omega)
  obtain ⟨s4, c1, U4, f4⟩ := C_push41 (G := G) (d := d0 + 1) (y := alf A x) U3 (by rw [hs3]; simp only [hs_I_pI, hs_I_pA, hs_A_pI, hs_A_pA, and_true, true_and, and_false, false_and, and_self, eq_self, Nat.reduceEqDiff, ↓reduceIte]) (by omega) wx.1 (by omega)
  rw [← hf] at c1
  obtain ⟨s5, hs5⟩ : ∃ s5, s5 = hs_pI (hs_pA s4 36 (d0 + 1) (nI (f * 3 + 0))) 41 3 (nI (d0 + 1 + 1)) := ⟨_, rfl⟩
  rw [← hs5] at c1
  have f5 : hs_fr [(41, 3)] [36] s4 s5 := by rw [hs5]; exact (hs_fr_pA (by decide)).cons (hs_fr_pI (by decide))
  obtain ⟨m', hm'⟩ : ∃ m', m' = hs_pI (hs_pA (hs_pA (hs_pA (hs_pA m5 27 n0 (-4 : Int32)) 27 (n0 + 1) (nI (σ (art A (ρM y))))) 27 (n0 + 2) (-3 : Int32)) 27 (n0 + 3) (nI (σ (alf A (ρM y))))) 0 40 (nI (n0 + 4)) := ⟨_, rfl⟩
  have fm : hs_fr [(0, 40)] [27] m5 m' := by rw [hm']; exact ((((hs_fr_pA (by decide)).cons (hs_fr_pA (by decide))).cons (hs_fr_pA (by decide))).cons (hs_fr_pA (by decide))).cons (hs_fr_pI (by decide))
  have pr0 := C_pr0 (x := x) b1 p1 (by rw [C_l31 U3.1 hR hx, k3]) c1
  have g27 : ∀ i, i < n0 → hs_A m' 27 i = hs_A m 27 i := by
    intro i hi
    rw [hm', ← b5.2 27 (by decide)]
    have z1 : ¬ i = n0 := by omega
    have z2 : ¬ i = n0 + 1 := by omega
    have z3 : ¬ i = n0 + 2 := by omega
    have z4 : ¬ i = n0 + 3 := by omega
    simp only [hs_I_pI, hs_I_pA, hs_A_pI, hs_A_pA, and_true, true_and, and_false, false_and, and_self, eq_self, Nat.reduceEqDiff, ↓reduceIte, z1, z2, z3, z4]
  have g36 : ∀ i, i < d0 → hs_A s5 36 i = hs_A s 36 i := by
    intro i hi
    have z1 : ¬ i = d0 := by omega
    have z2 : ¬ i = d0 + 1 := by omega
    rw [hs5]
    simp only [hs_I_pI, hs_I_pA, hs_A_pI, hs_A_pA, and_true, true_and, and_false, false_and, and_self, eq_self, Nat.reduceEqDiff, ↓reduceIte, z2]
    rw [f4.2 36 (by decide), hs3]
    simp only [hs_I_pI, hs_I_pA, hs_A_pI, hs_A_pA, and_true, true_and, and_false, false_and, and_self, eq_self, Nat.reduceEqDiff, ↓reduceIte, z1]
    rw [b4.2 36 (by decide)]
  have F25 : hs_fr [(41, 3)] [33, 36] s2 s5 := ((f3.mono (by decide) (by decide)).cons (f4.mono (by simp) (by decide))).cons (f5.mono (by decide) (by decide))
  have F12 : hs_fr tP' tA' s s2 := b4.mono (by decide) (by decide)
  refine ⟨s5, m5, m', w', pr0, b2, b5, hm', ⟨UC_fr U4 f5 (by decide), UM_fr (UM_fr W b5 (by decide)) fm (by decide), by rw [hs5]; simp only [hs_I_pI, hs_I_pA, hs_A_pI, hs_A_pA, and_true, true_and, and_false, false_and, and_self, eq_self, Nat.reduceEqDiff, ↓reduceIte], by rw [hm']; simp only [hs_I_pI, hs_I_pA, hs_A_pI, hs_A_pA, and_true, true_and, and_false, false_and, and_self, eq_self, Nat.reduceEqDiff, ↓reduceIte], ?_, LR_fr (LR_fr hL b4 b5 (by decide) (by decide)) F25 fm (by decide) (by decide)⟩, OU_fr b3 F25 fm (by decide) (by decide), b6, F12.cons (F25.mono (by decide) (by decide)), (b5.mono (by decide) (by decide)).cons (fm.mono (by decide) (by decide))⟩
  have z1 : ¬ d0 = d0 + 1 := by omega
  have y1 : ¬ n0 = n0 + 1 := by omega
  have y2 : ¬ n0 = n0 + 2 := by omega
  have y4 : ¬ n0 = n0 + 3 := by omega
  have y3 : ¬ n0 + 1 = n0 + 2 := by omega
  have y5 : ¬ n0 + 1 = n0 + 3 := by omega
  have y6 : ¬ n0 + 2 = n0 + 3 := by omega
  refine ⟨d0 + 1, n0 + 3, rfl, by unfold gn; rw [if_neg (show ¬ (0 : Nat) = 1 by decide)], rf.1, rf.2, by rw [hs5]; simp only [hs_I_pI, hs_I_pA, hs_A_pI, hs_A_pA, and_true, true_and, and_false, false_and, and_self, eq_self, Nat.reduceEqDiff, ↓reduceIte], show rk f + (d0 + 1) ≤ 4001 by omega, Or.inl ⟨rfl, alf A (ρM y), wM.1, q3, by rw [hm']; simp only [hs_I_pI, hs_I_pA, hs_A_pI, hs_A_pA, and_true, true_and, and_false, false_and, and_self, eq_self, Nat.reduceEqDiff, ↓reduceIte]⟩, d0, n0, rfl, by unfold gn; rw [if_pos rfl, if_neg (show ¬ ash A x = 3 by omega)], hx, ex, ?_, hrk, Or.inr (Or.inr (Or.inl ⟨rfl, a, by rw [hm']; simp only [hs_I_pI, hs_I_pA, hs_A_pI, hs_A_pA, and_true, true_and, and_false, false_and, and_self, eq_self, Nat.reduceEqDiff, ↓reduceIte, y1, y2, y4], ⟨art A (ρM y), wM.2, q4, by rw [hm']; simp only [hs_I_pI, hs_I_pA, hs_A_pI, hs_A_pA, and_true, true_and, and_false, false_and, and_self, eq_self, Nat.reduceEqDiff, ↓reduceIte, y3, y5]⟩, by rw [hm']; simp only [hs_I_pI, hs_I_pA, hs_A_pI, hs_A_pA, and_true, true_and, and_false, false_and, and_self, eq_self, Nat.reduceEqDiff, ↓reduceIte, y6]⟩)), SK_fr L d0 n0 hK g36 g27⟩
  rw [hs5]
  simp only [hs_I_pI, hs_I_pA, hs_A_pI, hs_A_pA, and_true, true_and, and_false, false_and, and_self, eq_self, Nat.reduceEqDiff, ↓reduceIte, z1]
  rw [f4.2 36 (by decide), hs3]
  simp only [hs_I_pI, hs_I_pA, hs_A_pI, hs_A_pA, and_true, true_and, and_false, false_and, and_self, eq_self, Nat.reduceEqDiff, ↓reduceIte]
/-- a function, behind its first part -/
theorem W_fun1 {s m : hp_S} {A : AA} {R : Nat} {ρC dC ρM dM σ rk : Nat → Nat} {x y : Nat} {L : List (Nat × Nat)} {d0 n0 c w G G' : Nat} (hE : WE A R ρC ρM σ rk) (U : UC s A R ρC dC) (W : UM m A R ρM dM σ) (h3 : hs_I s 41 3 = nI d0) (h40 : hs_I m 0 40 = nI (n0 + 1)) (hK : SK s m A R ρC σ rk L d0 n0) (hL : LR s m R ρC ρM σ c) (hO : OU s m w) (hx : x < R) (ex : ρC x = x) (hrk : rk x + d0 ≤ 4001) (hy : y < R) (ey : ρC y = ρC (art A x)) (h27 : hs_A m 27 n0 = nI (σ y)) (a : ash A x = 3) (hG : 20000 ≤ G) (hG' : 20000 ≤ G') : ∃ s' m' w', f_C_X8_writeFunction_41 G (nI x) (nI 1) s = some s' ∧ f_M_X11_writeWord_0 G' (if ash A (ρC (alf A x)) = 3 then 176633495072 else 539835936) m = some m' ∧ WD s' m' A R ρC dC ρM dM σ rk ((ρC (art A x), 0) :: L) (d0 + 1) (n0 + 1) c ∧ OU s' m' w' ∧ (w' = 4000 ∨ w + 4 ≤ w') ∧ w ≤ w' ∧ hs_fr tP' tA' s s' ∧ hs_fr rP' rA' m m' := by
  have hE' := hE
  obtain ⟨hσ, hR, hW, DC, DM, agr, rkb, rkd⟩ := hE'
  have sb := SK_b _ _ _ hK
  have wx := (hW x hx).2 (by omega)
  have rf := DC.1 _ wx.1
  have rr := DC.1 _ wx.2
  obtain ⟨rk1, rk2⟩ := rkd x hx ex (by omega)
  obtain ⟨f, hf⟩ : ∃ f, f = ρC (alf A x) := ⟨_, rfl⟩
  obtain ⟨r, hr⟩ : ∃ r, r = ρC (art A x) := ⟨_, rfl⟩
  rw [← hf] at rf rk1 ⊢
  rw [← hr] at rr rk2 ey ⊢
  obtain ⟨k1, k2⟩ := UC_rt U hx ex
  obtain ⟨k3, k4⟩ := k2 (by omega)
  obtain ⟨s1, a1, U1, f1⟩ := C_rootOf (F := G) U wx.1 (by omega)
  rw [← hf] at a1
  have O1 := OU_fr hO f1 (hs_fr.rf (s := m) (P := []) (As := [])) (by decide) (by decide)
  obtain ⟨s2, m', w', b1, b2, b3, b4, b5, b6⟩ : ∃ s' m' w', f_C_X3_addText_39_str G (if ash A f = 3 then 3 else 4) s1 = some s' ∧ f_M_X11_writeWord_0 G' (if ash A f = 3 then 176633495072 else 539835936) m = some m' ∧ OU s' m' w' ∧ hs_fr oP oA s1 s' ∧ hs_fr pP pA' m m' ∧ (w' = 4000 ∨ w + 4 ≤ w') := by
    by_cases e : ash A f = 3
    · obtain ⟨s', m', w', g1, g2, g3, g4, g5, g6⟩ := J_text (G := G) (G' := G') (i := 3) O1 (by omega) (by omega) wd_all.2.2.2.2.2.2.1 (by omega) (by omega)
      have : (tx_L 3).length = 5 := by decide
      exact ⟨s', m', w', by rw [if_pos e]; exact g1, by rw [if_pos e]; exact g2, g3, g4, g5, by omega⟩
    · obtain ⟨s', m', w', g1, g2, g3, g4, g5, g6⟩ := J_text (G := G) (G' := G') (i := 4) O1 (by omega) (by omega) wd_all.2.2.2.2.2.1 (by omega) (by omega)
      have : (tx_L 4).length = 4 := by decide
      exact ⟨s', m', w', by rw [if_neg e]; exact g1, by rw [if_neg e]; exact g2, g3, g4, g5, by omega⟩
  have U2 := UC_fr U1 b4 (by decide)
  have e3 : hs_I s2 41 3 = nI d0 := by rw [b4.1 _ _ (by decide), f1.1 _ _ (by decide)]; exact h3
  obtain ⟨i1, i2⟩ := UC_rt U2 hx ex
  obtain ⟨i3, i4⟩ := i2 (by omega)
  obtain ⟨s4, c1, U4, f4⟩ := C_push41 (G := G) (d := d0) (y := art A x) U2 e3 (by omega) wx.2 (by omega)
  rw [← hr] at c1
  obtain ⟨s5, hs5⟩ : ∃ s5, s5 = hs_pI (hs_pA s4 36 d0 (nI (r * 3 + 0))) 41 3 (nI (d0 + 1)) := ⟨_, rfl⟩
  rw [← hs5] at c1
  have f5 : hs_fr [(41, 3)] [36] s4 s5 := by rw [hs5]; exact (hs_fr_pA (by decide)).cons (hs_fr_pI (by decide))
  have kf : f_C_X9_kind_31 (nI f) s1 = some (nI (ck (ash A f)), s1) := by rw [C_k31 U1.1 hR rf.1, (UC_rt U1 rf.1 rf.2).1]
  have wf := (hW f rf.1).1
  have ckb : ck (ash A f) < 10 := by unfold ck; split <;> omega
  have fun1 := C_fun1 (x := x) (by rw [C_l31 U.1 hR hx, k3]) a1 kf ckb (s2 := s2) (by simp only [ck_4]; exact b1) (by rw [C_r31 U2.1 hR hx, i4]) c1
  have g36 : ∀ i, i < d0 → hs_A s5 36 i = hs_A s 36 i := by
    intro i hi
    have z1 : ¬ i = d0 := by omega
    rw [hs5]
    simp only [hs_I_pI, hs_I_pA, hs_A_pI, hs_A_pA, and_true, true_and, and_false, false_and, and_self, eq_self, Nat.reduceEqDiff, ↓reduceIte, z1]
    rw [f4.2 36 (by decide), b4.2 36 (by decide), f1.2 36 (by decide)]
  have F25 : hs_fr [(41, 3)] [33, 36] s2 s5 := (f4.mono (by simp) (by decide)).cons (f5.mono (by decide) (by decide))
  have F12 : hs_fr tP' tA' s s2 := (f1.mono (by simp) (by decide)).cons (b4.mono (by decide) (by decide))
  have rfl' : hs_fr [] [] m' m' := hs_fr.rf
  refine ⟨s5, m', w', fun1, b2, ⟨UC_fr U4 f5 (by decide), UM_fr W b5 (by decide), by rw [hs5]; simp only [hs_I_pI, hs_I_pA, hs_A_pI, hs_A_pA, and_true, true_and, and_false, false_and, and_self, eq_self, Nat.reduceEqDiff, ↓reduceIte], by rw [b5.1 _ _ (by decide)]; exact h40, ?_, LR_fr (LR_fr (LR_fr hL f1 (hs_fr.rf (s := m) (P := []) (As := [])) (by decide) (by decide)) b4 b5 (by decide) (by decide)) F25 rfl' (by decide) (by decide)⟩, OU_fr b3 F25 rfl' (by decide) (by decide), b6, by have := hO.1; omega, F12.cons (F25.mono (by decide) (by decide)), b5.mono (by decide) (by decide)⟩
  exact ⟨d0, n0, rfl, by unfold gn; rw [if_neg (show ¬ (0 : Nat) = 1 by decide)], rr.1, rr.2, by rw [hs5]; simp only [hs_I_pI, hs_I_pA, hs_A_pI, hs_A_pA, and_true, true_and, and_false, false_and, and_self, eq_self, Nat.reduceEqDiff, ↓reduceIte], show rk r + d0 ≤ 4001 by omega, Or.inl ⟨rfl, y, hy, ey, by rw [b5.2 27 (by decide)]; exact h27⟩, SK_fr L d0 n0 hK g36 (fun i _ => b5.2 27 (by decide) i)⟩
/-- a pair, between its parts -/
theorem W_pr1 {s m : hp_S} {A : AA} {R : Nat} {ρC dC ρM dM σ rk : Nat → Nat} {x y : Nat} {L : List (Nat × Nat)} {d0 n0 c w G G' : Nat} (hE : WE A R ρC ρM σ rk) (U : UC s A R ρC dC) (W : UM m A R ρM dM σ) (h3 : hs_I s 41 3 = nI d0) (h40 : hs_I m 0 40 = nI (n0 + 2)) (hK : SK s m A R ρC σ rk L d0 n0) (hL : LR s m R ρC ρM σ c) (hO : OU s m w) (hx : x < R) (ex : ρC x = x) (hrk : rk x + d0 ≤ 4001) (hy : y < R) (ey : ρC y = ρC (art A x)) (h27 : hs_A m 27 n0 = -4) (h271 : hs_A m 27 (n0 + 1) = nI (σ y)) (a : ash A x = 4) (hG : 20000 ≤ G) (hG' : 20000 ≤ G') : ∃ s' m' w', f_C_X8_writePair_41 G (nI x) (nI 1) s = some s' ∧ f_M_X11_writeWord_0 G' 11296 m = some m' ∧ WD s' m' A R ρC dC ρM dM σ rk ((ρC (art A x), 0) :: (x, 2) :: L) (d0 + 2) (n0 + 2) c ∧ OU s' m' w' ∧ w ≤ w' ∧ hs_fr tP' tA' s s' ∧ hs_fr rP' rA' m m' := by
  have hE' := hE
  obtain ⟨hσ, hR, hW, DC, DM, agr, rkb, rkd⟩ := hE'
  have sb := SK_b _ _ _ hK
  have wx := (hW x hx).2 (by omega)
  have rr := DC.1 _ wx.2
  obtain ⟨rk1, rk2⟩ := rkd x hx ex (by omega)
  obtain ⟨r, hr⟩ : ∃ r, r = ρC (art A x) := ⟨_, rfl⟩
  rw [← hr] at rr rk2 ey ⊢
  obtain ⟨s2, m', w', b1, b2, b3, b4, b5, b6⟩ := J_text (G := G) (G' := G') (i := 5) hO (by omega) (by omega) wd_all.2.2.2.2.2.2.2.1 (by omega) (by omega)
  have U2 := UC_fr U b4 (by decide)
  have e3 : hs_I s2 41 3 = nI d0 := by rw [b4.1 _ _ (by decide)]; exact h3
  have p1 := C_pushA (s := s2) (x := x) (g := 2) e3 (by omega) (by omega) (by omega)
  obtain ⟨s3, hs3⟩ : ∃ s3, s3 = hs_pI (hs_pA s2 36 d0 (nI (x * 3 + 2))) 41 3 (nI (d0 + 1)) := ⟨_, rfl⟩
  rw [← hs3] at p1
  have f3 : hs_fr [(41, 3)] [36] s2 s3 := by rw [hs3]; exact (hs_fr_pA (by decide)).cons (hs_fr_pI (by decide))
  have U3 := UC_fr U2 f3 (by decide)
  obtain ⟨k1, k2⟩ := UC_rt U3 hx ex
  obtain ⟨k3, k4⟩ := k2 (by omega)
  obtain ⟨s4, c1, U4, f4⟩ := C_push41 (G := G) (d := d0 + 1) (y := art A x) U3 (by rw [hs3]; simp only [hs_I_pI, hs_I_pA, hs_A_pI, hs_A_pA, and_true, true_and, and_false, false_and, and_self, eq_self, Nat.reduceEqDiff, ↓reduceIte]) (by omega) wx.2 (by omega)
  rw [← hr] at c1
  obtain ⟨s5, hs5⟩ : ∃ s5, s5 = hs_pI (hs_pA s4 36 (d0 + 1) (nI (r * 3 + 0))) 41 3 (nI (d0 + 1 + 1)) := ⟨_, rfl⟩
  rw [← hs5] at c1
  have f5 : hs_fr [(41, 3)] [36] s4 s5 := by rw [hs5]; exact (hs_fr_pA (by decide)).cons (hs_fr_pI (by decide))
  have pr1 := C_pr1 (x := x) b1 p1 (by rw [C_r31 U3.1 hR hx, k4]) c1
  have g36 : ∀ i, i < d0 → hs_A s5 36 i = hs_A s 36 i := by
    intro i hi
    have z1 : ¬ i = d0 := by omega
    have z2 : ¬ i = d0 + 1 := by omega
    rw [hs5]
    simp only [hs_I_pI, hs_I_pA, hs_A_pI, hs_A_pA, and_true, true_and, and_false, false_and, and_self, eq_self, Nat.reduceEqDiff, ↓reduceIte, z2]
    rw [f4.2 36 (by decide), hs3]
    simp only [hs_I_pI, hs_I_pA, hs_A_pI, hs_A_pA, and_true, true_and, and_false, false_and, and_self, eq_self, Nat.reduceEqDiff, ↓reduceIte, z1]
    rw [b4.2 36 (by decide)]
  have F25 : hs_fr [(41, 3)] [33, 36] s2 s5 := ((f3.mono (by decide) (by decide)).cons (f4.mono (by simp) (by decide))).cons (f5.mono (by decide) (by decide))
  have F12 : hs_fr tP' tA' s s2 := b4.mono (by decide) (by decide)
  have rfl' : hs_fr [] [] m' m' := hs_fr.rf
  refine ⟨s5, m', w', pr1, b2, ⟨UC_fr U4 f5 (by decide), UM_fr W b5 (by decide), by rw [hs5]; simp only [hs_I_pI, hs_I_pA, hs_A_pI, hs_A_pA, and_true, true_and, and_false, false_and, and_self, eq_self, Nat.reduceEqDiff, ↓reduceIte], by rw [b5.1 _ _ (by decide)]; exact h40, ?_, LR_fr (LR_fr hL b4 b5 (by decide) (by decide)) F25 rfl' (by decide) (by decide)⟩, OU_fr b3 F25 rfl' (by decide) (by decide), by have := hO.1; omega, F12.cons (F25.mono (by decide) (by decide)), b5.mono (by decide) (by decide)⟩
  have z1 : ¬ d0 = d0 + 1 := by omega
  refine ⟨d0 + 1, n0 + 1, rfl, by unfold gn; rw [if_neg (show ¬ (0 : Nat) = 1 by decide)], rr.1, rr.2, by rw [hs5]; simp only [hs_I_pI, hs_I_pA, hs_A_pI, hs_A_pA, and_true, true_and, and_false, false_and, and_self, eq_self, Nat.reduceEqDiff, ↓reduceIte], show rk r + (d0 + 1) ≤ 4001 by omega, Or.inl ⟨rfl, y, hy, ey, by rw [b5.2 27 (by decide)]; exact h271⟩, d0, n0, rfl, by unfold gn; rw [if_neg (show ¬ (2 : Nat) = 1 by decide)], hx, ex, ?_, hrk, Or.inr (Or.inr (Or.inr ⟨rfl, a, by rw [b5.2 27 (by decide)]; exact h27⟩)), SK_fr L d0 n0 hK g36 (fun i _ => b5.2 27 (by decide) i)⟩
  rw [hs5]
  simp only [hs_I_pI, hs_I_pA, hs_A_pI, hs_A_pA, and_true, true_and, and_false, false_and, and_self, eq_self, Nat.reduceEqDiff, ↓reduceIte, z1]
  rw [f4.2 36 (by decide), hs3]
  simp only [hs_I_pI, hs_I_pA, hs_A_pI, hs_A_pA, and_true, true_and, and_false, false_and, and_self, eq_self, Nat.reduceEqDiff, ↓reduceIte]
