/-! RUNS of the reference's reader, and what a rule of the class comes to -/
def rn (m m' : hp_S) : Prop := ∃ k, ∀ F, 1100 ≤ F → l_M_X11_parse_0_16 (F + k) m = l_M_X11_parse_0_16 F m'
theorem rn.rf {m : hp_S} : rn m m := ⟨0, fun _ _ => rfl⟩
theorem rn.tr {a b c : hp_S} (h : rn a b) (g : rn b c) : rn a c := by
  obtain ⟨k, h⟩ := h
  obtain ⟨k2, g⟩ := g
  refine ⟨k2 + k, fun F hF => ?_⟩
  rw [← Nat.add_assoc, h (F + k2) (by omega), g F hF]
theorem rn_begins {m m' : hp_S} (hb : hs_I m 0 50 = nI 0) (hm : hs_I m 0 55 = nI 0) (h : ∀ F, 1100 ≤ F → f_M_X11_begins_0 F m = some m') : rn m m' := by
  refine ⟨1, fun F hF => ?_⟩
  rw [l_M_X11_parse_0_16.eq_2]
  simp (disch := omega) only [↓reduceIte, z_lit, z_m1, z_gd, z_le, z_lt, z_eq, z_em, z_me, z_ml, z_mle, z_lm, z_lem, z_pos, z_sub, nI_add, nI_clamp, ib_nI, pm_let, pm_bd, pm_b1, if_true, if_false, ite_true, ite_false, Nat.not_lt_zero, Nat.zero_le, hb, hm, h F hF]
  simp
theorem rn_atom {m m' : hp_S} (hb : hs_I m 0 50 = nI 0) (hm : hs_I m 0 55 = nI 1) (h : ∀ F, 1100 ≤ F → f_M_X11_atom_0 F m = some m') : rn m m' := by
  refine ⟨1, fun F hF => ?_⟩
  rw [l_M_X11_parse_0_16.eq_2]
  simp (disch := omega) only [↓reduceIte, z_lit, z_m1, z_gd, z_le, z_lt, z_eq, z_em, z_me, z_ml, z_mle, z_lm, z_lem, z_pos, z_sub, nI_add, nI_clamp, ib_nI, pm_let, pm_bd, pm_b1, if_true, if_false, ite_true, ite_false, Nat.not_lt_zero, Nat.zero_le, hb, hm, h F hF]
  simp
theorem rn_called {m m' : hp_S} (hb : hs_I m 0 50 = nI 0) (hm : hs_I m 0 55 = nI 2) (h : ∀ F, 1100 ≤ F → f_M_X11_called_0 F m = some m') : rn m m' := by
  refine ⟨1, fun F hF => ?_⟩
  rw [l_M_X11_parse_0_16.eq_2]
  simp (disch := omega) only [↓reduceIte, z_lit, z_m1, z_gd, z_le, z_lt, z_eq, z_em, z_me, z_ml, z_mle, z_lm, z_lem, z_pos, z_sub, nI_add, nI_clamp, ib_nI, pm_let, pm_bd, pm_b1, if_true, if_false, ite_true, ite_false, Nat.not_lt_zero, Nat.zero_le, hb, hm, h F hF]
  simp
theorem rn_ended {m m' : hp_S} (hb : hs_I m 0 50 = nI 0) (hm : hs_I m 0 55 = nI 3) (h : ∀ F, 1100 ≤ F → f_M_X11_ended_0 F m = some m') : rn m m' := by
  refine ⟨1, fun F hF => ?_⟩
  rw [l_M_X11_parse_0_16.eq_2]
  simp (disch := omega) only [↓reduceIte, z_lit, z_m1, z_gd, z_le, z_lt, z_eq, z_em, z_me, z_ml, z_mle, z_lm, z_lem, z_pos, z_sub, nI_add, nI_clamp, ib_nI, pm_let, pm_bd, pm_b1, if_true, if_false, ite_true, ite_false, Nat.not_lt_zero, Nat.zero_le, hb, hm, h F hF]
  simp
def rP : List (Nat × Nat) := [(0, 4), (0, 5), (0, 6), (0, 7), (0, 11), (0, 12), (0, 23), (0, 50), (0, 55), (0, 56)]
def rA : List Nat := [3, 4, 5, 6, 7, 8, 9, 10, 11, 12, 13, 14, 15, 34, 35, 36, 37]
theorem GF_mP {T : Nat → Nat} {n K : Nat} {m : hp_S} {p : Nat} {a x : Int32} : hs_fr rP rA m (mP T n K m p a x) := by
  unfold mP mL
  exact (((hs_fr_pA (by decide)).cons (hs_fr_pA (by decide))).cons ((hs_fr_pA (by decide)).cons (hs_fr_pI (by decide)))).cons ((hs_fr_pI (by decide)).cons ((hs_fr_pI (by decide)).cons (hs_fr_pI (by decide))))
theorem GF_mM {m : hp_S} {q : Nat} {k : Int32} : hs_fr rP rA m (mM m q k) := by
  unfold mM
  exact (((hs_fr_pA (by decide)).cons (hs_fr_pA (by decide))).cons ((hs_fr_pA (by decide)).cons (hs_fr_pA (by decide)))).cons ((hs_fr_pA (by decide)).cons (hs_fr_pI (by decide)))
theorem GF_mB {m : hp_S} : hs_fr rP rA m (mB m) := by
  unfold mB
  exact (hs_fr_pI (by decide)).cons (hs_fr_pI (by decide))
theorem GF_mE {m : hp_S} {d : Nat} {w v : Int32} : hs_fr rP rA m (mE m d w v) := by
  unfold mE
  exact (((hs_fr_pA (by decide)).cons (hs_fr_pA (by decide))).cons ((hs_fr_pA (by decide)).cons (hs_fr_pA (by decide)))).cons ((hs_fr_pI (by decide)).cons (hs_fr_pI (by decide)))
theorem CF_cT {s : hp_S} {p : Nat} {a : Int32} : hs_fr cP cA s (cT s p a) := (hs_fr_pA (by decide)).cons (hs_fr_pI (by decide))
theorem CF_cN {s : hp_S} {p q : Nat} {k f : Int32} : hs_fr cP cA s (cN s p q k f) := by
  unfold cN
  exact ((((hs_fr_pI (by decide)).cons (hs_fr_pA (by decide))).cons ((hs_fr_pA (by decide)).cons (hs_fr_pA (by decide)))).cons ((hs_fr_pA (by decide)).cons ((hs_fr_pA (by decide)).cons (hs_fr_pA (by decide))))).cons CF_cT
def BF (m m' : hp_S) (p q : Nat) : Prop := (∀ a j, 6 ≤ a → a ≤ 15 → j < q → hs_A m' a j = hs_A m a j) ∧ ∀ t, t < p → hs_A m' 5 t = hs_A m 5 t
theorem BF.rf {m : hp_S} {p q : Nat} : BF m m p q := ⟨fun _ _ _ _ _ => rfl, fun _ _ => rfl⟩
theorem BF.tr {a b c : hp_S} {p q p' q' : Nat} (h : BF a b p q) (g : BF b c p' q') (hp : p ≤ p') (hq : q ≤ q') : BF a c p q :=
  ⟨fun x j h1 h2 h3 => (g.1 x j h1 h2 (by omega)).trans (h.1 x j h1 h2 h3), fun t ht => (g.2 t (by omega)).trans (h.2 t ht)⟩
def SF (m m' : hp_S) (d e : Nat) : Prop := (∀ i, i < d → hs_A m' 34 i = hs_A m 34 i ∧ hs_A m' 35 i = hs_A m 35 i) ∧ ∀ i, i < e → hs_A m' 36 i = hs_A m 36 i ∧ hs_A m' 37 i = hs_A m 37 i
theorem SF.rf {m : hp_S} {d e : Nat} : SF m m d e := ⟨fun _ _ => ⟨rfl, rfl⟩, fun _ _ => ⟨rfl, rfl⟩⟩
theorem SF.tr {a b c : hp_S} {d e d' e' : Nat} (h : SF a b d e) (g : SF b c d' e') (hd : d ≤ d') (he : e ≤ e') : SF a c d e :=
  ⟨fun i hi => ⟨(g.1 i (by omega)).1.trans (h.1 i hi).1, (g.1 i (by omega)).2.trans (h.1 i hi).2⟩, fun i hi => ⟨(g.2 i (by omega)).1.trans (h.2 i hi).1, (g.2 i (by omega)).2.trans (h.2 i hi).2⟩⟩
/-- refused by both, at the same token -/
def DE (T : Nat → Nat) (n K : Nat) (s s' m' : hp_S) : Prop := hs_fr cP cA s s' ∧ hs_I s' 7 4 = hs_I s 7 4 ∧ ∃ t, t ≤ K ∧ hs_I s' 7 7 = nI t ∧ hs_I m' 0 50 = nI 1 ∧ hs_I m' 0 4 = nI (tk_p T n t)
/-- read by both -/
def AL (T : Nat → Nat) (n K : Nat) (s m s' m' : hp_S) (p q z : Nat) (sc : Nat → Nat) (d md : Nat) (x : Int32) : Prop :=
  ∃ p' q' v, p < p' ∧ PQ T n K s' m' p' q' ∧ un s' m' q' ∧ SCp s' z sc p' ∧ (∀ t, t < p → hs_A s' 13 t = hs_A s 13 t) ∧ hs_fr cP cA s s' ∧ BF m m' p q ∧
    hs_I m' 0 23 = nI d ∧ hs_I m' 0 55 = nI md ∧ hs_I m' 0 56 = nI v ∧ x = nI (fj m' v) ∧ q ≤ v ∧ v < q' ∧ SG T n K m' p q p' q' ∧ NM T n s' m' q q' z sc
def EE (k N : Nat) (T : Nat → Nat) (n K d : Nat) : Prop := ∀ (s m : hp_S) (p q z : Nat) (sc : Nat → Nat) (w v : Int32), PQ T n K s m p q → un s m q → SCp s z sc p → z ≤ d → hs_I m 0 23 = nI d → ∃ m1, f_M_X11_enter_0 w v m = some m1 ∧ ∃ x s' m', f_C_rec k N 0 (nI (d + 1)) (nI 0) (nI 0) s = some (x, s') ∧ rn m1 m' ∧ hs_fr rP rA m m' ∧
  (DE T n K s s' m' ∨ (AL T n K s m s' m' p q z sc (d + 1) 3 x ∧ SF m m' d d ∧ hs_A m' 34 d = w ∧ hs_A m' 35 d = v))
theorem DE.pre {T : Nat → Nat} {n K : Nat} {s s1 s' m' : hp_S} (h : DE T n K s1 s' m') (f : hs_fr cP cA s s1) (g : hs_I s1 7 4 = hs_I s 7 4) : DE T n K s s' m' := ⟨f.cons h.1, h.2.1.trans g, h.2.2⟩
theorem DE.post {T : Nat → Nat} {n K : Nat} {s s1 s' m' : hp_S} (h : DE T n K s s1 m') (f : Dr s1 s') : DE T n K s s' m' := by
  obtain ⟨h1, h2, t, h3, h4, h5⟩ := h
  exact ⟨h1.cons f.1, f.2.2.trans h2, t, h3, f.2.1.trans h4, h5⟩
theorem DE.dd {T : Nat → Nat} {n K z : Nat} {s s' m' : hp_S} (h : DE T n K s s' m') (hK : K ≤ 500) (hz : z ≤ 20) (h4 : hs_I s 7 4 = nI z) : Dd s' := by
  obtain ⟨h1, h2, t, h3, h5, -⟩ := h
  exact ⟨by rw [h5]; intro q; rw [z_em (by omega)] at q; exact q, z, hz, h2.trans h4⟩
theorem mB_DE {T : Nat → Nat} {n K p : Nat} {s m : hp_S} (h7 : hs_I m 0 7 = nI (tk_p T n p)) (hp : p ≤ K) : DE T n K s (cR s p) (mB m) := by
  refine ⟨hs_fr_pI (by decide), by simp only [cR, hs_I_pI, hs_I_pA, hs_A_pI, hs_A_pA, and_true, true_and, and_false, false_and, and_self, eq_self, Nat.reduceEqDiff, ↓reduceIte], p, hp, by simp only [cR, hs_I_pI, hs_I_pA, hs_A_pI, hs_A_pA, and_true, true_and, and_false, false_and, and_self, eq_self, Nat.reduceEqDiff, ↓reduceIte], by simp only [mB, hs_I_pI, hs_I_pA, hs_A_pI, hs_A_pA, and_true, true_and, and_false, false_and, and_self, eq_self, Nat.reduceEqDiff, ↓reduceIte], ?_⟩
  simp only [mB, hs_I_pI, hs_I_pA, hs_A_pI, hs_A_pA, and_true, true_and, and_false, false_and, and_self, eq_self, Nat.reduceEqDiff, ↓reduceIte]
  exact h7
theorem tk_K_p {T : Nat → Nat} {n K p : Nat} (h : tk_K T n K p ≠ 0) : p < K := by
  unfold tk_K at h
  split at h
  · assumption
  · exact absurd rfl h
theorem k_M_inj {a b : Nat} (ha : a < 22) (hb : b < 22) (h : k_M a = k_M b) : a = b := by
  unfold k_M at h
  repeat' split at h
  all_goals omega
theorem k_M_lt {a : Nat} (ha : a < 22) : k_M a < 22 := by
  unfold k_M
  repeat' split
  all_goals omega
/-- both take a token, or both refuse it -/
theorem PQ_take {T : Nat → Nat} {n K : Nat} {s m : hp_S} {p q c : Nat} {a b : Int32} (h : PQ T n K s m p q) (hk : tk_K T n K p = c) (hc : 2 ≤ c) (hr : cr m q a b) : p < K ∧ f_C_X4_expect_7 (nI c) a s = some (cT s p a) ∧ ∃ x, (∀ k, 1100 ≤ k → f_M_X11_take_0 k (nI (k_M c)) b m = some (nI p, mP T n K m p b x)) ∧ (∀ k, 1100 ≤ k → f_M_X11_pass_0 k b m = some (nI p, mP T n K m p b x)) ∧ PQ T n K (cT s p a) (mP T n K m p b x) (p + 1) q := by
  obtain ⟨h1, h2, h3, h4, h5, h6, h7, h8⟩ := id h
  have hT := TK_of h1
  have hp : p < K := tk_K_p (T := T) (n := n) (by omega)
  obtain ⟨x, e1, e2⟩ := M_pass (a := b) hT h2 hp (h6.2.2.2.2.2 (by omega) hp) h6.2.2.2.2.1 h6.1
  refine ⟨hp, C_expect h1 h5.1 h5.2.2 hp hk, x, fun k hk2 => ?_, e1, PQ_pass h hp hr e2⟩
  unfold f_M_X11_take_0
  have e1 := e1 k hk2
  simp (disch := omega) only [↓reduceIte, z_lit, z_m1, z_gd, z_le, z_lt, z_eq, z_em, z_me, z_ml, z_mle, z_lm, z_lem, z_pos, z_sub, nI_add, nI_clamp, ib_nI, pm_let, pm_bd, pm_b1, if_true, if_false, ite_true, ite_false, Nat.not_lt_zero, Nat.zero_le, h6.2.2.2.1, hk, M_need1, e1]
  simp
theorem PQ_take0 {T : Nat → Nat} {n K : Nat} {s m : hp_S} {p q c : Nat} (a b : Int32) (h : PQ T n K s m p q) (hk : tk_K T n K p ≠ c) (hc : c < 22) : f_C_X4_expect_7 (nI c) a s = some (cR s p) ∧ (∀ k, f_M_X11_take_0 k (nI (k_M c)) b m = some (nI 0, mB m)) ∧ DE T n K s (cR s p) (mB m) := by
  obtain ⟨h1, h2, h3, h4, h5, h6, h7, h8⟩ := id h
  have hl := tk_K_lt T n K p
  refine ⟨C_expect0 h1 h5.1 h5.2.2 h3 hk (by omega), fun k => ?_, mB_DE h6.2.2.2.2.1 h3⟩
  exact M_take0 h6.2.2.2.1 (fun q => hk (k_M_inj hl hc q)) h6.2.2.1 (by have := k_M_lt hl; omega) (by have := k_M_lt hc; omega)
/-- both make a node at this token, or both refuse it -/
theorem PQ_mk {T : Nat → Nat} {n K : Nat} {s m : hp_S} {p q k : Nat} {f v : Int32} (h : PQ T n K s m p q) (hp : p < K) (h1' : tk_K T n K p ≠ 1) (hq : q < 100) (hk : nk k) (hr : cr m q f v) : f_C_X4_beginNode_7 (nI k) f s = some (nI p, cN s p q (nI k) f) ∧ f_M_X11_make_0 (nI (kn k)) m = some (nI q, mM m q (nI (kn k))) ∧ ∃ x, (∀ F, 1100 ≤ F → f_M_X11_pass_0 F (nI q) (mM m q (nI (kn k))) = some (nI p, mP T n K (mM m q (nI (kn k))) p (nI q) x)) ∧ (∀ F, 1100 ≤ F → f_M_X11_single_0 F (nI (kn k)) m = some (nI q, mS T n K m p q (nI (kn k)) x)) ∧ PQ T n K (cN s p q (nI k) f) (hs_pA (hs_pA (mP T n K (mM m q (nI (kn k))) p (nI q) x) 10 q (nI p)) 7 q v) (p + 1) (q + 1) := by
  obtain ⟨h1, h2, h3, h4, h5, h6, h7, h8⟩ := id h
  have hT := TK_of h1
  have g : ∀ j, j ≠ 12 → hs_I (mM m q (nI (kn k))) 0 j = hs_I m 0 j := by intro j hj; simp only [mM, hs_I_pI, hs_I_pA, hs_A_pI, hs_A_pA, and_true, true_and, and_false, false_and, and_self, eq_self, Nat.reduceEqDiff, ↓reduceIte, hj]
  obtain ⟨x, e1, e2⟩ := M_pass (m := mM m q (nI (kn k))) (a := nI q) hT (M_tx_mM h2) hp (by rw [g 5 (by decide)]; exact h6.2.2.2.2.2 h1' hp) (by rw [g 7 (by decide)]; exact h6.2.2.2.2.1) (by rw [g 11 (by decide)]; exact h6.1)
  refine ⟨C_beginNode h1 h5.1 h5.2.2 hp h5.2.1 hq, M_make h6.2.1 hq, x, e1, fun F hF => ?_, PQ_node h hp hq hk hr e2⟩
  have e1 := e1 F hF
  unfold f_M_X11_single_0
  simp (disch := omega) only [↓reduceIte, z_lit, z_m1, z_gd, z_le, z_lt, z_eq, z_em, z_me, z_ml, z_mle, z_lm, z_lem, z_pos, z_sub, nI_add, nI_clamp, ib_nI, pm_let, pm_bd, pm_b1, if_true, if_false, ite_true, ite_false, Nat.not_lt_zero, Nat.zero_le, M_make h6.2.1 hq, g 50, h6.2.2.1, e1, hs_I_pI, hs_I_pA, hs_A_pI, hs_A_pA, and_true, true_and, and_false, false_and, and_self, eq_self, Nat.reduceEqDiff, ↓reduceIte, mS]
theorem PQ_mk0 {T : Nat → Nat} {n K : Nat} {s m : hp_S} {p q : Nat} (k f : Int32) (kd : Int32) (h : PQ T n K s m p q) (hq : ¬ q < 100) : (∃ u, f_C_X4_beginNode_7 k f s = some (nI p, u) ∧ DE T n K s u (mB m) ∧ ∀ i, hs_A u 15 i = hs_A s 15 i) ∧ f_M_X11_make_0 kd m = some (nI 100, mB m) ∧ ∀ F, f_M_X11_single_0 F kd m = some (nI 100, mB m) := by
  obtain ⟨h1, h2, h3, h4, h5, h6, h7, h8⟩ := id h
  obtain ⟨u, u1, u2, u3, u4, u5⟩ := C_beginNode0 (k := k) (f := f) h1 h5.1 h5.2.2 h3 h5.2.1 (by omega) (by omega)
  refine ⟨⟨u, u1, ⟨u4, u3, p, h3, u2, by simp only [mB, hs_I_pI, hs_I_pA, hs_A_pI, hs_A_pA, and_true, true_and, and_false, false_and, and_self, eq_self, Nat.reduceEqDiff, ↓reduceIte], by simp only [mB, hs_I_pI, hs_I_pA, hs_A_pI, hs_A_pA, and_true, true_and, and_false, false_and, and_self, eq_self, Nat.reduceEqDiff, ↓reduceIte]; exact h6.2.2.2.2.1⟩, u5⟩, M_make0 h6.2.1 (by omega) (by omega) h6.2.2.1, fun F => M_single0 h6.2.1 (by omega) (by omega) h6.2.2.1⟩
