/-! BRACKETS -/
theorem rec_0 (k N : Nat) (a b c : Int32) (s : hp_S) : f_C_rec k (N + 1) 0 a b c s = f_C_X4_expression_7 (f_C_rec k N) k a s := by rw [f_C_rec.eq_2]; simp
theorem rec_1 (k N : Nat) (a b c : Int32) (s : hp_S) : f_C_rec k (N + 1) 1 a b c s = f_C_X4_function_7 (f_C_rec k N) k a s := by rw [f_C_rec.eq_2]; simp
theorem rec_2 (k N : Nat) (a b c : Int32) (s : hp_S) : f_C_rec k (N + 1) 2 a b c s = f_C_X4_let_7 (f_C_rec k N) k a s := by rw [f_C_rec.eq_2]; simp
theorem rec_3 (k N : Nat) (a b c : Int32) (s : hp_S) : f_C_rec k (N + 1) 3 a b c s = f_C_X4_expressionInScope_7 (f_C_rec k N) k a b s := by rw [f_C_rec.eq_2]; simp
theorem rec_4 (k N : Nat) (a b c : Int32) (s : hp_S) : f_C_rec k (N + 1) 4 a b c s = f_C_X4_choice_7 (f_C_rec k N) k a s := by rw [f_C_rec.eq_2]; simp
theorem rec_5 (k N : Nat) (a b c : Int32) (s : hp_S) : f_C_rec k (N + 1) 5 a b c s = f_C_X4_comparison_7 (f_C_rec k N) k a s := by rw [f_C_rec.eq_2]; simp
theorem rec_6 (k N : Nat) (a b c : Int32) (s : hp_S) : f_C_rec k (N + 1) 6 a b c s = f_C_X4_sum_7 (f_C_rec k N) k a s := by rw [f_C_rec.eq_2]; simp
theorem rec_7 (k N : Nat) (a b c : Int32) (s : hp_S) : f_C_rec k (N + 1) 7 a b c s = f_C_X4_call_7 (f_C_rec k N) k a s := by rw [f_C_rec.eq_2]; simp
theorem rec_8 (k N : Nat) (a b c : Int32) (s : hp_S) : f_C_rec k (N + 1) 8 a b c s = f_C_X4_atom_7 (f_C_rec k N) k a s := by rw [f_C_rec.eq_2]; simp
theorem rec_9 (k N : Nat) (a b c : Int32) (s : hp_S) : f_C_rec k (N + 1) 9 a b c s = f_C_X4_bracketed_7 (f_C_rec k N) k a s := by rw [f_C_rec.eq_2]; simp
theorem rec_10 (k N : Nat) (a b c : Int32) (s : hp_S) : f_C_rec k (N + 1) 10 a b c s = f_C_X4_pair_7 (f_C_rec k N) k a b c s := by rw [f_C_rec.eq_2]; simp
theorem C_atom9 {s : hp_S} {k : Nat} {R : Nat → Int32 → Int32 → Int32 → hp_S → Option (Int32 × hp_S)} {a x : Int32} {s1 : hp_S} (hk : f_C_X4_current_7 s = some (nI 17, s)) (h : R 9 a (nI 0) (nI 0) s = some (x, s1)) : f_C_X4_atom_7 R k a s = some (x, s1) := by
  unfold f_C_X4_atom_7
  simp only [hk, pm_bd]
  repeat rw [if_neg (by decide)]
  rw [if_pos (by decide)]
  have h' : R 9 a 0 0 s = some (x, s1) := h
  rw [h']
theorem C_brk {R : Nat → Int32 → Int32 → Int32 → hp_S → Option (Int32 × hp_S)} {k y d : Nat} {x : Int32} {s s1 s2 s3 : hp_S} (h1 : f_C_X4_take_7 nM s = some s1) (h2 : R 0 (nI (d + 1)) (nI 0) (nI 0) s1 = some (x, s2)) (h3 : f_C_X4_current_7 s2 = some (nI y, s2)) (hy : y ≠ 19) (hy2 : y < 100) (h4 : f_C_X4_expect_7 (nI 18) nM s2 = some s3) : f_C_X4_bracketed_7 R k (nI d) s = some (x, s3) := by
  unfold f_C_X4_bracketed_7
  simp (disch := omega) only [↓reduceIte, z_lit, z_m1, z_gd, z_le, z_lt, z_eq, z_em, z_me, z_ml, z_mle, z_lm, z_lem, z_pos, z_sub, nI_add, nI_clamp, ib_nI, pm_let, pm_bd, pm_b1, if_true, if_false, ite_true, ite_false, Nat.not_lt_zero, Nat.zero_le, h1, h2, h3, hy, h4]
theorem C_brk2 {R : Nat → Int32 → Int32 → Int32 → hp_S → Option (Int32 × hp_S)} {k d : Nat} {x y : Int32} {s s1 s2 s3 : hp_S} (h1 : f_C_X4_take_7 nM s = some s1) (h2 : R 0 (nI (d + 1)) (nI 0) (nI 0) s1 = some (x, s2)) (h3 : f_C_X4_current_7 s2 = some (nI 19, s2)) (h4 : R 10 (hs_I s 7 5) x (nI d) s2 = some (y, s3)) : f_C_X4_bracketed_7 R k (nI d) s = some (y, s3) := by
  unfold f_C_X4_bracketed_7
  simp (disch := omega) only [↓reduceIte, z_lit, z_m1, z_gd, z_le, z_lt, z_eq, z_em, z_me, z_ml, z_mle, z_lm, z_lem, z_pos, z_sub, nI_add, nI_clamp, ib_nI, pm_let, pm_bd, pm_b1, if_true, if_false, ite_true, ite_false, Nat.not_lt_zero, Nat.zero_le, h1, h2, h3, h4]
theorem C_pair1 {R : Nat → Int32 → Int32 → Int32 → hp_S → Option (Int32 × hp_S)} {k q o d : Nat} {f x : Int32} {s s3 s4 s5 s6 : hp_S} (h6 : hs_I s 7 6 = nI q) (hq : q < 100) (ho : o < 501) (h3 : f_C_X4_expect_7 (nI 19) (nI o) (cO s o q f) = some s3) (h4 : R 0 (nI (d + 1)) (nI 0) (nI 0) s3 = some (x, s4)) (h5 : f_C_X2_setSecond_8 (nI o) x s4 = some s5) (he : f_C_X4_expect_7 (nI 18) (nI o) s5 = some s6) : f_C_X4_pair_7 R k (nI o) f (nI d) s = some (nI o, s6) := by
  have c : ¬ 100 ≤ q := by omega
  have c2 : ¬ 501 ≤ o := by omega
  unfold cO at h3
  unfold f_C_X4_pair_7 f_C_X4_countNode_7 f_C_X4_isPlace
  simp (disch := omega) only [↓reduceIte, z_lit, z_m1, z_gd, z_le, z_lt, z_eq, z_em, z_me, z_ml, z_mle, z_lm, z_lem, z_pos, z_sub, nI_add, nI_clamp, ib_nI, pm_let, pm_bd, pm_b1, if_true, if_false, ite_true, ite_false, Nat.not_lt_zero, Nat.zero_le, h6, c, c2, C_begin ho, C_setFirst ho, h3, h4, h5, he]
  all_goals simp
theorem C_pair0 {R : Nat → Int32 → Int32 → Int32 → hp_S → Option (Int32 × hp_S)} {k q p o d z : Nat} {f : Int32} {s : hp_S} (hR : Dl R 0) (h5 : hs_I s 7 5 = nI p) (hp : p ≤ 500) (h6 : hs_I s 7 6 = nI q) (hq : 100 ≤ q) (hq2 : q < 200) (h7 : hs_I s 7 7 = nM) (ho : o < 501) (hz : z ≤ 20) (h4 : hs_I s 7 4 = nI z) : ∃ u, f_C_X4_pair_7 R k (nI o) f (nI d) s = some (nI o, u) ∧ Dr (cR s p) u := by
  have d0 : Dd (cR s p) := ⟨by simp only [cR, hs_I_pI, hs_I_pA, hs_A_pI, hs_A_pA, and_true, true_and, and_false, false_and, and_self, eq_self, Nat.reduceEqDiff, ↓reduceIte]; intro q; rw [z_em (by omega)] at q; exact q, z, hz, by simp only [cR, hs_I_pI, hs_I_pA, hs_A_pI, hs_A_pA, and_true, true_and, and_false, false_and, and_self, eq_self, Nat.reduceEqDiff, ↓reduceIte]; exact h4⟩
  obtain ⟨u1, e1, d1⟩ := C_begin_any (nI o) (nI 19) (cR s p)
  obtain ⟨u2, e2, d2⟩ := C_setFirst_any (nI o) f u1
  have d3 : Dr u2 (hs_pA u2 14 o (nI o)) := ⟨hs_fr_pA (by decide), by simp only [hs_I_pI, hs_I_pA, hs_A_pI, hs_A_pA, and_true, true_and, and_false, false_and, and_self, eq_self, Nat.reduceEqDiff, ↓reduceIte], by simp only [hs_I_pI, hs_I_pA, hs_A_pI, hs_A_pA, and_true, true_and, and_false, false_and, and_self, eq_self, Nat.reduceEqDiff, ↓reduceIte]⟩
  have D3 := ((d0.go (Dr.of d1)).go (Dr.of d2)).go d3
  obtain ⟨x4, u4, e4, d4⟩ := hR _ (nI (d + 1)) (nI 0) (nI 0) D3
  obtain ⟨u5, e5, d5⟩ := C_setSecond_any (nI o) x4 u4
  have D5 := (D3.go d4).go (Dr.of d5)
  refine ⟨u5, ?_, ((((Dr.of d1).tr (Dr.of d2)).tr d3).tr d4).tr (Dr.of d5)⟩
  have c2 : ¬ 501 ≤ o := by omega
  unfold f_C_X4_pair_7 f_C_X4_countNode_7 f_C_X4_isPlace
  have er : f_C_X4_refuse_7 s = some (cR s p) := by rw [C_ref h7, h5]; rfl
  simp (disch := omega) only [↓reduceIte, z_lit, z_m1, z_gd, z_le, z_lt, z_eq, z_em, z_me, z_ml, z_mle, z_lm, z_lem, z_pos, z_sub, nI_add, nI_clamp, ib_nI, pm_let, pm_bd, pm_b1, if_true, if_false, ite_true, ite_false, Nat.not_lt_zero, Nat.zero_le, h6, hq, er, e1, e2, c2, D_expect D3, e4, e5, D_expect D5]
  all_goals simp
theorem BF_mP {T : Nat → Nat} {n K : Nat} {m : hp_S} {p p0 q : Nat} {a x : Int32} (h : p0 ≤ p) : BF m (mP T n K m p a x) p0 q := by
  refine ⟨fun b j b1 b2 _ => ?_, fun t ht => ?_⟩
  · have g3 : ¬ b = 5 := by omega
    have g4 : ¬ b = 4 := by omega
    have g5 : ¬ b = 3 := by omega
    simp only [mP_A, g3, g4, g5, false_and, if_false]
  · have : ¬ t = p := by omega
    simp only [mP_A, this, and_false, if_false]
theorem BF_I {m : hp_S} {p q a k : Nat} {v : Int32} : BF m (hs_pI m a k v) p q := ⟨fun _ _ _ _ _ => rfl, fun _ _ => rfl⟩
theorem BF_A {m : hp_S} {p q a i : Nat} {v : Int32} (h : 15 < a ∨ (6 ≤ a ∧ q ≤ i)) : BF m (hs_pA m a i v) p q := by
  refine ⟨fun b j b1 b2 hj => ?_, fun t ht => ?_⟩
  · rw [hs_A_pA, if_neg (by omega)]
  · rw [hs_A_pA, if_neg (by omega)]
theorem SF_mP {T : Nat → Nat} {n K : Nat} {m : hp_S} {p d e : Nat} {a x : Int32} : SF m (mP T n K m p a x) d e := by
  refine ⟨fun i _ => ?_, fun i _ => ?_⟩ <;> simp only [mP_A, hs_I_pI, hs_I_pA, hs_A_pI, hs_A_pA, and_true, true_and, and_false, false_and, and_self, eq_self, Nat.reduceEqDiff, ↓reduceIte]
theorem SF_I {m : hp_S} {d e a k : Nat} {v : Int32} : SF m (hs_pI m a k v) d e := ⟨fun _ _ => ⟨rfl, rfl⟩, fun _ _ => ⟨rfl, rfl⟩⟩
theorem SF_A {m : hp_S} {d e a i : Nat} {v : Int32} (h : a < 34) : SF m (hs_pA m a i v) d e := by
  have g1 : ¬ 34 = a := by omega
  have g2 : ¬ 35 = a := by omega
  have g3 : ¬ 36 = a := by omega
  have g4 : ¬ 37 = a := by omega
  refine ⟨fun i _ => ?_, fun i _ => ?_⟩ <;> simp only [hs_I_pI, hs_I_pA, hs_A_pI, hs_A_pA, and_true, true_and, and_false, false_and, and_self, eq_self, Nat.reduceEqDiff, ↓reduceIte, g1, g2, g3, g4]
theorem fj_BF {m m' : hp_S} {p q j : Nat} (h : BF m m' p q) (hj : j < q) : fj m' j = fj m j := by simp only [fj, h.1 10 j (by omega) (by omega) hj]
theorem SG_BF {T : Nat → Nat} {n K : Nat} {m m' : hp_S} {p0 q0 p1 q1 : Nat} (h : SG T n K m p0 q0 p1 q1) (g : BF m m' p1 q1) : SG T n K m' p0 q0 p1 q1 :=
  SG_fr h (fun a j a1 a2 _ j2 => g.1 a j a1 a2 j2) (fun t _ t2 => g.2 t t2)
theorem NM_BF {T : Nat → Nat} {n K : Nat} {s m s' m' : hp_S} {p0 q0 p1 q1 z : Nat} {sc : Nat → Nat} (S : SG T n K m p0 q0 p1 q1) (h : NM T n s m q0 q1 z sc) (g : BF m m' p1 q1) (h2 : ∀ t, t < p1 → hs_A s' 13 t = hs_A s 13 t) : NM T n s' m' q0 q1 z sc :=
  NM_fr S h (fun a j a1 a2 _ j2 => g.1 a j a1 a2 j2) (fun t _ t2 => h2 t t2)
theorem cr_v {m : hp_S} {q v : Nat} (hv : v < q) : cr m q (nI (fj m v)) (nI v) := Or.inr ⟨v, hv, rfl, rfl⟩
theorem C_takeN {T : Nat → Nat} {n K : Nat} {s m : hp_S} {p q : Nat} {a : Int32} (h : PQ T n K s m p q) (hp : p < K) : f_C_X4_take_7 a s = some (cT s p a) := C_take h.2.2.2.2.1.1 h.2.2.2.2.1.2.2 h.1.2.1.1 h.1.2.2.1 hp
theorem C_curN {T : Nat → Nat} {n K : Nat} {s m : hp_S} {p q : Nat} (h : PQ T n K s m p q) : f_C_X4_current_7 s = some (nI (tk_K T n K p), s) := C_cur h.1 (by have := h.2.2.1; have := h.1.2.2.1; omega) h.2.2.2.2.1.1 h.2.2.2.2.1.2.2
/-- a node of two parts -/
theorem SN_bin {T : Nat → Nat} {n K : Nat} {s m : hp_S} {p0 pa0 pa1 pb0 pb1 p1 q0 qa q2 kk a b z : Nat} {sc : Nat → Nat} (A : SG T n K m pa0 q0 pa1 qa) (B : SG T n K m pb0 (qa + 1) pb1 q2) (NA : NM T n s m q0 qa z sc) (NB : NM T n s m (qa + 1) q2 z sc) (o1 : p0 ≤ pa0) (o2 : pa1 ≤ pb0) (o4 : pb1 ≤ p1) (hp : p1 ≤ 500)
    (f1 : p0 ≤ fj m qa) (f2 : fj m qa < p1) (fa : fj m qa < pa0 ∨ pa1 ≤ fj m qa) (fb : fj m qa < pb0 ∨ pb1 ≤ fj m qa) (hk : kk = 17 ∨ kk = 19 ∨ kk = 20 ∨ kk = 21) (h6 : hs_A m 6 qa = nI (kn kk)) (h7 : hs_A m 7 qa = nI a) (ha : q0 ≤ a ∧ a < qa) (h8 : hs_A m 8 qa = nI b) (hb : qa + 1 ≤ b ∧ b < q2) (h9 : hs_A m 9 qa = nM)
    (hI : ∀ t, p0 ≤ t → t < p1 → tk_K T n K t = 6 → (pa0 ≤ t ∧ t < pa1) ∨ (pb0 ≤ t ∧ t < pb1)) : SG T n K m p0 q0 p1 q2 ∧ NM T n s m q0 q2 z sc := by
  have B1 := B.1
  have B4 := B.2.2.2.1
  have nkk : nk kk ∧ kn kk ≠ 4 ∧ kn kk ≠ 3 ∧ kn kk ≠ 1 ∧ kn kk < 40 ∧ ar kk = 2 := by rcases hk with rfl | rfl | rfl | rfl <;> exact ⟨by simp [nk], by decide⟩
  have nB : ¬ isB m qa := by
    rintro (g | g)
    · rw [h6, nI_eq (by omega) (by omega)] at g; omega
    · rw [h6, nI_eq (by omega) (by omega)] at g; omega
  have C : SG T n K m p1 q2 p1 q2 := SG_nil hp B4
  have kA : kid m q0 q2 0 qa := ⟨a, by omega, by omega, h7⟩
  have kB : kid m q0 q2 1 qa := ⟨b, by omega, by omega, h8⟩
  refine ⟨SG_join A B C o1 o2 o4 (Nat.le_refl _) hp f1 f2 fa fb (Or.inl f2) ⟨fun d hd => ?_, kk, nkk.1, h6, fun d hd => ?_⟩ (fun g => ?_) (fun g => absurd g nB) (fun t t1 t2 t3 => (hI t t1 t2 t3).elim Or.inl (fun q => Or.inr (Or.inl q))), ?_⟩
  · rcases (show d = 0 ∨ d = 1 ∨ d = 2 by omega) with rfl | rfl | rfl
    · exact Or.inr kA
    · exact Or.inr kB
    · exact Or.inl h9
  · rcases (show d = 0 ∨ d = 1 by omega) with rfl | rfl
    · exact kA
    · exact kB
  · rw [h6, nI_eq (by omega) (by omega)] at g; omega
  · exact NM_join A B C o2 o4 NA NB (fun j j1 j2 => by omega) (by rw [h6]; intro g; rw [nI_eq (by omega) (by omega)] at g; omega) nB
theorem ST_pass {T : Nat → Nat} {n K : Nat} {s m : hp_S} {p q z : Nat} {sc : Nat → Nat} {a b x : Int32} (h : ST T n K s m p q z sc) (hp : p < K) (hr : cr m q a b) (hx : tk_K T n K (p + 1) ≠ 1 → p + 1 < K → x = nI (tk_e T n (p + 1))) : ST T n K (cT s p a) (mP T n K m p b x) (p + 1) q z sc := by
  refine ⟨PQ_pass h.1 hp hr hx, ?_, ?_⟩
  · exact un_id h.2.1 (by simp only [cT, hs_I_pI, hs_I_pA, hs_A_pI, hs_A_pA, and_true, true_and, and_false, false_and, and_self, eq_self, Nat.reduceEqDiff, ↓reduceIte]) (fun j => by simp only [mP_A, hs_I_pI, hs_I_pA, hs_A_pI, hs_A_pA, and_true, true_and, and_false, false_and, and_self, eq_self, Nat.reduceEqDiff, ↓reduceIte]) (fun j => by simp only [mP_A, hs_I_pI, hs_I_pA, hs_A_pI, hs_A_pA, and_true, true_and, and_false, false_and, and_self, eq_self, Nat.reduceEqDiff, ↓reduceIte]) (fun t => by simp only [cT, hs_I_pI, hs_I_pA, hs_A_pI, hs_A_pA, and_true, true_and, and_false, false_and, and_self, eq_self, Nat.reduceEqDiff, ↓reduceIte])
  · exact SCp_fr (P := [(7, 5)]) (A := [14]) h.2.2 ((hs_fr_pA (by decide)).cons (hs_fr_pI (by decide))) (by decide) (by omega)
