/-! LET -/
theorem M_enterB {m : hp_S} {d : Nat} {w v : Int32} (h23 : hs_I m 0 23 = nI d) (hd : d < 100) (hb : hs_I m 0 50 = nI 1) : ∃ m', f_M_X11_enter_0 w v m = some m' ∧ hs_I m' 0 50 = hs_I m 0 50 ∧ hs_I m' 0 4 = hs_I m 0 4 ∧ hs_fr rP rA m m' := by
  by_cases c : d < 20
  · exact ⟨_, M_enter h23 c, by simp only [mE, hs_I_pI, hs_I_pA, hs_A_pI, hs_A_pA, and_true, true_and, and_false, false_and, and_self, eq_self, Nat.reduceEqDiff, ↓reduceIte], by simp only [mE, hs_I_pI, hs_I_pA, hs_A_pI, hs_A_pA, and_true, true_and, and_false, false_and, and_self, eq_self, Nat.reduceEqDiff, ↓reduceIte], GF_mE⟩
  · refine ⟨m, ?_, rfl, rfl, hs_fr.rf⟩
    have hn : f_M_X11_need_0 (nI 0) m = some (nI 0, m) := by
      unfold f_M_X11_need_0
      simp (disch := omega) only [↓reduceIte, z_lit, z_m1, z_gd, z_le, z_lt, z_eq, z_em, z_me, z_ml, z_mle, z_lm, z_lem, z_pos, z_sub, nI_add, nI_clamp, ib_nI, pm_let, pm_bd, pm_b1, if_true, if_false, ite_true, ite_false, Nat.not_lt_zero, Nat.zero_le, hb]
      rfl
    have c2 : 20 ≤ d := by omega
    unfold f_M_X11_enter_0
    simp (disch := omega) only [↓reduceIte, z_lit, z_m1, z_gd, z_le, z_lt, z_eq, z_em, z_me, z_ml, z_mle, z_lm, z_lem, z_pos, z_sub, nI_add, nI_clamp, ib_nI, pm_let, pm_bd, pm_b1, if_true, if_false, ite_true, ite_false, Nat.not_lt_zero, Nat.zero_le, h23, c2, hn]
theorem C_let {R : Nat → Int32 → Int32 → Int32 → hp_S → Option (Int32 × hp_S)} {k d : Nat} {x x4 x7 : Int32} {s s1 s2 s3 s4 s5 s6 s7 s8 : hp_S} (h1 : f_C_X4_beginNode_7 (nI 5) nM s = some (x, s1)) (h2 : f_C_X4_expect_7 (nI 2) x s1 = some s2) (h3 : f_C_X4_expect_7 (nI 16) x s2 = some s3) (h4 : R 0 (nI (d + 1)) (nI 0) (nI 0) s3 = some (x4, s4)) (h5 : f_C_X2_setFirst_8 x x4 s4 = some s5) (h6 : f_C_X4_expect_7 (nI 6) x s5 = some s6) (h7 : R 3 x (nI d) (nI 0) s6 = some (x7, s7)) (h8 : f_C_X2_setSecond_8 x x7 s7 = some s8) : f_C_X4_let_7 R k (nI d) s = some (x, s8) := by
  unfold f_C_X4_let_7
  simp (disch := omega) only [↓reduceIte, z_lit, z_m1, z_gd, z_le, z_lt, z_eq, z_em, z_me, z_ml, z_mle, z_lm, z_lem, z_pos, z_sub, nI_add, nI_clamp, ib_nI, pm_let, pm_bd, pm_b1, if_true, if_false, ite_true, ite_false, Nat.not_lt_zero, Nat.zero_le, h1, h2, h3, h4, h5, h6, h7, h8]
/-- what is left of a let once a token is refused -/
theorem LT {k N p : Nat} {a x4 : Int32} {s4 : hp_S} (hN : 6 ≤ N) (hk : 1 ≤ k) (hD : Dd s4) : ∃ s5 x7 s7 s8, f_C_X2_setFirst_8 (nI p) x4 s4 = some s5 ∧ f_C_X4_expect_7 (nI 6) (nI p) s5 = some s5 ∧ f_C_rec k N 3 (nI p) a (nI 0) s5 = some (x7, s7) ∧ f_C_X2_setSecond_8 (nI p) x7 s7 = some s8 ∧ Dr s4 s8 := by
  obtain ⟨N, rfl⟩ : ∃ y, N = y + 6 := ⟨N - 6, by omega⟩
  obtain ⟨s5, e5, d5⟩ := C_setFirst_any (nI p) x4 s4
  have h5 := hD.go (Dr.of d5)
  obtain ⟨x7, s7, e7, d7⟩ := D_3 k N hk s5 (nI p) a (nI 0) h5
  obtain ⟨s8, e8, d8⟩ := C_setSecond_any (nI p) x7 s7
  exact ⟨s5, x7, s7, s8, e5, D_expect h5 (by omega) (by omega), e7, e8, ((Dr.of d5).tr d7).tr (Dr.of d8)⟩
theorem A2 {k L N : Nat} {T : Nat → Nat} {n K d : Nat} {s m : hp_S} {p q z : Nat} {sc : Nat → Nat} (hk : 2000 ≤ k) (hL : 5 ≤ L) (H : ∀ N, L ≤ N → EE k N T n K d) (hN : L + 6 ≤ N) (h : ST T n K s m p q z sc) (hz : z + 1 ≤ d) (hd : d ≤ 20) (h23 : hs_I m 0 23 = nI d) (h55 : hs_I m 0 55 = nI 0) (hkd : tk_K T n K p = 5) (b c : Int32) :
    ∃ x s' m', f_C_rec k N 2 (nI d) b c s = some (x, s') ∧ rn m m' ∧ hs_fr rP rA m m' ∧ (DE T n K s s' m' ∨ (∃ p' q' v, AX T n K s m s' m' p q z sc p' q' v ∧ MI m' d 3 v ∧ x = nI (fj m' v) ∧ SF m m' d (d - 1))) := by
  obtain ⟨N, rfl⟩ : ∃ y, N = y + 2 := ⟨N - 2, by omega⟩
  have hK := h.1.1.2.2.1
  have hs4 := h.2.2.2.1
  obtain ⟨s1, s2, s3, c1, c2, c3, out⟩ := HEAD h (Or.inr ⟨rfl, rfl, rfl, rfl⟩) hkd h55
  rw [rec_2]
  rcases out with ⟨m', r1, g1, D⟩ | ⟨hq, t1, t2, f3, s13, m5, S3, g5, b5, sf5, i23, ⟨a6, a7, a8, a9, a10, a11, a14, a51, a52⟩, hen⟩
  · have hD := D.dd hK h.2.2.1 hs4
    obtain ⟨y6, hy6⟩ : ∃ y6, N + 1 = y6 + 5 := ⟨N - 4, by omega⟩
    obtain ⟨x, u, e4, d4⟩ := D_0 k y6 (by omega) s3 (nI (d + 1)) (nI 0) (nI 0) hD
    rw [← hy6] at e4
    obtain ⟨s5, x7, s7, s8, f5, f6, f7, f8, dr⟩ := LT (k := k) (N := N + 1) (p := p) (a := nI d) (x4 := x) (by omega) (by omega) (hD.go d4)
    exact ⟨nI p, s8, m', C_let c1 c2 c3 e4 f5 f6 f7 f8, r1, g1, Or.inl ((D.post d4).post dr)⟩
  obtain ⟨m6, e6, x4, s4, m7, ec, er, eg, out⟩ := H (N + 1) (by omega) _ _ _ _ _ _ (nI 2) (nI q) S3.1 S3.2.1 S3.2.2 (by omega) (i23.trans h23)
  have r6 := hen m6 e6
  have s34 : hs_I s3 7 4 = nI z := S3.2.2.2.1
  rcases out with D | ⟨AL7, j2, j3, j4⟩
  · have hD := D.dd hK S3.2.2.1 s34
    obtain ⟨s5, x7, s7, s8, f5, f6, f7, f8, dr⟩ := LT (k := k) (N := N + 1) (p := p) (a := nI d) (x4 := x4) (by omega) (by omega) hD
    exact ⟨nI p, s8, m7, C_let c1 c2 c3 ec f5 f6 f7 f8, r6.tr er, g5.cons eg, Or.inl ((D.pre f3 (s34.trans hs4.symm)).post dr)⟩
  obtain ⟨p3, q3, v3, B, MM, hx⟩ := AL_AX AL7
  have bp := B.1
  have bq := B.2.2.2.2.2.2.2.1.1
  have hp3 := B.2.1.1.2.2.1
  have hq3 := B.2.1.1.2.2.2.1
  have hv1 := B.2.2.2.2.2.1
  have hv3 := B.2.2.2.2.2.2.1
  have BB := B.2.2.2.2.1
  have fq : fj m7 q = p := by
    rw [fj_BF BB (by omega)]
    exact fj_of a10 (by omega)
  have hb : hs_I m7 0 50 = nI 0 := B.2.1.1.2.2.2.2.2.1.2.2.1
  have h11 : hs_I m7 0 11 = nI p3 := B.2.1.1.2.2.2.2.2.1.1
  obtain ⟨m8, hm8⟩ : ∃ m8, m8 = hs_pA (hs_pA (hs_pI m7 0 23 (nI d)) 7 q (nI v3)) 15 q (nI p3) := ⟨_, rfl⟩
  have S8 : ST T n K (hs_pA s4 10 p x4) m8 p3 q3 z sc := by
    have := ST_set (d := 0) (j := q) (x := x4) (y := nI v3) (ST_m B.2.1 (hs_fr_pI (a := 0) (k := 23) (v := nI d) (by decide)) : ST T n K s4 (hs_pI m7 0 23 (nI d)) p3 q3 z sc) (by omega) (by omega) (by rw [hx]; exact cr_v hv3)
    rw [show fj (hs_pI m7 0 23 (nI d)) q = p from fq] at this
    rw [hm8]
    exact ST_m this (hs_fr_pA (by decide))
  have m8A : ∀ a j, hs_A m8 a j = if a = 15 ∧ j = q then nI p3 else if a = 7 ∧ j = q then nI v3 else hs_A m7 a j := fun a j => by rw [hm8]; simp only [hs_I_pI, hs_I_pA, hs_A_pI, hs_A_pA, and_true, true_and, and_false, false_and, and_self, eq_self, Nat.reduceEqDiff, ↓reduceIte]
  have m823 : hs_I m8 0 23 = nI d := by rw [hm8]; simp only [hs_I_pI, hs_I_pA, hs_A_pI, hs_A_pA, and_true, true_and, and_false, false_and, and_self, eq_self, Nat.reduceEqDiff, ↓reduceIte]
  have cs : f_C_X2_setFirst_8 (nI p) x4 s4 = some (hs_pA s4 10 p x4) := C_setFirst (by omega)
  have fq8 : fj m8 q = p := by rw [← fq]; simp only [fj, m8A, hs_I_pI, hs_I_pA, hs_A_pI, hs_A_pA, and_true, true_and, and_false, false_and, and_self, eq_self, Nat.reduceEqDiff, ↓reduceIte]
  have g8 : hs_fr rP rA m m8 := by
    rw [hm8]
    exact (g5.cons eg).cons ((hs_fr_pI (by decide)).cons ((hs_fr_pA (by decide)).cons (hs_fr_pA (by decide))))
  have cf8 : hs_fr cP cA s (hs_pA s4 10 p x4) := (f3.cons B.2.2.2.1).cons (hs_fr_pA (by decide))
  by_cases t6 : tk_K T n K p3 = 6
  · obtain ⟨hp3', ce6, x9, et9, -, S9⟩ := ST_take (a := nI p) (b := nI q) S8 t6 (by omega) (Or.inr ⟨q, by omega, rfl, by rw [fq8]⟩)
    obtain ⟨m10, hm10⟩ : ∃ m10, m10 = hs_pA (mP T n K m8 p3 (nI q) x9) 12 q (nI (p3 + 1)) := ⟨_, rfl⟩
    have S10 : ST T n K (cT (hs_pA s4 10 p x4) p3 (nI p)) m10 (p3 + 1) q3 z sc := by
      rw [hm10]
      exact ST_m S9 (hs_fr_pA (by decide))
    have m10A : ∀ a j, hs_A m10 a j = if a = 12 ∧ j = q then nI (p3 + 1) else if a = 5 ∧ j = p3 then nI q else if a = 4 ∧ j = p3 then nI (tk_e T n p3) else if a = 3 ∧ j = p3 then nI (tk_p T n p3) else hs_A m8 a j := fun a j => by rw [hm10, hs_A_pA, mP_A]
    have m1023 : hs_I m10 0 23 = nI d := by rw [hm10]; simp only [hs_I_pI, hs_I_pA, hs_A_pI, hs_A_pA, and_true, true_and, and_false, false_and, and_self, eq_self, Nat.reduceEqDiff, ↓reduceIte, mP_I]; exact m823
    have SP := ST_push (f := p) S10 (by omega) (by omega)
    obtain ⟨m11, e11, x7, s9, m12, ec2, er2, eg2, out⟩ := H N (by omega) _ _ _ _ _ _ (nI 3) (nI q) SP.1 SP.2.1 SP.2.2 (by omega) m1023
    have s104 : hs_I (cT (hs_pA s4 10 p x4) p3 (nI p)) 7 4 = nI z := S10.2.2.2.1
    have sp4 : hs_I (hs_pI (hs_pA (cT (hs_pA s4 10 p x4) p3 (nI p)) 15 z (nI p)) 7 4 (nI (z + 1))) 7 4 = nI (z + 1) := SP.2.2.2.1
    have fp : hs_fr cP cA (cT (hs_pA s4 10 p x4) p3 (nI p)) (hs_pI (hs_pA (cT (hs_pA s4 10 p x4) p3 (nI p)) 15 z (nI p)) 7 4 (nI (z + 1))) := (hs_fr_pA (by decide)).cons (hs_fr_pI (by decide))
    have r11 : rn m7 m11 := rn_ended hb MM.2.1 (fun F hF => by
      refine M_ended2 (y := nI p3) (m2 := mP T n K m8 p3 (nI q) x9) MM.1 (by omega) j3 j4 (by omega) ?_ ?_
      · rw [MM.2.2, h11, ← hm8]; exact et9 F hF
      · rw [S9.1.2.2.2.2.2.1.1, ← hm10]; exact e11)
    have R11 : rn m m11 := (r6.tr er).tr r11
    have g10 : hs_fr rP rA m m10 := by
      rw [hm10]
      exact (g8.cons GF_mP).cons (hs_fr_pA (by decide))
    have cf10 : hs_fr cP cA s (cT (hs_pA s4 10 p x4) p3 (nI p)) := cf8.cons CF_cT
    rcases out with D | ⟨AL12, l2, l3, l4⟩
    · have D' := DE_pop D s104
      obtain ⟨u5, e5, d5⟩ := C_setSecond_any (nI p) x7 (hs_pI s9 7 4 (nI z))
      refine ⟨nI p, u5, m12, C_let c1 c2 c3 ec cs ce6 ?_ e5, R11.tr er2, g10.cons eg2, Or.inl ((D'.pre cf10 (s104.trans hs4.symm)).post (Dr.of d5))⟩
      rw [rec_3]
      exact C_inScope s104 (by omega) (by omega) ec2 (D.2.1.trans sp4)
    · obtain ⟨p5, q5, v5, C, MM5, hx5⟩ := AL_AX AL12
      have cp := C.1
      have cq := C.2.2.2.2.2.2.2.1.1
      have hp5 := C.2.1.1.2.2.1
      have hq5 := C.2.1.1.2.2.2.1
      have hw1 := C.2.2.2.2.2.1
      have hv5 := C.2.2.2.2.2.2.1
      have CC := C.2.2.2.2.1
      have SQ := ST_pop C.2.1
      have fq10 : fj m10 q = p := by rw [← fq8]; simp only [fj, m10A, hs_I_pI, hs_I_pA, hs_A_pI, hs_A_pA, and_true, true_and, and_false, false_and, and_self, eq_self, Nat.reduceEqDiff, ↓reduceIte]
      have fq12 : fj m12 q = p := by rw [fj_BF CC (by omega), fq10]
      have hb12 : hs_I m12 0 50 = nI 0 := SQ.1.2.2.2.2.2.1.2.2.1
      have h1112 : hs_I m12 0 11 = nI p5 := SQ.1.2.2.2.2.2.1.1
      obtain ⟨m13, hm13⟩ : ∃ m13, m13 = hs_pI (hs_pA (hs_pA (hs_pI m12 0 23 (nI d)) 8 q (nI v5)) 13 q (nI p5)) 0 56 (nI q) := ⟨_, rfl⟩
      have r13 : rn m12 m13 := rn_ended hb12 MM5.2.1 (fun F hF => by rw [M_ended3 MM5.1 (by omega) l3 l4 (by omega), hm13, MM5.2.2, h1112])
      have S13 : ST T n K (hs_pA (hs_pI s9 7 4 (nI z)) 11 p x7) m13 p5 q5 z sc := by
        have := ST_set (d := 1) (j := q) (x := x7) (y := nI v5) (ST_m SQ (hs_fr_pI (a := 0) (k := 23) (v := nI d) (by decide)) : ST T n K (hs_pI s9 7 4 (nI z)) (hs_pI m12 0 23 (nI d)) p5 q5 z sc) (by omega) (by omega) (by rw [hx5]; exact cr_v hv5)
        rw [show fj (hs_pI m12 0 23 (nI d)) q = p from fq12] at this
        rw [hm13]
        exact ST_m this ((hs_fr_pA (by decide)).cons (hs_fr_pI (by decide)))
      have m13A : ∀ a j, hs_A m13 a j = if a = 13 ∧ j = q then nI p5 else if a = 8 ∧ j = q then nI v5 else hs_A m12 a j := fun a j => by rw [hm13]; simp only [hs_I_pI, hs_I_pA, hs_A_pI, hs_A_pA, and_true, true_and, and_false, false_and, and_self, eq_self, Nat.reduceEqDiff, ↓reduceIte]
      have m13q : ∀ a j, j ≠ q → hs_A m13 a j = hs_A m12 a j := fun a j g => by rw [m13A, if_neg (fun q => g q.2), if_neg (fun q => g q.2)]
      have m135 : ∀ t, hs_A m13 5 t = hs_A m12 5 t := fun t => by rw [m13A]; simp
      have k10 : ∀ a, 6 ≤ a → a ≤ 15 → a ≠ 13 → a ≠ 8 → hs_A m13 a q = hs_A m10 a q := fun a a1 a2 g1 g2 => by rw [m13A, if_neg (fun q => g1 q.1), if_neg (fun q => g2 q.1)]; exact CC.1 a q a1 a2 (by omega)
      have k8 : ∀ a, 6 ≤ a → a ≤ 15 → a ≠ 12 → hs_A m10 a q = hs_A m8 a q := fun a a1 a2 g1 => by rw [m10A, if_neg (fun q => g1 q.1), if_neg (by omega), if_neg (by omega), if_neg (by omega)]
      have k5 : ∀ a, 6 ≤ a → a ≤ 15 → a ≠ 15 → a ≠ 7 → hs_A m8 a q = hs_A m5 a q := fun a a1 a2 g1 g2 => by rw [m8A, if_neg (fun q => g1 q.1), if_neg (fun q => g2 q.1)]; exact BB.1 a q a1 a2 (by omega)
      have kq : ∀ a, 6 ≤ a → a ≤ 15 → a ≠ 13 → a ≠ 8 → a ≠ 12 → a ≠ 15 → a ≠ 7 → hs_A m13 a q = hs_A m5 a q := fun a a1 a2 g1 g2 g3 g4 g5 => (k10 a a1 a2 g1 g2).trans ((k8 a a1 a2 g3).trans (k5 a a1 a2 g4 g5))
      have m10j : ∀ a j, 6 ≤ a → j ≠ q → hs_A m10 a j = hs_A m7 a j := fun a j a1 g => by
        rw [m10A, if_neg (fun q => g q.2), if_neg (by omega), if_neg (by omega), if_neg (by omega), m8A, if_neg (fun q => g q.2), if_neg (fun q => g q.2)]
      have m105 : ∀ t, t ≠ p3 → hs_A m10 5 t = hs_A m7 5 t := fun t g => by
        rw [m10A, if_neg (by omega), if_neg (by omega), if_neg (by omega), if_neg (by omega), m8A, if_neg (by omega), if_neg (by omega)]
      have j713 : ∀ a j, 6 ≤ a → a ≤ 15 → j ≠ q → j < q3 → hs_A m13 a j = hs_A m7 a j := fun a j a1 a2 g g2 => by
        rw [m13q a j g, CC.1 a j a1 a2 g2, m10j a j a1 g]
      have t713 : ∀ t, t < p3 → hs_A m13 5 t = hs_A m7 5 t := fun t g => by
        rw [m135, CC.2 t (by omega), m105 t (by omega)]
      have SB : SG T n K m13 (p + 3) (q + 1) p3 q3 := SG_fr B.2.2.2.2.2.2.2.1 (fun a j a1 a2 g1 g2 => j713 a j a1 a2 (by omega) g2) (fun t _ g2 => t713 t g2)
      have SC : SG T n K m13 (p3 + 1) q3 p5 q5 := SG_fr C.2.2.2.2.2.2.2.1 (fun a j a1 a2 g1 g2 => m13q a j (by omega)) (fun t _ _ => m135 t)
      have s13a : ∀ t, hs_A (hs_pA (hs_pI s9 7 4 (nI z)) 11 p x7) 13 t = hs_A s9 13 t := fun t => by simp only [hs_I_pI, hs_I_pA, hs_A_pI, hs_A_pA, and_true, true_and, and_false, false_and, and_self, eq_self, Nat.reduceEqDiff, ↓reduceIte]
      have s13b : ∀ t, hs_A (hs_pI (hs_pA (cT (hs_pA s4 10 p x4) p3 (nI p)) 15 z (nI p)) 7 4 (nI (z + 1))) 13 t = hs_A s4 13 t := fun t => by simp only [cT, hs_I_pI, hs_I_pA, hs_A_pI, hs_A_pA, and_true, true_and, and_false, false_and, and_self, eq_self, Nat.reduceEqDiff, ↓reduceIte]
      have NB : NM T n (hs_pA (hs_pI s9 7 4 (nI z)) 11 p x7) m13 (q + 1) q3 z sc := NM_fr B.2.2.2.2.2.2.2.1 B.2.2.2.2.2.2.2.2 (fun a j a1 a2 g1 g2 => j713 a j a1 a2 (by omega) g2) (fun t _ g2 => by rw [s13a, C.2.2.1 t (by omega), s13b])
      have NC : NM T n (hs_pA (hs_pI s9 7 4 (nI z)) 11 p x7) m13 q3 q5 (z + 1) (fun i => if i = z then p else sc i) := NM_fr C.2.2.2.2.2.2.2.1 C.2.2.2.2.2.2.2.2 (fun a j a1 a2 g1 g2 => m13q a j (by omega)) (fun t _ _ => s13a t)
      have fq13 : fj m13 q = p := fj_of (by rw [kq 10 (by omega) (by omega) (by omega) (by omega) (by omega) (by omega) (by omega)]; exact a10) (by omega)
      obtain ⟨G1, G2⟩ := SN_let SB NB SC NC fq13 (by rw [kq 6 (by omega) (by omega) (by omega) (by omega) (by omega) (by omega) (by omega)]; exact a6) (v := v3) (by rw [k10 7 (by omega) (by omega) (by omega) (by omega), k8 7 (by omega) (by omega) (by omega), m8A]; simp) ⟨hv1, hv3⟩ (w := v5) (by rw [m13A]; simp) ⟨hw1, hv5⟩ (by rw [kq 9 (by omega) (by omega) (by omega) (by omega) (by omega) (by omega) (by omega)]; exact a9) (by rw [kq 11 (by omega) (by omega) (by omega) (by omega) (by omega) (by omega) (by omega)]; exact a11) (by rw [k10 12 (by omega) (by omega) (by omega) (by omega), m10A]; simp) (by rw [m13A]; simp) (by rw [kq 14 (by omega) (by omega) (by omega) (by omega) (by omega) (by omega) (by omega)]; exact a14) (by rw [k10 15 (by omega) (by omega) (by omega) (by omega), k8 15 (by omega) (by omega) (by omega), m8A]; simp) t6 (by rw [m135, CC.2 p3 (by omega), m10A]; simp) (by rw [t713 _ (by omega), BB.2 _ (by omega)]; exact a51) (by rw [t713 _ (by omega), BB.2 _ (by omega)]; exact a52) (fun t g1 g2 => by
        rcases (show t = p ∨ t = p + 1 ∨ t = p + 2 by omega) with rfl | rfl | rfl <;> omega)
      have cs2 : f_C_X2_setSecond_8 (nI p) x7 (hs_pI s9 7 4 (nI z)) = some (hs_pA (hs_pI s9 7 4 (nI z)) 11 p x7) := C_setSecond (by omega)
      refine ⟨nI p, _, m13, C_let c1 c2 c3 ec cs ce6 ?_ cs2, (R11.tr er2).tr r13, ?_, Or.inr ⟨p5, q5, q, ⟨by omega, S13, fun t ht => ?_, ?_, ?_, Nat.le_refl _, by omega, G1, G2⟩, ?_, by rw [fq13], ?_⟩⟩
      · rw [rec_3]
        exact C_inScope s104 (by omega) (by omega) ec2 C.2.1.2.2.2.1
      · rw [hm13]
        exact (g10.cons eg2).cons (((hs_fr_pI (by decide)).cons (hs_fr_pA (by decide))).cons ((hs_fr_pA (by decide)).cons (hs_fr_pI (by decide))))
      · rw [s13a, C.2.2.1 t (by omega), s13b, B.2.2.1 t (by omega), s13 t (by omega)]
      · exact ((cf10.cons fp).cons C.2.2.2.1).cons ((hs_fr_pI (by decide)).cons (hs_fr_pA (by decide)))
      · refine (b5.tr BB (by omega) (by omega)).tr (p' := p) (q' := q) ⟨fun a j a1 a2 hj => j713 a j a1 a2 (by omega) (by omega), fun t ht => t713 t (by omega)⟩ (Nat.le_refl _) (Nat.le_refl _)
      · rw [hm13]
        refine ⟨?_, ?_, ?_⟩
        · simp only [hs_I_pI, hs_I_pA, hs_A_pI, hs_A_pA, and_true, true_and, and_false, false_and, and_self, eq_self, Nat.reduceEqDiff, ↓reduceIte]
        · simp only [hs_I_pI, hs_I_pA, hs_A_pI, hs_A_pA, and_true, true_and, and_false, false_and, and_self, eq_self, Nat.reduceEqDiff, ↓reduceIte]; exact MM5.2.1
        · simp only [hs_I_pI, hs_I_pA, hs_A_pI, hs_A_pA, and_true, true_and, and_false, false_and, and_self, eq_self, Nat.reduceEqDiff, ↓reduceIte]
      · have f8 : SF m7 m10 d (d - 1) := by
          refine ⟨fun i _ => ?_, fun i _ => ?_⟩ <;> simp [m10A, m8A]
        refine ((((sf5 d (d - 1)).tr j2 (Nat.le_refl _) (by omega)).tr f8 (Nat.le_refl _) (Nat.le_refl _)).tr l2 (Nat.le_refl _) (by omega)).tr (d' := d) (e' := d) ?_ (Nat.le_refl _) (by omega)
        refine ⟨fun i _ => ?_, fun i _ => ?_⟩ <;> simp [m13A]
  · obtain ⟨ce6, et9, D9⟩ := PQ_take0 (nI p) (nI q) S8.1 t6 (by omega)
    have D9' := D9.pre cf8 (by rw [S8.2.2.2.1, hs4])
    have hD := D9'.dd hK h.2.2.1 hs4
    obtain ⟨y6, hy6⟩ : ∃ y6, N + 1 = y6 + 6 := ⟨N - 5, by omega⟩
    obtain ⟨x7, u, e4, d4⟩ := D_3 k y6 (by omega) _ (nI p) (nI d) (nI 0) hD
    rw [← hy6] at e4
    obtain ⟨u5, e5, d5⟩ := C_setSecond_any (nI p) x7 u
    obtain ⟨m11, f1, f2, f3', f4⟩ := M_enterB (m := hs_pA (mB m8) 12 q (hs_I (mB m8) 0 11)) (d := d) (w := nI 3) (v := nI q) (by simp only [mB, hs_I_pI, hs_I_pA, hs_A_pI, hs_A_pA, and_true, true_and, and_false, false_and, and_self, eq_self, Nat.reduceEqDiff, ↓reduceIte]; exact m823) (by omega) (by simp only [mB, hs_I_pI, hs_I_pA, hs_A_pI, hs_A_pA, and_true, true_and, and_false, false_and, and_self, eq_self, Nat.reduceEqDiff, ↓reduceIte])
    refine ⟨nI p, u5, m11, C_let c1 c2 c3 ec cs ce6 e4 e5, (r6.tr er).tr (rn_ended hb MM.2.1 (fun F hF => M_ended2 (y := nI 0) (m2 := mB m8) MM.1 (by omega) j3 j4 (by omega) (by rw [MM.2.2, h11, ← hm8]; exact et9 F) f1)), ((g8.cons GF_mB).cons (hs_fr_pA (by decide))).cons f4, Or.inl (((mB_G D9' (by rw [f2]; simp only [hs_I_pI, hs_I_pA, hs_A_pI, hs_A_pA, and_true, true_and, and_false, false_and, and_self, eq_self, Nat.reduceEqDiff, ↓reduceIte]) (by rw [f3']; simp only [hs_I_pI, hs_I_pA, hs_A_pI, hs_A_pA, and_true, true_and, and_false, false_and, and_self, eq_self, Nat.reduceEqDiff, ↓reduceIte])).post d4).post (Dr.of d5))⟩
