/-! IF -/
theorem C_if {R : Nat → Int32 → Int32 → Int32 → hp_S → Option (Int32 × hp_S)} {k d : Nat} {x x2 x5 x8 : Int32} {s s1 s2 s3 s4 s5 s6 s7 s8 s9 : hp_S} (h1 : f_C_X4_beginNode_7 (nI 7) nM s = some (x, s1)) (h2 : R 0 (nI (d + 1)) (nI 0) (nI 0) s1 = some (x2, s2)) (h3 : f_C_X2_setFirst_8 x x2 s2 = some s3) (h4 : f_C_X4_expect_7 (nI 8) x s3 = some s4) (h5 : R 0 (nI (d + 1)) (nI 0) (nI 0) s4 = some (x5, s5)) (h6 : f_C_X2_setSecond_8 x x5 s5 = some s6) (h7 : f_C_X4_expect_7 (nI 9) x s6 = some s7) (h8 : R 0 (nI (d + 1)) (nI 0) (nI 0) s7 = some (x8, s8)) (h9 : f_C_X2_setThird_8 x x8 s8 = some s9) : f_C_X4_choice_7 R k (nI d) s = some (x, s9) := by
  unfold f_C_X4_choice_7
  simp (disch := omega) only [↓reduceIte, z_lit, z_m1, z_gd, z_le, z_lt, z_eq, z_em, z_me, z_ml, z_mle, z_lm, z_lem, z_pos, z_sub, nI_add, nI_clamp, ib_nI, pm_let, pm_bd, pm_b1, if_true, if_false, ite_true, ite_false, Nat.not_lt_zero, Nat.zero_le, h1, h2, h3, h4, h5, h6, h7, h8, h9]
theorem CH3 {R : Nat → Int32 → Int32 → Int32 → hp_S → Option (Int32 × hp_S)} {p : Nat} {a : Int32} {s : hp_S} (hR : Dl R 0) (hD : Dd s) : ∃ x u w, R 0 a (nI 0) (nI 0) s = some (x, u) ∧ f_C_X2_setThird_8 (nI p) x u = some w ∧ Dr s w := by
  obtain ⟨x, u, e, d⟩ := hR s a (nI 0) (nI 0) hD
  obtain ⟨w, e2, d2⟩ := C_setThird_any (nI p) x u
  exact ⟨x, u, w, e, e2, d.tr (Dr.of d2)⟩
theorem CH2 {R : Nat → Int32 → Int32 → Int32 → hp_S → Option (Int32 × hp_S)} {p : Nat} {a : Int32} {s : hp_S} (hR : Dl R 0) (hD : Dd s) : ∃ x u w, R 0 a (nI 0) (nI 0) s = some (x, u) ∧ f_C_X2_setSecond_8 (nI p) x u = some w ∧ Dr s w := by
  obtain ⟨x, u, e, d⟩ := hR s a (nI 0) (nI 0) hD
  obtain ⟨w, e2, d2⟩ := C_setSecond_any (nI p) x u
  exact ⟨x, u, w, e, e2, d.tr (Dr.of d2)⟩
theorem SN_if {T : Nat → Nat} {n K : Nat} {s m : hp_S} {p q p1 q1 p2 q2 p3 q3 a b c z : Nat} {sc : Nat → Nat} (B1 : SG T n K m (p + 1) (q + 1) p1 q1) (N1 : NM T n s m (q + 1) q1 z sc) (B2 : SG T n K m (p1 + 1) q1 p2 q2) (N2 : NM T n s m q1 q2 z sc) (B3 : SG T n K m (p2 + 1) q2 p3 q3) (N3 : NM T n s m q2 q3 z sc) (fq : fj m q = p) (h6 : hs_A m 6 q = nI 6) (h7 : hs_A m 7 q = nI a) (ha : q + 1 ≤ a ∧ a < q1) (h8 : hs_A m 8 q = nI b) (hb : q1 ≤ b ∧ b < q2) (h9 : hs_A m 9 q = nI c) (hc : q2 ≤ c ∧ c < q3) (hI : tk_K T n K p ≠ 6 ∧ tk_K T n K p1 ≠ 6 ∧ tk_K T n K p2 ≠ 6) : SG T n K m p q p3 q3 ∧ NM T n s m q q3 z sc := by
  have o1 := B1.1
  have o2 := B1.2.1
  have o3 := B2.1
  have o4 := B2.2.1
  have o5 := B3.1
  have o6 := B3.2.1
  have o7 := B3.2.2.1
  have o8 := B3.2.2.2.1
  have A0 : SG T n K m p q p q := SG_nil (by omega) (by omega)
  have C : SG T n K m (p1 + 1) q1 p3 q3 := SG_app B2 B3 (Nat.le_refl _) (by omega) (Nat.le_refl _) o7 (fun t t1 t2 t3 => by
    have g : t ≠ p2 := fun g => by rw [g] at t3; exact hI.2.2 t3
    omega)
  have NC : NM T n s m q1 q3 z sc := NM_app B2 B3 (by omega) N2 N3
  have nB : ¬ isB m q := by
    rintro (g | g)
    · rw [h6, nI_eq (by omega) (by omega)] at g; omega
    · rw [h6, nI_eq (by omega) (by omega)] at g; omega
  have ka : kid m q q3 0 q := ⟨a, by omega, by omega, h7⟩
  have kb : kid m q q3 1 q := ⟨b, by omega, by omega, h8⟩
  have kc : kid m q q3 2 q := ⟨c, by omega, by omega, h9⟩
  refine ⟨SG_join A0 B1 C (Nat.le_refl _) (by omega) (by omega) (Nat.le_refl _) o7 (by rw [fq]; exact Nat.le_refl _) (by rw [fq]; omega) (by rw [fq]; omega) (by rw [fq]; omega) (by rw [fq]; omega) ⟨fun d hd => Or.inr ?_, 7, by simp [nk], h6, fun d hd => ?_⟩ (fun g => ?_) (fun g => absurd g nB) (fun t t1 t2 t3 => ?_), ?_⟩
  · rcases (show d = 0 ∨ d = 1 ∨ d = 2 by omega) with rfl | rfl | rfl
    · exact ka
    · exact kb
    · exact kc
  · have : ar 7 = 3 := rfl
    rcases (show d = 0 ∨ d = 1 ∨ d = 2 by omega) with rfl | rfl | rfl
    · exact ka
    · exact kb
    · exact kc
  · rw [h6, nI_eq (by omega) (by omega)] at g; omega
  · have g1 : t ≠ p := fun g => by rw [g] at t3; exact hI.1 t3
    have g2 : t ≠ p1 := fun g => by rw [g] at t3; exact hI.2.1 t3
    by_cases g : t < p1
    · exact Or.inr (Or.inl ⟨by omega, g⟩)
    · exact Or.inr (Or.inr (Or.inl ⟨by omega, t2⟩))
  · exact NM_join A0 B1 C (by omega) (by omega) (fun j j1 j2 => by omega) N1 NC (by rw [h6]; intro g; rw [nI_eq (by omega) (by omega)] at g; omega) nB
theorem A4 {k L N : Nat} {T : Nat → Nat} {n K d : Nat} {s m : hp_S} {p q z : Nat} {sc : Nat → Nat} (hk : 2000 ≤ k) (hL : 5 ≤ L) (H : ∀ N, L ≤ N → EE k N T n K d) (hN : L + 6 ≤ N) (h : ST T n K s m p q z sc) (hz : z + 1 ≤ d) (hd : d ≤ 20) (h23 : hs_I m 0 23 = nI d) (h55 : hs_I m 0 55 = nI 0) (hkd : tk_K T n K p = 7) (b c : Int32) :
    ∃ x s' m', f_C_rec k N 4 (nI d) b c s = some (x, s') ∧ rn m m' ∧ hs_fr rP rA m m' ∧ (DE T n K s s' m' ∨ (∃ p' q' v, AX T n K s m s' m' p q z sc p' q' v ∧ MI m' d 3 v ∧ x = nI (fj m' v) ∧ SF m m' d (d - 1))) := by
  obtain ⟨N, rfl⟩ : ∃ y, N = y + 1 := ⟨N - 1, by omega⟩
  have hK := h.1.1.2.2.1
  have hs4 := h.2.2.2.1
  have hp : p < K := tk_K_p (T := T) (n := n) (by omega)
  have h6 : hs_I m 0 6 = nI 6 := by have := h.1.2.2.2.2.2.1.2.2.2.1; rw [hkd] at this; exact this
  have hb : hs_I m 0 50 = nI 0 := h.1.2.2.2.2.2.1.2.2.1
  have h12 : hs_I m 0 12 = nI q := h.1.2.2.2.2.2.1.2.1
  have hR : Dl (f_C_rec k N) 0 := by
    obtain ⟨y5, rfl⟩ : ∃ y5, N = y5 + 5 := ⟨N - 5, by omega⟩
    exact D_0 k y5 (by omega)
  have tail1 : ∀ (x2 : Int32) (s2 : hp_S), Dd s2 → ∃ s3 x5 s5 s6 x8 s8 s9, f_C_X2_setFirst_8 (nI p) x2 s2 = some s3 ∧ f_C_X4_expect_7 (nI 8) (nI p) s3 = some s3 ∧ f_C_rec k N 0 (nI (d + 1)) (nI 0) (nI 0) s3 = some (x5, s5) ∧ f_C_X2_setSecond_8 (nI p) x5 s5 = some s6 ∧ f_C_X4_expect_7 (nI 9) (nI p) s6 = some s6 ∧ f_C_rec k N 0 (nI (d + 1)) (nI 0) (nI 0) s6 = some (x8, s8) ∧ f_C_X2_setThird_8 (nI p) x8 s8 = some s9 ∧ Dr s2 s9 := by
    intro x2 s2 hD
    obtain ⟨s3, e3, d3⟩ := C_setFirst_any (nI p) x2 s2
    have hD3 := hD.go (Dr.of d3)
    obtain ⟨x5, s5, s6, e5, e6, d6⟩ := CH2 (p := p) (a := nI (d + 1)) hR hD3
    have hD6 := hD3.go d6
    obtain ⟨x8, s8, s9, e8, e9, d9⟩ := CH3 (p := p) (a := nI (d + 1)) hR hD6
    exact ⟨s3, x5, s5, s6, x8, s8, s9, e3, D_expect hD3 (by omega) (by omega), e5, e6, D_expect hD6 (by omega) (by omega), e8, e9, ((Dr.of d3).tr d6).tr d9⟩
  have tail2 : ∀ (x5 : Int32) (s5 : hp_S), Dd s5 → ∃ s6 x8 s8 s9, f_C_X2_setSecond_8 (nI p) x5 s5 = some s6 ∧ f_C_X4_expect_7 (nI 9) (nI p) s6 = some s6 ∧ f_C_rec k N 0 (nI (d + 1)) (nI 0) (nI 0) s6 = some (x8, s8) ∧ f_C_X2_setThird_8 (nI p) x8 s8 = some s9 ∧ Dr s5 s9 := by
    intro x5 s5 hD
    obtain ⟨s6, e6, d6⟩ := C_setSecond_any (nI p) x5 s5
    have hD6 := hD.go (Dr.of d6)
    obtain ⟨x8, s8, s9, e8, e9, d9⟩ := CH3 (p := p) (a := nI (d + 1)) hR hD6
    exact ⟨s6, x8, s8, s9, e6, D_expect hD6 (by omega) (by omega), e8, e9, (Dr.of d6).tr d9⟩
  rw [rec_4]
  by_cases hq : q < 100
  case neg =>
    obtain ⟨⟨u, e1, D, u15⟩, -, -⟩ := PQ_mk0 (nI 7) nM (nI 6) h.1 hq
    have hD := D.dd hK h.2.2.1 hs4
    obtain ⟨x2, s2, e2, d2⟩ := hR u (nI (d + 1)) (nI 0) (nI 0) hD
    obtain ⟨s3, x5, s5, s6, x8, s8, s9, f3, f4, f5, f6, f7, f8, f9, dr⟩ := tail1 x2 s2 (hD.go d2)
    refine ⟨nI p, s9, mB m, C_if e1 e2 f3 f4 f5 f6 f7 f8 f9, rn_begins hb h55 (fun F hF => M_beginsB h6 (by omega) hb h12 (by omega) ?_), GF_mB, Or.inl ((D.post d2).post dr)⟩
    have := h.1.2.2.2.1
    omega
  obtain ⟨e1, -, x, ep, -, S1⟩ := ST_mk (k := 7) (f := nM) (v := nM) h hp (by omega) hq (by simp [nk]) (by omega) (Or.inl ⟨rfl, rfl⟩)
  rw [mN_7] at S1
  obtain ⟨m1, hm1⟩ : ∃ m1, m1 = mN T n K m p q (nI (kn 7)) x := ⟨_, rfl⟩
  have hm1' : hs_pA (mP T n K (mM m q (nI (kn 7))) p (nI q) x) 10 q (nI p) = m1 := hm1.symm
  rw [← hm1] at S1
  have m1A : ∀ a j, hs_A m1 a j = hs_A (mN T n K m p q (nI (kn 7)) x) a j := fun a j => by rw [hm1]
  have fq : fj m1 q = p := fj_of (by rw [m1A, mN_A]; simp) (by omega)
  have g1 : hs_fr rP rA m m1 := by
    rw [hm1]
    unfold mN
    exact (GF_mM.cons GF_mP).cons (hs_fr_pA (by decide))
  have cf1 : hs_fr cP cA s (cN s p q (nI 7) nM) := CF_cN
  have c41 : hs_I (cN s p q (nI 7) nM) 7 4 = nI z := S1.2.2.2.1
  have m123 : hs_I m1 0 23 = nI d := by rw [hm1, mN_I]; simp; exact h23
  have b1 : BF m m1 p q := by
    refine ⟨fun a j a1 a2 hj => ?_, fun t ht => ?_⟩
    · have g : ¬ j = q := by omega
      have g3 : ¬ a = 5 := by omega
      have g4 : ¬ a = 4 := by omega
      have g5 : ¬ a = 3 := by omega
      simp only [m1A, mN_A, g, g3, g4, g5, and_false, false_and, if_false]
    · have g : ¬ t = p := by omega
      simp [m1A, mN_A, g]
  have sf1 : ∀ e, SF m m1 d e := by
    intro e
    refine ⟨fun i _ => ?_, fun i _ => ?_⟩ <;> simp [m1A, mN_A]
  have s13 : ∀ t, t ≠ p → hs_A (cN s p q (nI 7) nM) 13 t = hs_A s 13 t := fun t ht => by simp only [cN, cT, hs_I_pI, hs_I_pA, hs_A_pI, hs_A_pA, and_true, true_and, and_false, false_and, and_self, eq_self, Nat.reduceEqDiff, ↓reduceIte, ht]
  have a6 : hs_A m1 6 q = nI 6 := by rw [m1A, mN_A]; simp; rfl
  have a10 : hs_A m1 10 q = nI p := by rw [m1A, mN_A]; simp
  -- the first part
  obtain ⟨m2, e2, x2, s2, m3, ec, er, eg, out⟩ := H N (by omega) _ _ _ _ _ _ (nI 4) (nI q) S1.1 S1.2.1 S1.2.2 (by omega) m123
  have r2 : rn m m2 := rn_begins hb h55 (fun F hF => M_begins6 h6 hb h12 hq (ep F hF) (by rw [hm1']; exact e2))
  rcases out with D | ⟨AL3, j2, j3, j4⟩
  · obtain ⟨s3, x5, s5, s6, x8, s8, s9, f3, f4, f5, f6, f7, f8, f9, dr⟩ := tail1 x2 s2 (D.dd hK S1.2.2.1 c41)
    exact ⟨nI p, s9, m3, C_if e1 ec f3 f4 f5 f6 f7 f8 f9, r2.tr er, g1.cons eg, Or.inl ((D.pre cf1 (c41.trans hs4.symm)).post dr)⟩
  obtain ⟨p1, q1, v1, B1, MM1, hx1⟩ := AL_AX AL3
  have bp1 := B1.1
  have bq1 := B1.2.2.2.2.2.2.2.1.1
  have hp1 := B1.2.1.1.2.2.1
  have hq1 := B1.2.1.1.2.2.2.1
  have hu1 := B1.2.2.2.2.2.1
  have hv1 := B1.2.2.2.2.2.2.1
  have BB1 := B1.2.2.2.2.1
  have fq3 : fj m3 q = p := by rw [fj_BF BB1 (by omega), fq]
  have hb3 : hs_I m3 0 50 = nI 0 := B1.2.1.1.2.2.2.2.2.1.2.2.1
  obtain ⟨m4, hm4⟩ : ∃ m4, m4 = hs_pA (hs_pI m3 0 23 (nI d)) 7 q (nI v1) := ⟨_, rfl⟩
  have S4 : ST T n K (hs_pA s2 10 p x2) m4 p1 q1 z sc := by
    have := ST_set (d := 0) (j := q) (x := x2) (y := nI v1) (ST_m B1.2.1 (hs_fr_pI (a := 0) (k := 23) (v := nI d) (by decide)) : ST T n K s2 (hs_pI m3 0 23 (nI d)) p1 q1 z sc) (by omega) (by omega) (by rw [hx1]; exact cr_v hv1)
    rw [show fj (hs_pI m3 0 23 (nI d)) q = p from fq3] at this
    rw [hm4]
    exact this
  have m4A : ∀ a j, hs_A m4 a j = if a = 7 ∧ j = q then nI v1 else hs_A m3 a j := fun a j => by rw [hm4]; simp only [hs_I_pI, hs_I_pA, hs_A_pI, hs_A_pA, and_true, true_and, and_false, false_and, and_self, eq_self, Nat.reduceEqDiff, ↓reduceIte]
  have fq4 : fj m4 q = p := by rw [← fq3]; simp only [fj, m4A, hs_I_pI, hs_I_pA, hs_A_pI, hs_A_pA, and_true, true_and, and_false, false_and, and_self, eq_self, Nat.reduceEqDiff, ↓reduceIte]
  have cs1 : f_C_X2_setFirst_8 (nI p) x2 s2 = some (hs_pA s2 10 p x2) := C_setFirst (by omega)
  have g4 : hs_fr rP rA m m4 := by
    rw [hm4]
    exact (g1.cons eg).cons ((hs_fr_pI (by decide)).cons (hs_fr_pA (by decide)))
  have cf4 : hs_fr cP cA s (hs_pA s2 10 p x2) := (cf1.cons B1.2.2.2.1).cons (hs_fr_pA (by decide))
  have R3 : rn m m3 := r2.tr er
  have m423 : hs_I m4 0 23 = nI d := by rw [hm4]; simp only [hs_I_pI, hs_I_pA, hs_A_pI, hs_A_pA, and_true, true_and, and_false, false_and, and_self, eq_self, Nat.reduceEqDiff, ↓reduceIte]
  by_cases t8 : tk_K T n K p1 = 8
  case neg =>
    obtain ⟨ce, et, D9⟩ := PQ_take0 (nI p) (nI q) S4.1 t8 (by omega)
    have D9' := D9.pre cf4 (by rw [S4.2.2.2.1, hs4])
    have hD := D9'.dd hK h.2.2.1 hs4
    obtain ⟨x5, s5, s6, e5, e6, d6⟩ := CH2 (p := p) (a := nI (d + 1)) hR hD
    have hD6 := hD.go d6
    obtain ⟨x8, s8, s9, e8, e9, d9⟩ := CH3 (p := p) (a := nI (d + 1)) hR hD6
    obtain ⟨m11, f1, f2, f3', f4⟩ := M_enterB (m := mB m4) (d := d) (w := nI 5) (v := nI q) (by simp only [mB, hs_I_pI, hs_I_pA, hs_A_pI, hs_A_pA, and_true, true_and, and_false, false_and, and_self, eq_self, Nat.reduceEqDiff, ↓reduceIte]; exact m423) (by omega) (by simp only [mB, hs_I_pI, hs_I_pA, hs_A_pI, hs_A_pA, and_true, true_and, and_false, false_and, and_self, eq_self, Nat.reduceEqDiff, ↓reduceIte])
    exact ⟨nI p, s9, m11, C_if e1 ec cs1 ce e5 e6 (D_expect hD6 (by omega) (by omega)) e8 e9, R3.tr (rn_ended hb3 MM1.2.1 (fun F hF => M_ended4 (y := nI 0) (m2 := mB m4) MM1.1 (by omega) j3 j4 (by omega) (by rw [MM1.2.2, ← hm4]; exact et F) f1)), (g4.cons GF_mB).cons f4, Or.inl (((mB_G D9' f2 f3').post d6).post d9)⟩
  obtain ⟨hp1', ce5, x5, et5, -, S5⟩ := ST_take (a := nI p) (b := nI q) S4 t8 (by omega) (Or.inr ⟨q, by omega, rfl, by rw [fq4]⟩)
  obtain ⟨m5, hm5⟩ : ∃ m5, m5 = mP T n K m4 p1 (nI q) x5 := ⟨_, rfl⟩
  rw [← hm5] at S5
  have m5A : ∀ a j, hs_A m5 a j = if a = 5 ∧ j = p1 then nI q else if a = 4 ∧ j = p1 then nI (tk_e T n p1) else if a = 3 ∧ j = p1 then nI (tk_p T n p1) else hs_A m4 a j := fun a j => by rw [hm5, mP_A]
  have m523 : hs_I m5 0 23 = nI d := by rw [hm5, mP_I]; simp; exact m423
  have g5 : hs_fr rP rA m m5 := by
    rw [hm5]
    exact g4.cons GF_mP
  have cf5 : hs_fr cP cA s (cT (hs_pA s2 10 p x2) p1 (nI p)) := cf4.cons CF_cT
  -- the second part
  obtain ⟨m6, e6, x6, s6, m7, ec2, er2, eg2, out⟩ := H N (by omega) _ _ _ _ _ _ (nI 5) (nI q) S5.1 S5.2.1 S5.2.2 (by omega) m523
  have r6 : rn m m6 := R3.tr (rn_ended hb3 MM1.2.1 (fun F hF => M_ended4 (y := nI p1) (m2 := m5) MM1.1 (by omega) j3 j4 (by omega) (by rw [MM1.2.2, ← hm4, hm5]; exact et5 F hF) e6))
  rcases out with D | ⟨AL7, l2, l3, l4⟩
  · obtain ⟨s6', x8, s8, s9, f6, f7, f8, f9, dr⟩ := tail2 x6 s6 (D.dd hK S5.2.2.1 S5.2.2.2.1)
    exact ⟨nI p, s9, m7, C_if e1 ec cs1 ce5 ec2 f6 f7 f8 f9, r6.tr er2, g5.cons eg2, Or.inl ((D.pre cf5 (S5.2.2.2.1.trans hs4.symm)).post dr)⟩
  obtain ⟨p2, q2, v2, B2, MM2, hx2⟩ := AL_AX AL7
  have bp2 := B2.1
  have bq2 := B2.2.2.2.2.2.2.2.1.1
  have hp2 := B2.2.1.1.2.2.1
  have hq2 := B2.2.1.1.2.2.2.1
  have hu2 := B2.2.2.2.2.2.1
  have hv2 := B2.2.2.2.2.2.2.1
  have BB2 := B2.2.2.2.2.1
  have fq5 : fj m5 q = p := by rw [← fq4]; simp only [fj, m5A, hs_I_pI, hs_I_pA, hs_A_pI, hs_A_pA, and_true, true_and, and_false, false_and, and_self, eq_self, Nat.reduceEqDiff, ↓reduceIte]
  have fq7 : fj m7 q = p := by rw [fj_BF BB2 (by omega), fq5]
  have hb7 : hs_I m7 0 50 = nI 0 := B2.2.1.1.2.2.2.2.2.1.2.2.1
  obtain ⟨m8, hm8⟩ : ∃ m8, m8 = hs_pA (hs_pI m7 0 23 (nI d)) 8 q (nI v2) := ⟨_, rfl⟩
  have S8 : ST T n K (hs_pA s6 11 p x6) m8 p2 q2 z sc := by
    have := ST_set (d := 1) (j := q) (x := x6) (y := nI v2) (ST_m B2.2.1 (hs_fr_pI (a := 0) (k := 23) (v := nI d) (by decide)) : ST T n K s6 (hs_pI m7 0 23 (nI d)) p2 q2 z sc) (by omega) (by omega) (by rw [hx2]; exact cr_v hv2)
    rw [show fj (hs_pI m7 0 23 (nI d)) q = p from fq7] at this
    rw [hm8]
    exact this
  have m8A : ∀ a j, hs_A m8 a j = if a = 8 ∧ j = q then nI v2 else hs_A m7 a j := fun a j => by rw [hm8]; simp only [hs_I_pI, hs_I_pA, hs_A_pI, hs_A_pA, and_true, true_and, and_false, false_and, and_self, eq_self, Nat.reduceEqDiff, ↓reduceIte]
  have fq8 : fj m8 q = p := by rw [← fq7]; simp only [fj, m8A, hs_I_pI, hs_I_pA, hs_A_pI, hs_A_pA, and_true, true_and, and_false, false_and, and_self, eq_self, Nat.reduceEqDiff, ↓reduceIte]
  have cs2 : f_C_X2_setSecond_8 (nI p) x6 s6 = some (hs_pA s6 11 p x6) := C_setSecond (by omega)
  have g8 : hs_fr rP rA m m8 := by
    rw [hm8]
    exact (g5.cons eg2).cons ((hs_fr_pI (by decide)).cons (hs_fr_pA (by decide)))
  have cf8 : hs_fr cP cA s (hs_pA s6 11 p x6) := (cf5.cons B2.2.2.2.1).cons (hs_fr_pA (by decide))
  have R7 : rn m m7 := r6.tr er2
  have m823 : hs_I m8 0 23 = nI d := by rw [hm8]; simp only [hs_I_pI, hs_I_pA, hs_A_pI, hs_A_pA, and_true, true_and, and_false, false_and, and_self, eq_self, Nat.reduceEqDiff, ↓reduceIte]
  by_cases t9 : tk_K T n K p2 = 9
  case neg =>
    obtain ⟨ce, et, D9⟩ := PQ_take0 (nI p) (nI q) S8.1 t9 (by omega)
    have D9' := D9.pre cf8 (by rw [S8.2.2.2.1, hs4])
    have hD := D9'.dd hK h.2.2.1 hs4
    obtain ⟨x8, s8, s9, e8, e9, d9⟩ := CH3 (p := p) (a := nI (d + 1)) hR hD
    obtain ⟨m11, f1, f2, f3', f4⟩ := M_enterB (m := mB m8) (d := d) (w := nI 6) (v := nI q) (by simp only [mB, hs_I_pI, hs_I_pA, hs_A_pI, hs_A_pA, and_true, true_and, and_false, false_and, and_self, eq_self, Nat.reduceEqDiff, ↓reduceIte]; exact m823) (by omega) (by simp only [mB, hs_I_pI, hs_I_pA, hs_A_pI, hs_A_pA, and_true, true_and, and_false, false_and, and_self, eq_self, Nat.reduceEqDiff, ↓reduceIte])
    exact ⟨nI p, s9, m11, C_if e1 ec cs1 ce5 ec2 cs2 ce e8 e9, R7.tr (rn_ended hb7 MM2.2.1 (fun F hF => M_ended5 (y := nI 0) (m2 := mB m8) MM2.1 (by omega) l3 l4 (by omega) (by rw [MM2.2.2, ← hm8]; exact et F) f1)), (g8.cons GF_mB).cons f4, Or.inl ((mB_G D9' f2 f3').post d9)⟩
  obtain ⟨hp2', ce9, x9, et9, -, S9⟩ := ST_take (a := nI p) (b := nI q) S8 t9 (by omega) (Or.inr ⟨q, by omega, rfl, by rw [fq8]⟩)
  obtain ⟨m9, hm9⟩ : ∃ m9, m9 = mP T n K m8 p2 (nI q) x9 := ⟨_, rfl⟩
  rw [← hm9] at S9
  have m9A : ∀ a j, hs_A m9 a j = if a = 5 ∧ j = p2 then nI q else if a = 4 ∧ j = p2 then nI (tk_e T n p2) else if a = 3 ∧ j = p2 then nI (tk_p T n p2) else hs_A m8 a j := fun a j => by rw [hm9, mP_A]
  have m923 : hs_I m9 0 23 = nI d := by rw [hm9, mP_I]; simp; exact m823
  have g9 : hs_fr rP rA m m9 := by
    rw [hm9]
    exact g8.cons GF_mP
  have cf9 : hs_fr cP cA s (cT (hs_pA s6 11 p x6) p2 (nI p)) := cf8.cons CF_cT
  -- the third part
  obtain ⟨m10, e10, x10, s10, m11, ec3, er3, eg3, out⟩ := H N (by omega) _ _ _ _ _ _ (nI 6) (nI q) S9.1 S9.2.1 S9.2.2 (by omega) m923
  have r10 : rn m m10 := R7.tr (rn_ended hb7 MM2.2.1 (fun F hF => M_ended5 (y := nI p2) (m2 := m9) MM2.1 (by omega) l3 l4 (by omega) (by rw [MM2.2.2, ← hm8, hm9]; exact et9 F hF) e10))
  rcases out with D | ⟨AL11, o2, o3, o4⟩
  · obtain ⟨s9, e9, d9⟩ := C_setThird_any (nI p) x10 s10
    exact ⟨nI p, s9, m11, C_if e1 ec cs1 ce5 ec2 cs2 ce9 ec3 e9, r10.tr er3, g9.cons eg3, Or.inl ((D.pre cf9 (S9.2.2.2.1.trans hs4.symm)).post (Dr.of d9))⟩
  obtain ⟨p3, q3, v3, B3, MM3, hx3⟩ := AL_AX AL11
  have bp3 := B3.1
  have bq3 := B3.2.2.2.2.2.2.2.1.1
  have hp3 := B3.2.1.1.2.2.1
  have hq3 := B3.2.1.1.2.2.2.1
  have hu3 := B3.2.2.2.2.2.1
  have hv3 := B3.2.2.2.2.2.2.1
  have BB3 := B3.2.2.2.2.1
  have fq9 : fj m9 q = p := by rw [← fq8]; simp only [fj, m9A, hs_I_pI, hs_I_pA, hs_A_pI, hs_A_pA, and_true, true_and, and_false, false_and, and_self, eq_self, Nat.reduceEqDiff, ↓reduceIte]
  have fq11 : fj m11 q = p := by rw [fj_BF BB3 (by omega), fq9]
  have hb11 : hs_I m11 0 50 = nI 0 := B3.2.1.1.2.2.2.2.2.1.2.2.1
  obtain ⟨m12, hm12⟩ : ∃ m12, m12 = hs_pI (hs_pA (hs_pI m11 0 23 (nI d)) 9 q (nI v3)) 0 56 (nI q) := ⟨_, rfl⟩
  have r12 : rn m11 m12 := rn_ended hb11 MM3.2.1 (fun F hF => by rw [M_ended6 MM3.1 (by omega) o3 o4 (by omega), hm12, MM3.2.2])
  have S12 : ST T n K (hs_pA s10 12 p x10) m12 p3 q3 z sc := by
    have := ST_set (d := 2) (j := q) (x := x10) (y := nI v3) (ST_m B3.2.1 (hs_fr_pI (a := 0) (k := 23) (v := nI d) (by decide)) : ST T n K s10 (hs_pI m11 0 23 (nI d)) p3 q3 z sc) (by omega) (by omega) (by rw [hx3]; exact cr_v hv3)
    rw [show fj (hs_pI m11 0 23 (nI d)) q = p from fq11] at this
    rw [hm12]
    exact ST_m this (hs_fr_pI (by decide))
  have m12A : ∀ a j, hs_A m12 a j = if a = 9 ∧ j = q then nI v3 else hs_A m11 a j := fun a j => by rw [hm12]; simp only [hs_I_pI, hs_I_pA, hs_A_pI, hs_A_pA, and_true, true_and, and_false, false_and, and_self, eq_self, Nat.reduceEqDiff, ↓reduceIte]
  have cs3 : f_C_X2_setThird_8 (nI p) x10 s10 = some (hs_pA s10 12 p x10) := C_setThird (by omega)
  -- arrays
  have n12 : ∀ a j, j ≠ q → hs_A m12 a j = hs_A m11 a j := fun a j g => by rw [m12A, if_neg (fun q => g q.2)]
  have n9 : ∀ a j, 6 ≤ a → j ≠ q → hs_A m9 a j = hs_A m7 a j := fun a j a1 g => by
    rw [m9A, if_neg (by omega), if_neg (by omega), if_neg (by omega), m8A, if_neg (fun q => g q.2)]
  have n5 : ∀ a j, 6 ≤ a → j ≠ q → hs_A m5 a j = hs_A m3 a j := fun a j a1 g => by
    rw [m5A, if_neg (by omega), if_neg (by omega), if_neg (by omega), m4A, if_neg (fun q => g q.2)]
  have u12 : ∀ t, hs_A m12 5 t = hs_A m11 5 t := fun t => by rw [m12A]; simp
  have u9 : ∀ t, t ≠ p2 → hs_A m9 5 t = hs_A m7 5 t := fun t g => by
    rw [m9A, if_neg (by omega), if_neg (by omega), if_neg (by omega), m8A, if_neg (by omega)]
  have u5 : ∀ t, t ≠ p1 → hs_A m5 5 t = hs_A m3 5 t := fun t g => by
    rw [m5A, if_neg (by omega), if_neg (by omega), if_neg (by omega), m4A, if_neg (by omega)]
  have w2 : ∀ a j, 6 ≤ a → a ≤ 15 → j ≠ q → j < q2 → hs_A m12 a j = hs_A m7 a j := fun a j a1 a2 g g2 => by
    rw [n12 a j g, BB3.1 a j a1 a2 g2, n9 a j a1 g]
  have w1 : ∀ a j, 6 ≤ a → a ≤ 15 → j ≠ q → j < q1 → hs_A m12 a j = hs_A m3 a j := fun a j a1 a2 g g2 => by
    rw [w2 a j a1 a2 g (by omega), BB2.1 a j a1 a2 g2, n5 a j a1 g]
  have y2 : ∀ t, t < p2 → hs_A m12 5 t = hs_A m7 5 t := fun t g => by
    rw [u12, BB3.2 t (by omega), u9 t (by omega)]
  have y1 : ∀ t, t < p1 → hs_A m12 5 t = hs_A m3 5 t := fun t g => by
    rw [y2 t (by omega), BB2.2 t (by omega), u5 t (by omega)]
  have kq : ∀ a, 6 ≤ a → a ≤ 15 → a ≠ 7 → a ≠ 8 → a ≠ 9 → hs_A m12 a q = hs_A m1 a q := fun a a1 a2 g7 g8 g9 => by
    rw [m12A, if_neg (by omega), BB3.1 a q a1 a2 (by omega), m9A, if_neg (by omega), if_neg (by omega), if_neg (by omega), m8A, if_neg (by omega), BB2.1 a q a1 a2 (by omega), m5A, if_neg (by omega), if_neg (by omega), if_neg (by omega), m4A, if_neg (by omega), BB1.1 a q a1 a2 (by omega)]
  have k8 : hs_A m12 8 q = nI v2 := by
    rw [m12A, if_neg (by omega), BB3.1 8 q (by omega) (by omega) (by omega), m9A, if_neg (by omega), if_neg (by omega), if_neg (by omega), m8A]; simp
  have k7 : hs_A m12 7 q = nI v1 := by
    rw [m12A, if_neg (by omega), BB3.1 7 q (by omega) (by omega) (by omega), m9A, if_neg (by omega), if_neg (by omega), if_neg (by omega), m8A, if_neg (by omega), BB2.1 7 q (by omega) (by omega) (by omega), m5A, if_neg (by omega), if_neg (by omega), if_neg (by omega), m4A]; simp
  have z12 : ∀ t, hs_A (hs_pA s10 12 p x10) 13 t = hs_A s10 13 t := fun t => by simp only [hs_I_pI, hs_I_pA, hs_A_pI, hs_A_pA, and_true, true_and, and_false, false_and, and_self, eq_self, Nat.reduceEqDiff, ↓reduceIte]
  have z9 : ∀ t, hs_A (cT (hs_pA s6 11 p x6) p2 (nI p)) 13 t = hs_A s6 13 t := fun t => by simp only [cT, hs_I_pI, hs_I_pA, hs_A_pI, hs_A_pA, and_true, true_and, and_false, false_and, and_self, eq_self, Nat.reduceEqDiff, ↓reduceIte]
  have z5 : ∀ t, hs_A (cT (hs_pA s2 10 p x2) p1 (nI p)) 13 t = hs_A s2 13 t := fun t => by simp only [cT, hs_I_pI, hs_I_pA, hs_A_pI, hs_A_pA, and_true, true_and, and_false, false_and, and_self, eq_self, Nat.reduceEqDiff, ↓reduceIte]
  have zz2 : ∀ t, t < p2 → hs_A (hs_pA s10 12 p x10) 13 t = hs_A s6 13 t := fun t g => by rw [z12, B3.2.2.1 t (by omega), z9]
  have zz1 : ∀ t, t < p1 → hs_A (hs_pA s10 12 p x10) 13 t = hs_A s2 13 t := fun t g => by rw [zz2 t (by omega), B2.2.2.1 t (by omega), z5]
  have fq12 : fj m12 q = p := fj_of (by rw [kq 10 (by omega) (by omega) (by omega) (by omega) (by omega)]; exact a10) (by omega)
  have SB1 : SG T n K m12 (p + 1) (q + 1) p1 q1 := SG_fr B1.2.2.2.2.2.2.2.1 (fun a j a1 a2 g1 g2 => w1 a j a1 a2 (by omega) g2) (fun t _ g => y1 t g)
  have SB2 : SG T n K m12 (p1 + 1) q1 p2 q2 := SG_fr B2.2.2.2.2.2.2.2.1 (fun a j a1 a2 g1 g2 => w2 a j a1 a2 (by omega) g2) (fun t _ g => y2 t g)
  have SB3 : SG T n K m12 (p2 + 1) q2 p3 q3 := SG_fr B3.2.2.2.2.2.2.2.1 (fun a j a1 a2 g1 g2 => n12 a j (by omega)) (fun t _ _ => u12 t)
  have NB1 : NM T n (hs_pA s10 12 p x10) m12 (q + 1) q1 z sc := NM_fr B1.2.2.2.2.2.2.2.1 B1.2.2.2.2.2.2.2.2 (fun a j a1 a2 g1 g2 => w1 a j a1 a2 (by omega) g2) (fun t _ g => zz1 t g)
  have NB2 : NM T n (hs_pA s10 12 p x10) m12 q1 q2 z sc := NM_fr B2.2.2.2.2.2.2.2.1 B2.2.2.2.2.2.2.2.2 (fun a j a1 a2 g1 g2 => w2 a j a1 a2 (by omega) g2) (fun t _ g => zz2 t g)
  have NB3 : NM T n (hs_pA s10 12 p x10) m12 q2 q3 z sc := NM_fr B3.2.2.2.2.2.2.2.1 B3.2.2.2.2.2.2.2.2 (fun a j a1 a2 g1 g2 => n12 a j (by omega)) (fun t _ _ => z12 t)
  obtain ⟨G1, G2⟩ := SN_if SB1 NB1 SB2 NB2 SB3 NB3 fq12 (by rw [kq 6 (by omega) (by omega) (by omega) (by omega) (by omega)]; exact a6) k7 ⟨hu1, hv1⟩ k8 ⟨hu2, hv2⟩ (c := v3) (by rw [m12A]; simp) ⟨hu3, hv3⟩ ⟨by omega, by omega, by omega⟩
  refine ⟨nI p, _, m12, C_if e1 ec cs1 ce5 ec2 cs2 ce9 ec3 cs3, (r10.tr er3).tr r12, ?_, Or.inr ⟨p3, q3, q, ⟨by omega, S12, fun t ht => ?_, ?_, ?_, Nat.le_refl _, by omega, G1, G2⟩, ?_, by rw [fq12], ?_⟩⟩
  · rw [hm12]
    exact (g9.cons eg3).cons ((hs_fr_pI (by decide)).cons ((hs_fr_pA (by decide)).cons (hs_fr_pI (by decide))))
  · rw [zz1 t (by omega), B1.2.2.1 t (by omega), s13 t (by omega)]
  · exact (cf9.cons B3.2.2.2.1).cons (hs_fr_pA (by decide))
  · refine (b1.tr BB1 (by omega) (by omega)).tr (p' := p) (q' := q) ⟨fun a j a1 a2 hj => w1 a j a1 a2 (by omega) (by omega), fun t ht => y1 t (by omega)⟩ (Nat.le_refl _) (Nat.le_refl _)
  · rw [hm12]
    refine ⟨?_, ?_, ?_⟩
    · simp only [hs_I_pI, hs_I_pA, hs_A_pI, hs_A_pA, and_true, true_and, and_false, false_and, and_self, eq_self, Nat.reduceEqDiff, ↓reduceIte]
    · simp only [hs_I_pI, hs_I_pA, hs_A_pI, hs_A_pA, and_true, true_and, and_false, false_and, and_self, eq_self, Nat.reduceEqDiff, ↓reduceIte]; exact MM3.2.1
    · simp only [hs_I_pI, hs_I_pA, hs_A_pI, hs_A_pA, and_true, true_and, and_false, false_and, and_self, eq_self, Nat.reduceEqDiff, ↓reduceIte]
  · have f5 : SF m3 m5 d (d - 1) := by
      refine ⟨fun i _ => ?_, fun i _ => ?_⟩ <;> simp [m5A, m4A]
    have f9 : SF m7 m9 d (d - 1) := by
      refine ⟨fun i _ => ?_, fun i _ => ?_⟩ <;> simp [m9A, m8A]
    have f12 : SF m11 m12 d (d - 1) := by
      refine ⟨fun i _ => ?_, fun i _ => ?_⟩ <;> simp [m12A]
    exact ((((((sf1 (d - 1)).tr j2 (Nat.le_refl _) (by omega)).tr f5 (Nat.le_refl _) (Nat.le_refl _)).tr l2 (Nat.le_refl _) (by omega)).tr f9 (Nat.le_refl _) (Nat.le_refl _)).tr o2 (Nat.le_refl _) (by omega)).tr f12 (Nat.le_refl _) (Nat.le_refl _)
