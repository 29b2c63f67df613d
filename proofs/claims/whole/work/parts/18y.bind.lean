/-! FN and LET -/
theorem ST_push {T : Nat → Nat} {n K : Nat} {s m : hp_S} {p q z f : Nat} {sc : Nat → Nat} (h : ST T n K s m p q z sc) (hz : z < 20) (hf : f + 1 < p) : ST T n K (hs_pI (hs_pA s 15 z (nI f)) 7 4 (nI (z + 1))) m p q (z + 1) (fun i => if i = z then f else sc i) := by
  refine ⟨PQ_fr (P := [(7, 4)]) (A := [15]) (P' := []) (A' := []) h.1 ((hs_fr_pA (by decide)).cons (hs_fr_pI (by decide))) hs_fr.rf (by simp) (by simp), un_id h.2.1 (by simp only [hs_I_pI, hs_I_pA, hs_A_pI, hs_A_pA, and_true, true_and, and_false, false_and, and_self, eq_self, Nat.reduceEqDiff, ↓reduceIte]) (fun _ => rfl) (fun _ => rfl) (fun t => by simp only [hs_I_pI, hs_I_pA, hs_A_pI, hs_A_pA, and_true, true_and, and_false, false_and, and_self, eq_self, Nat.reduceEqDiff, ↓reduceIte]), by omega, by simp only [hs_I_pI, hs_I_pA, hs_A_pI, hs_A_pA, and_true, true_and, and_false, false_and, and_self, eq_self, Nat.reduceEqDiff, ↓reduceIte], fun i hi => ?_⟩
  by_cases c : i = z
  · subst c
    simp only [hs_I_pI, hs_I_pA, hs_A_pI, hs_A_pA, and_true, true_and, and_false, false_and, and_self, eq_self, Nat.reduceEqDiff, ↓reduceIte]
    exact hf
  · have := h.2.2.2.2 i (by omega)
    simp only [hs_I_pI, hs_I_pA, hs_A_pI, hs_A_pA, and_true, true_and, and_false, false_and, and_self, eq_self, Nat.reduceEqDiff, ↓reduceIte, c]
    exact this
theorem ST_pop {T : Nat → Nat} {n K : Nat} {s m : hp_S} {p q z f : Nat} {sc : Nat → Nat} (h : ST T n K s m p q (z + 1) (fun i => if i = z then f else sc i)) : ST T n K (hs_pI s 7 4 (nI z)) m p q z sc := by
  refine ⟨PQ_fr (P := [(7, 4)]) (A := []) (P' := []) (A' := []) h.1 (hs_fr_pI (by decide)) hs_fr.rf (by simp) (by simp), un_id h.2.1 (by simp only [hs_I_pI, hs_I_pA, hs_A_pI, hs_A_pA, and_true, true_and, and_false, false_and, and_self, eq_self, Nat.reduceEqDiff, ↓reduceIte]) (fun _ => rfl) (fun _ => rfl) (fun t => by simp only [hs_I_pI, hs_I_pA, hs_A_pI, hs_A_pA, and_true, true_and, and_false, false_and, and_self, eq_self, Nat.reduceEqDiff, ↓reduceIte]), ?_, by simp only [hs_I_pI, hs_I_pA, hs_A_pI, hs_A_pA, and_true, true_and, and_false, false_and, and_self, eq_self, Nat.reduceEqDiff, ↓reduceIte], fun i hi => ?_⟩
  · have := h.2.2.1
    omega
  · have := h.2.2.2.2 i (by omega)
    have c : ¬ i = z := by omega
    simp only [hs_I_pI, hs_I_pA, hs_A_pI, hs_A_pA, and_true, true_and, and_false, false_and, and_self, eq_self, Nat.reduceEqDiff, ↓reduceIte, c] at this ⊢
    exact this
theorem C_inScope {R : Nat → Int32 → Int32 → Int32 → hp_S → Option (Int32 × hp_S)} {k z d : Nat} {f x : Int32} {s s5 : hp_S} (h4 : hs_I s 7 4 = nI z) (hz : z < 20) (hd : d < 100) (hR : R 0 (nI (d + 1)) (nI 0) (nI 0) (hs_pI (hs_pA s 15 z f) 7 4 (nI (z + 1))) = some (x, s5)) (h5 : hs_I s5 7 4 = nI (z + 1)) : f_C_X4_expressionInScope_7 R k f (nI d) s = some (x, hs_pI s5 7 4 (nI z)) := by
  unfold f_C_X4_expressionInScope_7
  simp (disch := omega) only [↓reduceIte, z_lit, z_m1, z_gd, z_le, z_lt, z_eq, z_em, z_me, z_ml, z_mle, z_lm, z_lem, z_pos, z_sub, nI_add, nI_clamp, ib_nI, pm_let, pm_bd, pm_b1, if_true, if_false, ite_true, ite_false, Nat.not_lt_zero, Nat.zero_le, hs_I_pI, hs_I_pA, hs_A_pI, hs_A_pA, and_true, true_and, and_false, false_and, and_self, eq_self, Nat.reduceEqDiff, ↓reduceIte, h4, hz, hR, h5, Nat.add_sub_cancel]
  all_goals simp
theorem DE_pop {T : Nat → Nat} {n K z : Nat} {f : Int32} {s s5 m' : hp_S} (h : DE T n K (hs_pI (hs_pA s 15 z f) 7 4 (nI (z + 1))) s5 m') (h4 : hs_I s 7 4 = nI z) : DE T n K s (hs_pI s5 7 4 (nI z)) m' := by
  obtain ⟨h1, h2, t, h3, h5, h6⟩ := h
  exact ⟨(((hs_fr_pA (by decide)).cons (hs_fr_pI (by decide))).cons h1).cons (hs_fr_pI (by decide)), by simp only [hs_I_pI, hs_I_pA, hs_A_pI, hs_A_pA, and_true, true_and, and_false, false_and, and_self, eq_self, Nat.reduceEqDiff, ↓reduceIte]; exact h4.symm, t, h3, by simp only [hs_I_pI, hs_I_pA, hs_A_pI, hs_A_pA, and_true, true_and, and_false, false_and, and_self, eq_self, Nat.reduceEqDiff, ↓reduceIte]; exact h5, h6⟩
def hdc (c e w r : Nat) : Prop := (c = 4 ∧ e = 15 ∧ w = 1 ∧ r = 12) ∨ (c = 5 ∧ e = 16 ∧ w = 2 ∧ r = 14)
theorem M_headC {F p q c e w r : Nat} {m m2 m3 m4 m5 : hp_S} {y y4 : Int32} (hc : hdc c e w r) (h6 : hs_I m 0 6 = nI (k_M c)) (hb : hs_I m 0 50 = nI 0) (h12 : hs_I m 0 12 = nI q) (hq : q < 100) (hp : f_M_X11_pass_0 F (nI q) (mM m q (nI (kn c))) = some (nI p, m2)) (ht : f_M_X11_take_0 F (nI (k_M 2)) (nI q) (hs_pA m2 10 q (nI p)) = some (y, m3)) (h3 : hs_I m3 0 50 = nI 0) (ht4 : f_M_X11_take_0 F (nI (k_M e)) (nI q) (hs_pA m3 11 q y) = some (y4, m4)) (h4 : hs_I m4 0 50 = nI 0) (he : f_M_X11_enter_0 (nI w) (nI q) (hs_pA m4 r q (hs_I m4 0 11)) = some m5) : f_M_X11_begins_0 F m = some m5 := by
  rcases hc with ⟨rfl, rfl, rfl, rfl⟩ | ⟨rfl, rfl, rfl, rfl⟩
  · exact M_begins3c h6 hb h12 hq hp ht h3 ht4 h4 he
  · exact M_begins4c h6 hb h12 hq hp ht h3 ht4 h4 he
theorem M_headB {F p q c e w r : Nat} {m m2 m3 m4 : hp_S} {y y4 : Int32} (hc : hdc c e w r) (h6 : hs_I m 0 6 = nI (k_M c)) (hb : hs_I m 0 50 = nI 0) (h12 : hs_I m 0 12 = nI q) (hq : q < 100) (hp : f_M_X11_pass_0 F (nI q) (mM m q (nI (kn c))) = some (nI p, m2)) (ht : f_M_X11_take_0 F (nI (k_M 2)) (nI q) (hs_pA m2 10 q (nI p)) = some (y, m3)) (h3 : hs_I m3 0 50 = nI 0) (ht4 : f_M_X11_take_0 F (nI (k_M e)) (nI q) (hs_pA m3 11 q y) = some (y4, m4)) (h4 : hs_I m4 0 50 = nI 1) : f_M_X11_begins_0 F m = some m4 := by
  rcases hc with ⟨rfl, rfl, rfl, rfl⟩ | ⟨rfl, rfl, rfl, rfl⟩
  · exact M_begins3b h6 hb h12 hq hp ht h3 ht4 h4
  · exact M_begins4b h6 hb h12 hq hp ht h3 ht4 h4
theorem M_headA {F p q c e w r : Nat} {m m2 m3 : hp_S} {y : Int32} (hc : hdc c e w r) (h6 : hs_I m 0 6 = nI (k_M c)) (hb : hs_I m 0 50 = nI 0) (h12 : hs_I m 0 12 = nI q) (hq : q < 100) (hp : f_M_X11_pass_0 F (nI q) (mM m q (nI (kn c))) = some (nI p, m2)) (ht : f_M_X11_take_0 F (nI (k_M 2)) (nI q) (hs_pA m2 10 q (nI p)) = some (y, m3)) (h3 : hs_I m3 0 50 = nI 1) : f_M_X11_begins_0 F m = some (hs_pA m3 11 q y) := by
  rcases hc with ⟨rfl, rfl, rfl, rfl⟩ | ⟨rfl, rfl, rfl, rfl⟩
  · exact M_begins34a (c := 3) h6 (Or.inl rfl) hb h12 hq hp ht h3
  · exact M_begins34a (c := 4) h6 (Or.inr rfl) hb h12 hq hp ht h3
theorem HEAD {T : Nat → Nat} {n K : Nat} {s m : hp_S} {p q z c e w r : Nat} {sc : Nat → Nat} (h : ST T n K s m p q z sc) (hc : hdc c e w r) (hkd : tk_K T n K p = c) (h55 : hs_I m 0 55 = nI 0) :
    ∃ s1 s2 s3, f_C_X4_beginNode_7 (nI c) nM s = some (nI p, s1) ∧ f_C_X4_expect_7 (nI 2) (nI p) s1 = some s2 ∧ f_C_X4_expect_7 (nI e) (nI p) s2 = some s3 ∧
    ((∃ m', rn m m' ∧ hs_fr rP rA m m' ∧ DE T n K s s3 m') ∨
     (q < 100 ∧ tk_K T n K (p + 1) = 2 ∧ tk_K T n K (p + 2) = e ∧ hs_fr cP cA s s3 ∧ (∀ t, t ≠ p → hs_A s3 13 t = hs_A s 13 t) ∧ ∃ m5, ST T n K s3 m5 (p + 3) (q + 1) z sc ∧ hs_fr rP rA m m5 ∧ BF m m5 p q ∧ (∀ d e, SF m m5 d e) ∧ hs_I m5 0 23 = hs_I m 0 23 ∧ (hs_A m5 6 q = nI (kn c) ∧ hs_A m5 7 q = nM ∧ hs_A m5 8 q = nM ∧ hs_A m5 9 q = nM ∧ hs_A m5 10 q = nI p ∧ hs_A m5 11 q = nI (p + 1) ∧ hs_A m5 r q = nI (p + 3) ∧ hs_A m5 5 (p + 1) = nI q ∧ hs_A m5 5 (p + 2) = nI q) ∧ ∀ m6, f_M_X11_enter_0 (nI w) (nI q) m5 = some m6 → rn m m6)) := by
  have hK := h.1.1.2.2.1
  have hc2 : (c = 4 ∨ c = 5) ∧ (e = 15 ∨ e = 16) ∧ (r = 12 ∨ r = 14) := by unfold hdc at hc; omega
  have hp : p < K := tk_K_p (T := T) (n := n) (by omega)
  have h6 : hs_I m 0 6 = nI (k_M c) := by have := h.1.2.2.2.2.2.1.2.2.2.1; rw [hkd] at this; exact this
  have hb : hs_I m 0 50 = nI 0 := h.1.2.2.2.2.2.1.2.2.1
  have h12 : hs_I m 0 12 = nI q := h.1.2.2.2.2.2.1.2.1
  have hnk : nk c := by rcases hc2.1 with rfl | rfl <;> simp [nk]
  by_cases hq : q < 100
  · obtain ⟨e1, -, x, ep, -, S1⟩ := ST_mk (k := c) (f := nM) (v := nM) h hp (by omega) hq hnk (by omega) (Or.inl ⟨rfl, rfl⟩)
    rw [mN_7] at S1
    obtain ⟨m1, hm1⟩ : ∃ m1, m1 = mN T n K m p q (nI (kn c)) x := ⟨_, rfl⟩
    have hm1' : hs_pA (mP T n K (mM m q (nI (kn c))) p (nI q) x) 10 q (nI p) = m1 := hm1.symm
    rw [← hm1] at S1
    have m1A : ∀ a j, hs_A m1 a j = hs_A (mN T n K m p q (nI (kn c)) x) a j := fun a j => by rw [hm1]
    have fq : fj m1 q = p := fj_of (by rw [m1A, mN_A]; simp) (by omega)
    have g1 : hs_fr rP rA m m1 := by
      rw [hm1]
      unfold mN
      exact (GF_mM.cons GF_mP).cons (hs_fr_pA (by decide))
    have cf1 : hs_fr cP cA s (cN s p q (nI c) nM) := CF_cN
    have c41 : hs_I (cN s p q (nI c) nM) 7 4 = hs_I s 7 4 := by rw [S1.2.2.2.1, h.2.2.2.1]
    by_cases t1 : tk_K T n K (p + 1) = 2
    · obtain ⟨hp1, ce1, x1, et1, -, S2⟩ := ST_take (a := nI p) (b := nI q) S1 t1 (by omega) (Or.inr ⟨q, by omega, rfl, by rw [fq]⟩)
      obtain ⟨m2, hm2⟩ : ∃ m2, m2 = hs_pA (mP T n K m1 (p + 1) (nI q) x1) 11 q (nI (p + 1)) := ⟨_, rfl⟩
      have S2' : ST T n K (cT (cN s p q (nI c) nM) (p + 1) (nI p)) m2 (p + 2) (q + 1) z sc := by
        rw [hm2]
        exact ST_m S2 (hs_fr_pA (by decide))
      have fq2 : fj m2 q = p := fj_of (by rw [hm2, hs_A_pA, mP_A, m1A, mN_A]; simp) (by omega)
      have b3 : hs_I (mP T n K m1 (p + 1) (nI q) x1) 0 50 = nI 0 := S2.1.2.2.2.2.2.1.2.2.1
      have g2 : hs_fr rP rA m m2 := by
        rw [hm2]
        exact (g1.cons GF_mP).cons (hs_fr_pA (by decide))
      have cf2 : hs_fr cP cA s (cT (cN s p q (nI c) nM) (p + 1) (nI p)) := cf1.cons CF_cT
      by_cases t2 : tk_K T n K (p + 2) = e
      · obtain ⟨hp2, ce2, x2, et2, -, S3⟩ := ST_take (a := nI p) (b := nI q) S2' t2 (by omega) (Or.inr ⟨q, by omega, rfl, by rw [fq2]⟩)
        obtain ⟨m5, hm5⟩ : ∃ m5, m5 = hs_pA (mP T n K m2 (p + 2) (nI q) x2) r q (nI (p + 3)) := ⟨_, rfl⟩
        have m5A : ∀ a j, hs_A m5 a j = if a = r ∧ j = q then nI (p + 3) else if a = 5 ∧ j = p + 2 then nI q else if a = 4 ∧ j = p + 2 then nI (tk_e T n (p + 2)) else if a = 3 ∧ j = p + 2 then nI (tk_p T n (p + 2)) else if a = 11 ∧ j = q then nI (p + 1) else if a = 5 ∧ j = p + 1 then nI q else if a = 4 ∧ j = p + 1 then nI (tk_e T n (p + 1)) else if a = 3 ∧ j = p + 1 then nI (tk_p T n (p + 1)) else hs_A (mN T n K m p q (nI (kn c)) x) a j := by
          intro a j
          rw [hm5, hs_A_pA, mP_A, hm2, hs_A_pA, mP_A, m1A]
        refine ⟨_, _, _, e1, ce1, ce2, Or.inr ⟨hq, t1, t2, cf2.cons CF_cT, fun t ht => ?_, m5, ?_, ?_, ?_, ?_, ?_, ?_, fun m6 he => ?_⟩⟩
        · simp only [cT, cN, hs_I_pI, hs_I_pA, hs_A_pI, hs_A_pA, and_true, true_and, and_false, false_and, and_self, eq_self, Nat.reduceEqDiff, ↓reduceIte, ht]
        · rw [hm5]
          rcases hc2.2.2 with rfl | rfl
          · exact ST_m S3 (hs_fr_pA (by decide))
          · exact ST_m S3 (hs_fr_pA (by decide))
        · rw [hm5]
          rcases hc2.2.2 with rfl | rfl
          · exact (g2.cons GF_mP).cons (hs_fr_pA (by decide))
          · exact (g2.cons GF_mP).cons (hs_fr_pA (by decide))
        · refine ⟨fun a j a1 a2 hj => ?_, fun t ht => ?_⟩
          · have g : ¬ j = q := by omega
            have g3 : ¬ a = 5 := by omega
            have g4 : ¬ a = 4 := by omega
            have g5 : ¬ a = 3 := by omega
            simp only [m5A, mN_A, g, g3, g4, g5, and_false, false_and, if_false]
          · have g : ¬ t = p := by omega
            have g1 : ¬ t = p + 1 := by omega
            have g2 : ¬ t = p + 2 := by omega
            have g3 : ¬ 5 = r := by omega
            simp [m5A, mN_A, g, g1, g2, g3]
        · intro d e
          have g1 : ¬ 34 = r := by omega
          have g2 : ¬ 35 = r := by omega
          have g3 : ¬ 36 = r := by omega
          have g4 : ¬ 37 = r := by omega
          refine ⟨fun i _ => ?_, fun i _ => ?_⟩ <;> simp [m5A, mN_A, g1, g2, g3, g4]
        · rw [hm5]; simp only [hs_I_pI, hs_I_pA, hs_A_pI, hs_A_pA, and_true, true_and, and_false, false_and, and_self, eq_self, Nat.reduceEqDiff, ↓reduceIte, mP_I]; rw [hm2]; simp only [hs_I_pI, hs_I_pA, hs_A_pI, hs_A_pA, and_true, true_and, and_false, false_and, and_self, eq_self, Nat.reduceEqDiff, ↓reduceIte, mP_I]; rw [hm1, mN_I]; simp
        · have g6 : ¬ 6 = r := by omega
          have g7 : ¬ 7 = r := by omega
          have g8 : ¬ 8 = r := by omega
          have g9 : ¬ 9 = r := by omega
          have g10 : ¬ 10 = r := by omega
          have g11 : ¬ 11 = r := by omega
          have g5 : ¬ 5 = r := by omega
          refine ⟨?_, ?_, ?_, ?_, ?_, ?_, ?_, ?_, ?_⟩
          · simp [m5A, mN_A, g6]
          · simp [m5A, mN_A, g7]
          · simp [m5A, mN_A, g8]
          · simp [m5A, mN_A, g9]
          · simp [m5A, mN_A, g10]
          · simp [m5A, g11]
          · simp [m5A]
          · simp [m5A, g5]
          · simp [m5A, g5]
        · refine rn_begins hb h55 (fun F hF => ?_)
          refine M_headC (y := nI (p + 1)) (y4 := nI (p + 2)) (m3 := mP T n K m1 (p + 1) (nI q) x1) (m4 := mP T n K m2 (p + 2) (nI q) x2) hc h6 hb h12 hq (ep F hF) ?_ b3 ?_ S3.1.2.2.2.2.2.1.2.2.1 ?_
          · rw [hm1']; exact et1 F hF
          · rw [← hm2]; exact et2 F hF
          · rw [S3.1.2.2.2.2.2.1.1, ← hm5]; exact he
      · obtain ⟨ce2, et2, D2⟩ := PQ_take0 (nI p) (nI q) S2'.1 t2 (by omega)
        refine ⟨_, _, _, e1, ce1, ce2, Or.inl ⟨mB m2, rn_begins hb h55 (fun F hF => ?_), g2.cons GF_mB, D2.pre cf2 (by rw [S2'.2.2.2.1, h.2.2.2.1])⟩⟩
        refine M_headB (y := nI (p + 1)) (y4 := nI 0) (m3 := mP T n K m1 (p + 1) (nI q) x1) hc h6 hb h12 hq (ep F hF) ?_ b3 ?_ (by simp only [mB, hs_I_pI, hs_I_pA, hs_A_pI, hs_A_pA, and_true, true_and, and_false, false_and, and_self, eq_self, Nat.reduceEqDiff, ↓reduceIte])
        · rw [hm1']; exact et1 F hF
        · rw [← hm2]; exact et2 F
    · obtain ⟨ce1, et1, D1⟩ := PQ_take0 (nI p) (nI q) S1.1 t1 (by omega)
      have D1' := D1.pre cf1 c41
      have hD := D1'.dd hK h.2.2.1 h.2.2.2.1
      refine ⟨_, _, _, e1, ce1, D_expect hD (by omega) (by omega), Or.inl ⟨hs_pA (mB m1) 11 q (nI 0), rn_begins hb h55 (fun F hF => ?_), (g1.cons GF_mB).cons (hs_fr_pA (by decide)), mB_G D1' rfl rfl⟩⟩
      refine M_headA hc h6 hb h12 hq (ep F hF) ?_ (by simp only [mB, hs_I_pI, hs_I_pA, hs_A_pI, hs_A_pA, and_true, true_and, and_false, false_and, and_self, eq_self, Nat.reduceEqDiff, ↓reduceIte])
      rw [hm1']; exact et1 F
  · obtain ⟨⟨u, e1, D, u15⟩, -, -⟩ := PQ_mk0 (nI c) nM (nI (k_M c)) h.1 hq
    have hD := D.dd hK h.2.2.1 h.2.2.2.1
    refine ⟨u, u, u, e1, D_expect hD (by omega) (by omega), D_expect hD (by omega) (by omega), Or.inl ⟨mB m, rn_begins hb h55 (fun F hF => M_beginsB h6 ?_ hb h12 (by omega) ?_), GF_mB, D⟩⟩
    · rcases hc2.1 with rfl | rfl
      · exact Or.inl rfl
      · exact Or.inr (Or.inl rfl)
    · have := h.1.2.2.2.1
      omega
theorem C_fun {R : Nat → Int32 → Int32 → Int32 → hp_S → Option (Int32 × hp_S)} {k : Nat} {a x x2 : Int32} {s s1 s2 s3 s4 s5 : hp_S} (h1 : f_C_X4_beginNode_7 (nI 4) nM s = some (x, s1)) (h2 : f_C_X4_expect_7 (nI 2) x s1 = some s2) (h3 : f_C_X4_expect_7 (nI 15) x s2 = some s3) (h4 : R 3 x a (nI 0) s3 = some (x2, s4)) (h5 : f_C_X2_setFirst_8 x x2 s4 = some s5) : f_C_X4_function_7 R k a s = some (x, s5) := by
  unfold f_C_X4_function_7
  simp (disch := omega) only [↓reduceIte, z_lit, z_m1, z_gd, z_le, z_lt, z_eq, z_em, z_me, z_ml, z_mle, z_lm, z_lem, z_pos, z_sub, nI_add, nI_clamp, ib_nI, pm_let, pm_bd, pm_b1, if_true, if_false, ite_true, ite_false, Nat.not_lt_zero, Nat.zero_le, h1, h2, h3, h4, h5]
theorem SN_fun {T : Nat → Nat} {n K : Nat} {s m : hp_S} {p q p1 q2 v z : Nat} {sc : Nat → Nat} (C : SG T n K m (p + 3) (q + 1) p1 q2) (NC : NM T n s m (q + 1) q2 (z + 1) (fun i => if i = z then p else sc i)) (fq : fj m q = p) (h6 : hs_A m 6 q = nI 3) (h7 : hs_A m 7 q = nI v) (hv : q + 1 ≤ v ∧ v < q2) (h8 : hs_A m 8 q = nM) (h9 : hs_A m 9 q = nM) (h11 : hs_A m 11 q = nI (p + 1)) (h12 : hs_A m 12 q = nI (p + 3)) (h13 : hs_A m 13 q = nI p1) (h5 : hs_A m 5 (p + 2) = nI q) (hI : ∀ t, p ≤ t → t < p + 3 → tk_K T n K t ≠ 6) : SG T n K m p q p1 q2 ∧ NM T n s m q q2 z sc := by
  have C1 := C.1
  have C2 := C.2.1
  have C3 := C.2.2.1
  have C4 := C.2.2.2.1
  have A0 : SG T n K m p q p q := SG_nil (by omega) (by omega)
  have B0 : SG T n K m (p + 3) (q + 1) (p + 3) (q + 1) := SG_nil (by omega) (by omega)
  have kv : kid m q q2 0 q := ⟨v, by omega, by omega, h7⟩
  refine ⟨SG_join A0 B0 C (Nat.le_refl _) (by omega) (Nat.le_refl _) (Nat.le_refl _) C3 (by rw [fq]; exact Nat.le_refl _) (by rw [fq]; omega) (by rw [fq]; omega) (by rw [fq]; omega) (by rw [fq]; omega) ⟨fun d hd => ?_, 4, by simp [nk], h6, fun d hd => ?_⟩ (fun g => ?_) (fun _ => ⟨p + 3, p1, h12, h13, by rw [fq]; exact Nat.le_refl _, C2, Nat.le_refl _, by rw [fq]; exact h11, h5⟩) (fun t t1 t2 t3 => ?_), ?_⟩
  · rcases (show d = 0 ∨ d = 1 ∨ d = 2 by omega) with rfl | rfl | rfl
    · exact Or.inr kv
    · exact Or.inl h8
    · exact Or.inl h9
  · have : ar 4 = 1 := rfl
    obtain rfl : d = 0 := by omega
    exact kv
  · rw [h6, nI_eq (by omega) (by omega)] at g
    omega
  · by_cases g : t < p + 3
    · exact absurd t3 (hI t t1 g)
    · exact Or.inr (Or.inr (Or.inl ⟨by omega, t2⟩))
  · exact NM_bind B0 C (Nat.le_refl _) (fun j j1 j2 => by omega) (by rw [fq]; exact NC) (Or.inl h6) h12 h13
theorem SN_let {T : Nat → Nat} {n K : Nat} {s m : hp_S} {p q p3 q3 p5 q5 v w z : Nat} {sc : Nat → Nat} (B : SG T n K m (p + 3) (q + 1) p3 q3) (NB : NM T n s m (q + 1) q3 z sc) (C : SG T n K m (p3 + 1) q3 p5 q5) (NC : NM T n s m q3 q5 (z + 1) (fun i => if i = z then p else sc i)) (fq : fj m q = p) (h6 : hs_A m 6 q = nI 4) (h7 : hs_A m 7 q = nI v) (hv : q + 1 ≤ v ∧ v < q3) (h8 : hs_A m 8 q = nI w) (hw : q3 ≤ w ∧ w < q5) (h9 : hs_A m 9 q = nM) (h11 : hs_A m 11 q = nI (p + 1)) (h12 : hs_A m 12 q = nI (p3 + 1)) (h13 : hs_A m 13 q = nI p5) (h14 : hs_A m 14 q = nI (p + 3)) (h15 : hs_A m 15 q = nI p3) (t6 : tk_K T n K p3 = 6) (h5a : hs_A m 5 p3 = nI q) (h5b : hs_A m 5 (p + 1) = nI q) (h5c : hs_A m 5 (p + 2) = nI q) (hI : ∀ t, p ≤ t → t < p + 3 → tk_K T n K t ≠ 6) : SG T n K m p q p5 q5 ∧ NM T n s m q q5 z sc := by
  have B1 := B.1
  have B2 := B.2.1
  have C1 := C.1
  have C2 := C.2.1
  have C3 := C.2.2.1
  have C4 := C.2.2.2.1
  have A0 : SG T n K m p q p q := SG_nil (by omega) (by omega)
  have kv : kid m q q5 0 q := ⟨v, by omega, by omega, h7⟩
  have kw : kid m q q5 1 q := ⟨w, by omega, by omega, h8⟩
  refine ⟨SG_join A0 B C (Nat.le_refl _) (by omega) (by omega) (Nat.le_refl _) C3 (by rw [fq]; exact Nat.le_refl _) (by rw [fq]; omega) (by rw [fq]; omega) (by rw [fq]; omega) (by rw [fq]; omega) ⟨fun d hd => ?_, 5, by simp [nk], h6, fun d hd => ?_⟩ (fun g => ?_) (fun _ => ⟨p3 + 1, p5, h12, h13, by rw [fq]; omega, C2, Nat.le_refl _, by rw [fq]; exact h11, by rw [Nat.add_sub_cancel]; exact h5a⟩) (fun t t1 t2 t3 => ?_), ?_⟩
  · rcases (show d = 0 ∨ d = 1 ∨ d = 2 by omega) with rfl | rfl | rfl
    · exact Or.inr kv
    · exact Or.inr kw
    · exact Or.inl h9
  · have : ar 5 = 2 := rfl
    rcases (show d = 0 ∨ d = 1 by omega) with rfl | rfl
    · exact kv
    · exact kw
  · rw [fq]
    exact ⟨rfl, h14, h15, by omega, t6, h5a, h5b, h5c, v, hv.1, hv.2, h7⟩
  · by_cases g : t < p + 3
    · exact absurd t3 (hI t t1 g)
    by_cases g2 : t < p3
    · exact Or.inr (Or.inl ⟨by omega, g2⟩)
    by_cases g3 : t = p3
    · subst g3
      exact Or.inr (Or.inr (Or.inr ⟨h6, h5a, h15⟩))
    · exact Or.inr (Or.inr (Or.inl ⟨by omega, t2⟩))
  · exact NM_bind B C (by omega) NB (by rw [fq]; exact NC) (Or.inr h6) h12 h13
theorem A1 {k L N : Nat} {T : Nat → Nat} {n K d : Nat} {s m : hp_S} {p q z : Nat} {sc : Nat → Nat} (hk : 2000 ≤ k) (hL : 5 ≤ L) (H : ∀ N, L ≤ N → EE k N T n K d) (hN : L + 6 ≤ N) (h : ST T n K s m p q z sc) (hz : z + 1 ≤ d) (hd : d ≤ 20) (h23 : hs_I m 0 23 = nI d) (h55 : hs_I m 0 55 = nI 0) (hkd : tk_K T n K p = 4) (b c : Int32) :
    ∃ x s' m', f_C_rec k N 1 (nI d) b c s = some (x, s') ∧ rn m m' ∧ hs_fr rP rA m m' ∧ (DE T n K s s' m' ∨ (∃ p' q' v, AX T n K s m s' m' p q z sc p' q' v ∧ MI m' d 3 v ∧ x = nI (fj m' v) ∧ SF m m' d (d - 1))) := by
  obtain ⟨N, rfl⟩ : ∃ y, N = y + 2 := ⟨N - 2, by omega⟩
  have hK := h.1.1.2.2.1
  obtain ⟨s1, s2, s3, c1, c2, c3, out⟩ := HEAD h (Or.inl ⟨rfl, rfl, rfl, rfl⟩) hkd h55
  rw [rec_1]
  rcases out with ⟨m', r1, g1, D⟩ | ⟨hq, t1, t2, f3, s13, m5, S3, g5, b5, sf5, i23, ⟨a6, a7, a8, a9, a10, a11, a12, a51, a52⟩, hen⟩
  · have hD := D.dd hK h.2.2.1 h.2.2.2.1
    obtain ⟨y6, hy6⟩ : ∃ y6, N + 1 = y6 + 6 := ⟨N - 5, by omega⟩
    obtain ⟨x, u, e4, d4⟩ := D_3 k y6 (by omega) s3 (nI p) (nI d) (nI 0) hD
    rw [← hy6] at e4
    obtain ⟨u5, e5, d5⟩ := C_setFirst_any (nI p) x u
    exact ⟨nI p, u5, m', C_fun c1 c2 c3 e4 e5, r1, g1, Or.inl ((D.post d4).post (Dr.of d5))⟩
  · have SP := ST_push (f := p) S3 (by omega) (by omega)
    obtain ⟨m6, e6, x, s5, m7, ec, er, eg, out⟩ := H N (by omega) _ _ _ _ _ _ (nI 1) (nI q) SP.1 SP.2.1 SP.2.2 (by omega) (i23.trans h23)
    have r6 := hen m6 e6
    have s34 : hs_I s3 7 4 = nI z := S3.2.2.2.1
    have sp4 : hs_I (hs_pI (hs_pA s3 15 z (nI p)) 7 4 (nI (z + 1))) 7 4 = nI (z + 1) := SP.2.2.2.1
    have fp : hs_fr cP cA s3 (hs_pI (hs_pA s3 15 z (nI p)) 7 4 (nI (z + 1))) := (hs_fr_pA (by decide)).cons (hs_fr_pI (by decide))
    rcases out with D | ⟨AL7, j2, j3, j4⟩
    · have D' := DE_pop D s34
      obtain ⟨u5, e5, d5⟩ := C_setFirst_any (nI p) x (hs_pI s5 7 4 (nI z))
      refine ⟨nI p, u5, m7, C_fun c1 c2 c3 ?_ e5, r6.tr er, g5.cons eg, Or.inl ((D'.pre f3 (s34.trans h.2.2.2.1.symm)).post (Dr.of d5))⟩
      rw [rec_3]
      exact C_inScope s34 (by omega) (by omega) ec (D.2.1.trans sp4)
    · obtain ⟨p3, q3, v3, B, MM, hx⟩ := AL_AX AL7
      have bp := B.1
      have bq := B.2.2.2.2.2.2.2.1.1
      have hp3 := B.2.1.1.2.2.1
      have hq3 := B.2.1.1.2.2.2.1
      have hv1 := B.2.2.2.2.2.1
      have hv3 := B.2.2.2.2.2.2.1
      have SQ := ST_pop B.2.1
      have BB := B.2.2.2.2.1
      have fq : fj m7 q = p := by
        rw [fj_BF BB (by omega)]
        exact fj_of a10 (by omega)
      have hb : hs_I m7 0 50 = nI 0 := SQ.1.2.2.2.2.2.1.2.2.1
      have h11 : hs_I m7 0 11 = nI p3 := SQ.1.2.2.2.2.2.1.1
      obtain ⟨m8, hm8⟩ : ∃ m8, m8 = hs_pI (hs_pA (hs_pA (hs_pI m7 0 23 (nI d)) 7 q (nI v3)) 13 q (nI p3)) 0 56 (nI q) := ⟨_, rfl⟩
      have r8 : rn m7 m8 := rn_ended hb MM.2.1 (fun F hF => by rw [M_ended1 MM.1 (by omega) j3 j4 (by omega), hm8, MM.2.2, h11])
      have S8 : ST T n K (hs_pA (hs_pI s5 7 4 (nI z)) 10 p x) m8 p3 q3 z sc := by
        have := ST_set (d := 0) (j := q) (x := x) (y := nI v3) (ST_m SQ (hs_fr_pI (a := 0) (k := 23) (v := nI d) (by decide)) : ST T n K (hs_pI s5 7 4 (nI z)) (hs_pI m7 0 23 (nI d)) p3 q3 z sc) (by omega) (by omega) (by rw [hx]; exact cr_v hv3)
        rw [show fj (hs_pI m7 0 23 (nI d)) q = p from fq] at this
        rw [hm8]
        exact ST_m this ((hs_fr_pA (by decide)).cons (hs_fr_pI (by decide)))
      have m8A : ∀ a j, hs_A m8 a j = if a = 13 ∧ j = q then nI p3 else if a = 7 ∧ j = q then nI v3 else hs_A m7 a j := fun a j => by rw [hm8]; simp only [hs_I_pI, hs_I_pA, hs_A_pI, hs_A_pA, and_true, true_and, and_false, false_and, and_self, eq_self, Nat.reduceEqDiff, ↓reduceIte]
      have m8q : ∀ a j, j ≠ q → hs_A m8 a j = hs_A m7 a j := fun a j g => by rw [m8A, if_neg (fun q => g q.2), if_neg (fun q => g q.2)]
      have m85 : ∀ t, hs_A m8 5 t = hs_A m7 5 t := fun t => by rw [m8A]; simp
      have kq : ∀ a, 6 ≤ a → a ≤ 15 → a ≠ 13 → a ≠ 7 → hs_A m8 a q = hs_A m5 a q := fun a a1 a2 g1 g2 => by rw [m8A, if_neg (fun q => g1 q.1), if_neg (fun q => g2 q.1)]; exact BB.1 a q a1 a2 (by omega)
      have SC : SG T n K m8 (p + 3) (q + 1) p3 q3 := SG_fr B.2.2.2.2.2.2.2.1 (fun a j a1 a2 g1 g2 => m8q a j (by omega)) (fun t _ _ => m85 t)
      have NC : NM T n (hs_pA (hs_pI s5 7 4 (nI z)) 10 p x) m8 (q + 1) q3 (z + 1) (fun i => if i = z then p else sc i) := NM_fr B.2.2.2.2.2.2.2.1 B.2.2.2.2.2.2.2.2 (fun a j a1 a2 g1 g2 => m8q a j (by omega)) (fun t _ _ => by simp only [hs_I_pI, hs_I_pA, hs_A_pI, hs_A_pA, and_true, true_and, and_false, false_and, and_self, eq_self, Nat.reduceEqDiff, ↓reduceIte])
      have fq8 : fj m8 q = p := fj_of (by rw [kq 10 (by omega) (by omega) (by omega) (by omega)]; exact a10) (by omega)
      obtain ⟨G1, G2⟩ := SN_fun SC NC fq8 (by rw [kq 6 (by omega) (by omega) (by omega) (by omega)]; exact a6) (by rw [m8A]; simp) ⟨hv1, hv3⟩ (by rw [kq 8 (by omega) (by omega) (by omega) (by omega)]; exact a8) (by rw [kq 9 (by omega) (by omega) (by omega) (by omega)]; exact a9) (by rw [kq 11 (by omega) (by omega) (by omega) (by omega)]; exact a11) (by rw [kq 12 (by omega) (by omega) (by omega) (by omega)]; exact a12) (by rw [m8A]; simp) (by rw [m85, BB.2 (p + 2) (by omega)]; exact a52) (fun t g1 g2 => by
        rcases (show t = p ∨ t = p + 1 ∨ t = p + 2 by omega) with rfl | rfl | rfl <;> omega)
      have cs : f_C_X2_setFirst_8 (nI p) x (hs_pI s5 7 4 (nI z)) = some (hs_pA (hs_pI s5 7 4 (nI z)) 10 p x) := C_setFirst (by omega)
      refine ⟨nI p, _, m8, C_fun c1 c2 c3 ?_ cs, (r6.tr er).tr r8, ?_, Or.inr ⟨p3, q3, q, ⟨by omega, S8, fun t ht => ?_, ?_, ?_, Nat.le_refl _, by omega, G1, G2⟩, ?_, by rw [fq8], ?_⟩⟩
      · rw [rec_3]
        exact C_inScope s34 (by omega) (by omega) ec B.2.1.2.2.2.1
      · rw [hm8]
        exact (g5.cons eg).cons (((hs_fr_pI (by decide)).cons (hs_fr_pA (by decide))).cons ((hs_fr_pA (by decide)).cons (hs_fr_pI (by decide))))
      · have e : hs_A (hs_pA (hs_pI s5 7 4 (nI z)) 10 p x) 13 t = hs_A s5 13 t := by simp only [hs_I_pI, hs_I_pA, hs_A_pI, hs_A_pA, and_true, true_and, and_false, false_and, and_self, eq_self, Nat.reduceEqDiff, ↓reduceIte]
        have e2 : hs_A (hs_pI (hs_pA s3 15 z (nI p)) 7 4 (nI (z + 1))) 13 t = hs_A s3 13 t := by simp only [hs_I_pI, hs_I_pA, hs_A_pI, hs_A_pA, and_true, true_and, and_false, false_and, and_self, eq_self, Nat.reduceEqDiff, ↓reduceIte]
        rw [e, B.2.2.1 t (by omega), e2, s13 t (by omega)]
      · exact ((f3.cons fp).cons B.2.2.2.1).cons ((hs_fr_pI (by decide)).cons (hs_fr_pA (by decide)))
      · refine (b5.tr BB (by omega) (by omega)).tr (p' := p) (q' := q) ⟨fun a j a1 a2 hj => m8q a j (by omega), fun t ht => m85 t⟩ (Nat.le_refl _) (Nat.le_refl _)
      · rw [hm8]
        refine ⟨?_, ?_, ?_⟩
        · simp only [hs_I_pI, hs_I_pA, hs_A_pI, hs_A_pA, and_true, true_and, and_false, false_and, and_self, eq_self, Nat.reduceEqDiff, ↓reduceIte]
        · simp only [hs_I_pI, hs_I_pA, hs_A_pI, hs_A_pA, and_true, true_and, and_false, false_and, and_self, eq_self, Nat.reduceEqDiff, ↓reduceIte]; exact MM.2.1
        · simp only [hs_I_pI, hs_I_pA, hs_A_pI, hs_A_pA, and_true, true_and, and_false, false_and, and_self, eq_self, Nat.reduceEqDiff, ↓reduceIte]
      · refine ((sf5 d (d - 1)).tr j2 (Nat.le_refl _) (by omega)).tr (d' := d) (e' := d) ?_ (Nat.le_refl _) (by omega)
        refine ⟨fun i _ => ?_, fun i _ => ?_⟩ <;> simp [m8A]
