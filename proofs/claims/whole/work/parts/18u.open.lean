/-- an atom in brackets -/
theorem A8_open {k L N : Nat} {T : Nat → Nat} {n K d : Nat} {s m : hp_S} {p q z : Nat} {sc : Nat → Nat} (hk : 2000 ≤ k) (hL : 5 ≤ L) (H : ∀ N, L ≤ N → EE k N T n K d) (hN : L + 3 ≤ N) (h : ST T n K s m p q z sc) (hz : z + 1 ≤ d) (hd : d ≤ 20) (h23 : hs_I m 0 23 = nI d) (h55 : hs_I m 0 55 = nI 1) (hkd : tk_K T n K p = 17) (b c : Int32) :
    ∃ x s' m', f_C_rec k N 8 (nI d) b c s = some (x, s') ∧ rn m m' ∧ hs_fr rP rA m m' ∧ (DE T n K s s' m' ∨ (AL T n K s m s' m' p q z sc d 2 x ∧ SF m m' d d)) := by
  obtain ⟨N, rfl⟩ : ∃ y, N = y + 3 := ⟨N - 3, by omega⟩
  have hK := h.1.1.2.2.1
  obtain ⟨hp, -, x, -, ep, S1⟩ := ST_take (a := nM) (b := nM) h hkd (by omega) (Or.inl ⟨rfl, rfl⟩)
  have g23 : hs_I (mP T n K m p nM x) 0 23 = nI d := by rw [mP_I]; simp only [hs_I_pI, hs_I_pA, hs_A_pI, hs_A_pA, and_true, true_and, and_false, false_and, and_self, eq_self, Nat.reduceEqDiff, ↓reduceIte]; exact h23
  obtain ⟨m2, e2, x4, s2, m3, ec, er, eg, out⟩ := H (N + 1) (by omega) _ _ _ _ _ _ (nI 7) (nI p) S1.1 S1.2.1 S1.2.2 (by omega) g23
  have r2 : rn m m2 := rn_atom h.1.2.2.2.2.2.1.2.2.1 h55 (fun F hF => M_atomO (by have := h.1.2.2.2.2.2.1.2.2.2.1; rw [hkd] at this; exact this) (ep F hF) e2)
  have ct := C_takeN (a := nM) h.1 hp
  have cur := C_curN h.1
  rw [hkd] at cur
  have c13 : ∀ t, hs_A (cT s p nM) 13 t = hs_A s 13 t := fun t => by simp only [cT, hs_I_pI, hs_I_pA, hs_A_pI, hs_A_pA, and_true, true_and, and_false, false_and, and_self, eq_self, Nat.reduceEqDiff, ↓reduceIte]
  have c4 : hs_I (cT s p nM) 7 4 = hs_I s 7 4 := by simp only [cT, hs_I_pI, hs_I_pA, hs_A_pI, hs_A_pA, and_true, true_and, and_false, false_and, and_self, eq_self, Nat.reduceEqDiff, ↓reduceIte]
  rcases out with D | ⟨⟨p1, q1, v, i1, i2, i3, i4, i5, i6, i7, i8, i9, i10, i11, i12, i13, i14, i15⟩, j2, j3, j4⟩
  · have hD := D.dd hK h.2.2.1 (c4.trans h.2.2.2.1)
    refine ⟨x4, s2, m3, ?_, r2.tr er, GF_mP.cons eg, Or.inl (D.pre CF_cT c4)⟩
    rw [rec_8]
    refine C_atom9 cur ?_
    rw [rec_9]
    exact C_brk ct ec (C_cur0 hD.1) (by decide) (by decide) (D_expect hD (by omega) (by omega))
  · have S2 : ST T n K s2 m3 p1 q1 z sc := ⟨i2, i3, i4⟩
    have S3 : ST T n K s2 (hs_pI m3 0 23 (nI d)) p1 q1 z sc := ST_m S2 (hs_fr_pI (by decide))
    have cur2 := C_curN i2
    have hl := tk_K_lt T n K p1
    have hp1 : p1 ≤ K := i2.2.2.1
    have hq1 : q1 ≤ 100 := i2.2.2.2.1
    have b1 : BF m m3 p q := (BF_mP (Nat.le_refl _)).tr i7 (by omega) (Nat.le_refl _)
    have f1 : SF m m3 d d := SF_mP.tr j2 (Nat.le_refl _) (Nat.le_refl _)
    have G1 : hs_fr rP rA m (hs_pI m3 0 23 (nI d)) := (GF_mP.cons eg).cons (hs_fr_pI (by decide))
    have en : ∀ F, f_M_X11_ended_0 F m3 = f_M_X11_group_0 F (nI p) (hs_pI m3 0 23 (nI d)) := fun F => M_ended7 i8 (by omega) j3 j4
    have h6 : hs_I (hs_pI m3 0 23 (nI d)) 0 6 = nI (k_M (tk_K T n K p1)) := S3.1.2.2.2.2.2.1.2.2.2.1
    have hb3 : hs_I m3 0 50 = nI 0 := i2.2.2.2.2.2.1.2.2.1
    by_cases cc : tk_K T n K p1 = 19
    · -- a pair
      rw [cc] at cur2 h6
      by_cases hq : q1 < 100
      · have hu : hs_A (hs_pI m3 0 23 (nI d)) 5 p = nM := by
          rw [hs_A_pI, i7.2 p (by omega), mP_A]
          simp
        have S4 : ST T n K (cO s2 p q1 x4) (mO (hs_pI m3 0 23 (nI d)) p q1 (nI v)) p1 (q1 + 1) z sc := ST_pair S3 (by omega) hq hu (by rw [i11]; exact cr_v i13)
        have fq : fj (mO (hs_pI m3 0 23 (nI d)) p q1 (nI v)) q1 = p := fj_of (by simp only [mO, mM, hs_I_pI, hs_I_pA, hs_A_pI, hs_A_pA, and_true, true_and, and_false, false_and, and_self, eq_self, Nat.reduceEqDiff, ↓reduceIte]) (by omega)
        have hp1' : p1 < K := tk_K_p (T := T) (n := n) (by omega)
        have ce := (ST_take (a := nI p) (b := nI q1) S4 cc (by omega) (Or.inr ⟨q1, by omega, rfl, by rw [fq]⟩)).2.1
        have hT := TK_of h.1.1
        obtain ⟨w, hw⟩ : ∃ w, w = hs_pA (hs_pA (mM (hs_pI m3 0 23 (nI d)) q1 (nI 31)) 10 q1 (nI p)) 5 p (nI q1) := ⟨_, rfl⟩
        have wI : ∀ j, j ≠ 12 → j ≠ 23 → hs_I w 0 j = hs_I m3 0 j := by intro j hj hj2; rw [hw]; simp only [mM, hs_I_pI, hs_I_pA, hs_A_pI, hs_A_pA, and_true, true_and, and_false, false_and, and_self, eq_self, Nat.reduceEqDiff, ↓reduceIte, hj, hj2]
        have wT : M_tx w T n := by
          rw [hw]
          exact M_tx_fr (P := []) (A := [5, 10]) (M_tx_mM S3.1.2.1) ((hs_fr_pA (by decide)).cons (hs_fr_pA (by decide))) (by decide)
        obtain ⟨x5, ep5, hx5⟩ := M_pass (m := w) (a := nI q1) (p := p1) hT wT hp1' (by rw [wI 5 (by decide) (by decide)]; exact i2.2.2.2.2.2.1.2.2.2.2.2 (by omega) hp1') (by rw [wI 7 (by decide) (by decide)]; exact i2.2.2.2.2.2.1.2.2.2.2.1) (by rw [wI 11 (by decide) (by decide)]; exact i2.2.2.2.2.2.1.1)
        have e7 : hs_pA (mP T n K w p1 (nI q1) x5) 7 q1 (nI v) = mP T n K (mO (hs_pI m3 0 23 (nI d)) p q1 (nI v)) p1 (nI q1) x5 := by rw [mP_7, hw]; rfl
        have S5 := ST_pass (a := nI p) (b := nI q1) S4 hp1' (Or.inr ⟨q1, by omega, rfl, by rw [fq]⟩) hx5
        rw [← e7] at S5
        obtain ⟨m5, hm5⟩ : ∃ m5, m5 = hs_pA (mP T n K w p1 (nI q1) x5) 7 q1 (nI v) := ⟨_, rfl⟩
        rw [← hm5] at S5
        have m5I : ∀ j, j = 23 ∨ j = 56 → hs_I m5 0 j = if j = 23 then nI d else nI v := by
          rintro j (rfl | rfl)
          · rw [hm5]; simp only [hs_I_pI, hs_I_pA, hs_A_pI, hs_A_pA, and_true, true_and, and_false, false_and, and_self, eq_self, Nat.reduceEqDiff, ↓reduceIte, mP_I]; rw [hw]; simp only [mM, hs_I_pI, hs_I_pA, hs_A_pI, hs_A_pA, and_true, true_and, and_false, false_and, and_self, eq_self, Nat.reduceEqDiff, ↓reduceIte]
          · rw [hm5]; simp only [hs_I_pI, hs_I_pA, hs_A_pI, hs_A_pA, and_true, true_and, and_false, false_and, and_self, eq_self, Nat.reduceEqDiff, ↓reduceIte, mP_I]; rw [wI 56 (by decide) (by decide)]; exact i10
        have m5A : ∀ a j, hs_A m5 a j = if a = 7 ∧ j = q1 then nI v else if a = 5 ∧ j = p1 then nI q1 else if a = 4 ∧ j = p1 then nI (tk_e T n p1) else if a = 3 ∧ j = p1 then nI (tk_p T n p1) else if a = 5 ∧ j = p then nI q1 else if a = 10 ∧ j = q1 then nI p else hs_A (mM m3 q1 (nI 31)) a j := by
          intro a j
          rw [hm5, hs_A_pA, mP_A, hw]
          simp only [mM, hs_I_pI, hs_I_pA, hs_A_pI, hs_A_pA, and_true, true_and, and_false, false_and, and_self, eq_self, Nat.reduceEqDiff, ↓reduceIte]
        obtain ⟨m6, e6, x8, s4, m7, ec2, er2, eg2, out2⟩ := H N (by omega) _ _ _ _ _ _ (nI 8) (nI q1) S5.1 S5.2.1 S5.2.2 (by omega) (m5I 23 (Or.inl rfl))
        have r3 : rn m3 m6 := by
          refine rn_ended hb3 i9 (fun F hF => ?_)
          rw [en F]
          refine M_group2 (o := p) h6 S3.1.2.2.2.2.2.1.2.2.1 S3.1.2.2.2.2.2.1.2.1 hq (by omega) (by rw [hw] at ep5; exact ep5 F hF) ?_
          rw [← hw, show hs_I (mP T n K w p1 (nI q1) x5) 0 56 = nI v by rw [mP_I]; simp only [hs_I_pI, hs_I_pA, hs_A_pI, hs_A_pA, and_true, true_and, and_false, false_and, and_self, eq_self, Nat.reduceEqDiff, ↓reduceIte]; rw [wI 56 (by decide) (by decide)]; exact i10, ← hm5]
          exact e6
        have R6 : rn m m6 := (r2.tr er).tr r3
        have G5 : hs_fr rP rA m m5 := by
          rw [hm5, hw]
          exact G1.cons (((GF_mM.cons (hs_fr_pA (by decide))).cons (hs_fr_pA (by decide))).cons (GF_mP.cons (hs_fr_pA (by decide))))
        have C5 : hs_fr cP cA s (cT (cO s2 p q1 x4) p1 (nI p)) := by
          refine ((CF_cT.cons i6).cons ?_).cons CF_cT
          unfold cO
          exact (((hs_fr_pI (by decide)).cons (hs_fr_pA (by decide))).cons ((hs_fr_pA (by decide)).cons (hs_fr_pA (by decide)))).cons (((hs_fr_pA (by decide)).cons (hs_fr_pA (by decide))).cons ((hs_fr_pA (by decide)).cons (hs_fr_pA (by decide))))
        have C54 : hs_I (cT (cO s2 p q1 x4) p1 (nI p)) 7 4 = hs_I s 7 4 := by
          rw [S5.2.2.2.1, h.2.2.2.1]
        have cpos : hs_I s 7 5 = nI p := h.1.2.2.2.2.1.1
        have C15 : ∀ t, t ≠ p → hs_A (cT (cO s2 p q1 x4) p1 (nI p)) 13 t = hs_A s2 13 t := fun t ht => by simp only [cT, cO, hs_I_pI, hs_I_pA, hs_A_pI, hs_A_pA, and_true, true_and, and_false, false_and, and_self, eq_self, Nat.reduceEqDiff, ↓reduceIte, ht]
        rcases out2 with D | ⟨⟨p2, q2, v2, k1, k2, k3, k4, k5, k6, k7, k8, k9, k10, k11, k12, k13, k14, k15⟩, l2, l3, l4⟩
        · have hD := D.dd hK S5.2.2.1 S5.2.2.2.1
          obtain ⟨u5, e5, d5⟩ := C_setSecond_any (nI p) x8 s4
          have hD5 := hD.go (Dr.of d5)
          refine ⟨nI p, u5, m7, ?_, R6.tr er2, G5.cons eg2, Or.inl ((D.pre C5 C54).post (Dr.of d5))⟩
          rw [rec_8]
          refine C_atom9 cur ?_
          rw [rec_9]
          refine C_brk2 ct ec cur2 ?_
          rw [rec_10, cpos]
          exact C_pair1 i2.2.2.2.2.1.2.1 hq (by omega) ce ec2 e5 (D_expect hD5 (by omega) (by omega))
        · have fq7 : fj m7 q1 = p := by
            rw [fj_BF k7 (by omega)]
            exact fj_of (by rw [m5A]; simp) (by omega)
          have S7 : ST T n K (hs_pA s4 11 p x8) (hs_pA (hs_pI m7 0 23 (nI d)) 8 q1 (nI v2)) p2 q2 z sc := by
            have := ST_set (d := 1) (j := q1) (x := x8) (y := nI v2) (ST_m ⟨k2, k3, k4⟩ (hs_fr_pI (a := 0) (k := 23) (v := nI d) (by decide)) : ST T n K s4 (hs_pI m7 0 23 (nI d)) p2 q2 z sc) (by omega) (by omega) (by rw [k11]; exact cr_v k13)
            rw [show fj (hs_pI m7 0 23 (nI d)) q1 = p from fq7] at this
            exact this
          have hp2 : p2 ≤ K := k2.2.2.1
          have hb7 : hs_I m7 0 50 = nI 0 := k2.2.2.2.2.2.1.2.2.1
          have cs : f_C_X2_setSecond_8 (nI p) x8 s4 = some (hs_pA s4 11 p x8) := C_setSecond (by omega)
          have G7 : hs_fr rP rA m (hs_pA (hs_pI m7 0 23 (nI d)) 8 q1 (nI v2)) := (G5.cons eg2).cons ((hs_fr_pI (by decide)).cons (hs_fr_pA (by decide)))
          have C7 : hs_fr cP cA s (hs_pA s4 11 p x8) := (C5.cons k6).cons (hs_fr_pA (by decide))
          by_cases c18 : tk_K T n K p2 = 18
          · obtain ⟨hp2', ce2, x9, et9, -, S8⟩ := ST_take (a := nI p) (b := nI q1) S7 c18 (by omega) (Or.inr ⟨q1, by omega, rfl, by rw [← fq7]; rfl⟩)
            obtain ⟨m9, hm9⟩ : ∃ m9, m9 = hs_pI (hs_pI (mP T n K (hs_pA (hs_pI m7 0 23 (nI d)) 8 q1 (nI v2)) p2 (nI q1) x9) 0 56 (nI q1)) 0 55 (nI 2) := ⟨_, rfl⟩
            have r4 : rn m7 m9 := by
              rw [hm9]
              refine rn_ended hb7 k9 (fun F hF => M_ended89 (y := nI p2) k8 (by omega) l3 (Or.inl rfl) l4 (by omega) ?_)
              rw [k10]
              exact et9 F hF
            have m9A : ∀ a j, hs_A m9 a j = if a = 5 ∧ j = p2 then nI q1 else if a = 4 ∧ j = p2 then nI (tk_e T n p2) else if a = 3 ∧ j = p2 then nI (tk_p T n p2) else if a = 8 ∧ j = q1 then nI v2 else hs_A m7 a j := by
              intro a j
              rw [hm9]
              simp only [hs_A_pI, mP_A, hs_A_pA]
            have b5 : BF m3 m5 p q1 := by
              refine ⟨fun a j a1 a2 hj => ?_, fun t ht => ?_⟩
              · have g : ¬ j = q1 := by omega
                have g3 : ¬ a = 5 := by omega
                have g4 : ¬ a = 4 := by omega
                have g5 : ¬ a = 3 := by omega
                simp only [m5A, g, g3, g4, g5, and_false, false_and, if_false, mM, hs_A_pA, hs_A_pI]
              · have g : ¬ t = p := by omega
                have g1 : ¬ t = p1 := by omega
                simp only [m5A, g, g1, and_false, if_false, mM, hs_I_pI, hs_I_pA, hs_A_pI, hs_A_pA, and_true, true_and, and_false, false_and, and_self, eq_self, Nat.reduceEqDiff, ↓reduceIte]
            have b9 : BF m7 m9 p q1 := by
              refine ⟨fun a j a1 a2 hj => ?_, fun t ht => ?_⟩
              · have g : ¬ j = q1 := by omega
                have g3 : ¬ a = 5 := by omega
                have g4 : ¬ a = 4 := by omega
                have g5 : ¬ a = 3 := by omega
                simp only [m9A, g, g3, g4, g5, and_false, false_and, if_false]
              · have g1 : ¬ t = p2 := by omega
                simp only [m9A, g1, and_false, false_and, if_false, Nat.reduceEqDiff]
            have B39 : BF m3 m9 p q1 := (b5.tr k7 (by omega) (by omega)).tr b9 (Nat.le_refl _) (Nat.le_refl _)
            have tA : ∀ t, p + 1 ≤ t → t < p1 → hs_A m9 5 t = hs_A m3 5 t := by
              intro t t1 t2
              have g : ¬ t = p := by omega
              have g1 : ¬ t = p1 := by omega
              have g2 : ¬ t = p2 := by omega
              rw [m9A, if_neg (by omega), if_neg (by omega), if_neg (by omega), if_neg (by omega), k7.2 t (by omega), m5A]
              simp only [g, g1, and_false, if_false, mM, hs_I_pI, hs_I_pA, hs_A_pI, hs_A_pA, and_true, true_and, and_false, false_and, and_self, eq_self, Nat.reduceEqDiff, ↓reduceIte]
            have nB : ∀ a j, 6 ≤ a → a ≤ 15 → q1 + 1 ≤ j → j < q2 → hs_A m9 a j = hs_A m7 a j := by
              intro a j a1 a2 j1 j2
              rw [m9A, if_neg (by omega), if_neg (by omega), if_neg (by omega), if_neg (by omega)]
            have tB : ∀ t, p1 + 1 ≤ t → t < p2 → hs_A m9 5 t = hs_A m7 5 t := by
              intro t t1 t2
              rw [m9A, if_neg (by omega), if_neg (by omega), if_neg (by omega), if_neg (by omega)]
            have fq9 : fj m9 q1 = p := by
              rw [← fq7]
              simp only [fj, m9A, hs_I_pI, hs_I_pA, hs_A_pI, hs_A_pA, and_true, true_and, and_false, false_and, and_self, eq_self, Nat.reduceEqDiff, ↓reduceIte]
            refine ⟨nI p, cT (hs_pA s4 11 p x8) p2 (nI p), m9, ?_, (R6.tr er2).tr r4, ?_, Or.inr ⟨⟨p2 + 1, q2, q1, by omega, ?_, ?_, ?_, fun t ht => ?_, C7.cons CF_cT, ?_, ?_, ?_, ?_, ?_, by omega, by omega, ?_⟩, ?_⟩⟩
            · rw [rec_8]
              refine C_atom9 cur ?_
              rw [rec_9]
              refine C_brk2 ct ec cur2 ?_
              rw [rec_10, cpos]
              exact C_pair1 i2.2.2.2.2.1.2.1 hq (by omega) ce ec2 cs ce2
            · rw [hm9]
              exact (G7.cons GF_mP).cons ((hs_fr_pI (by decide)).cons (hs_fr_pI (by decide)))
            · rw [hm9]
              exact (ST_m S8 ((hs_fr_pI (by decide)).cons (hs_fr_pI (by decide)))).1
            · rw [hm9]
              exact (ST_m S8 ((hs_fr_pI (by decide)).cons (hs_fr_pI (by decide)))).2.1
            · exact S8.2.2
            · have e : ¬ t = p := by omega
              rw [show hs_A (cT (hs_pA s4 11 p x8) p2 (nI p)) 13 t = hs_A s4 13 t by simp only [cT, hs_I_pI, hs_I_pA, hs_A_pI, hs_A_pA, and_true, true_and, and_false, false_and, and_self, eq_self, Nat.reduceEqDiff, ↓reduceIte], k5 t (by omega), C15 t e, i5 t (by omega), c13]
            · exact ((b1.tr b5 (Nat.le_refl _) (by omega)).tr k7 (by omega) (by omega)).tr b9 (Nat.le_refl _) (by omega)
            · rw [hm9]; simp only [hs_I_pI, hs_I_pA, hs_A_pI, hs_A_pA, and_true, true_and, and_false, false_and, and_self, eq_self, Nat.reduceEqDiff, ↓reduceIte, mP_I]
            · rw [hm9]; simp only [hs_I_pI, hs_I_pA, hs_A_pI, hs_A_pA, and_true, true_and, and_false, false_and, and_self, eq_self, Nat.reduceEqDiff, ↓reduceIte]
            · rw [hm9]; simp only [hs_I_pI, hs_I_pA, hs_A_pI, hs_A_pA, and_true, true_and, and_false, false_and, and_self, eq_self, Nat.reduceEqDiff, ↓reduceIte]
            · rw [fq9]
            · have SA : SG T n K m9 (p + 1) q p1 q1 := SG_fr i14 (fun a j a1 a2 _ j2 => B39.1 a j a1 a2 j2) tA
              have SB : SG T n K m9 (p1 + 1) (q1 + 1) p2 q2 := SG_fr k14 nB tB
              have NA : NM T n (cT (hs_pA s4 11 p x8) p2 (nI p)) m9 q q1 z sc := NM_fr i14 i15 (fun a j a1 a2 _ j2 => B39.1 a j a1 a2 j2) (fun t t1 t2 => by
                rw [show hs_A (cT (hs_pA s4 11 p x8) p2 (nI p)) 13 t = hs_A s4 13 t by simp only [cT, hs_I_pI, hs_I_pA, hs_A_pI, hs_A_pA, and_true, true_and, and_false, false_and, and_self, eq_self, Nat.reduceEqDiff, ↓reduceIte], k5 t (by omega), C15 t (by omega)])
              have NB : NM T n (cT (hs_pA s4 11 p x8) p2 (nI p)) m9 (q1 + 1) q2 z sc := NM_fr k14 k15 nB (fun t t1 t2 => by simp only [cT, hs_I_pI, hs_I_pA, hs_A_pI, hs_A_pA, and_true, true_and, and_false, false_and, and_self, eq_self, Nat.reduceEqDiff, ↓reduceIte])
              refine SN_bin (kk := 19) (a := v) (b := v2) SA SB NA NB (by omega) (by omega) (Nat.le_succ _) (by omega) (by rw [fq9]; exact Nat.le_refl _) (by rw [fq9]; omega) (by rw [fq9]; omega) (by rw [fq9]; omega) (by omega) ?_ ?_ ⟨i12, i13⟩ ?_ ⟨k12, k13⟩ ?_ (fun t t1 t2 t3 => ?_)
              · rw [m9A, k7.1 6 q1 (by omega) (by omega) (by omega), m5A]; simp [mM, hs_A_pA, hs_A_pI]; rfl
              · rw [m9A, k7.1 7 q1 (by omega) (by omega) (by omega), m5A]; simp
              · rw [m9A]; simp
              · rw [m9A, k7.1 9 q1 (by omega) (by omega) (by omega), m5A]; simp [mM, hs_A_pA, hs_A_pI]
              · have g1 : t ≠ p := fun g => by rw [g, hkd] at t3; omega
                have g2 : t ≠ p1 := fun g => by rw [g, cc] at t3; omega
                have g3 : t ≠ p2 := fun g => by rw [g, c18] at t3; omega
                omega
            · refine ((f1.tr ?_ (Nat.le_refl _) (Nat.le_refl _)).tr l2 (Nat.le_refl _) (Nat.le_refl _)).tr (d' := d) (e' := d) ?_ (Nat.le_refl _) (Nat.le_refl _)
              · refine ⟨fun i _ => ?_, fun i _ => ?_⟩ <;> simp only [m5A, mM, hs_I_pI, hs_I_pA, hs_A_pI, hs_A_pA, and_true, true_and, and_false, false_and, and_self, eq_self, Nat.reduceEqDiff, ↓reduceIte]
              · refine ⟨fun i _ => ?_, fun i _ => ?_⟩ <;> simp only [m9A, hs_I_pI, hs_I_pA, hs_A_pI, hs_A_pA, and_true, true_and, and_false, false_and, and_self, eq_self, Nat.reduceEqDiff, ↓reduceIte]
          · obtain ⟨ce2, et9, D9⟩ := PQ_take0 (nI p) (nI q1) S7.1 c18 (by omega)
            refine ⟨nI p, cR (hs_pA s4 11 p x8) p2, hs_pI (hs_pI (mB (hs_pA (hs_pI m7 0 23 (nI d)) 8 q1 (nI v2))) 0 56 (nI q1)) 0 55 (nI 2), ?_, (R6.tr er2).tr (rn_ended hb7 k9 (fun F hF => M_ended89 (y := nI 0) k8 (by omega) l3 (Or.inl rfl) l4 (by omega) (by rw [k10]; exact et9 F))), (G7.cons GF_mB).cons ((hs_fr_pI (by decide)).cons (hs_fr_pI (by decide))), Or.inl (mB_F (D9.pre C7 ?_) ((hs_fr_pI (by decide)).cons (hs_fr_pI (by decide))))⟩
            · rw [rec_8]
              refine C_atom9 cur ?_
              rw [rec_9]
              refine C_brk2 ct ec cur2 ?_
              rw [rec_10, cpos]
              exact C_pair1 i2.2.2.2.2.1.2.1 hq (by omega) ce ec2 cs ce2
            · rw [S7.2.2.2.1, h.2.2.2.1]
      · -- too many nodes
        obtain ⟨u, eu, du⟩ := C_pair0 (R := f_C_rec k N) (k := k) (o := p) (f := x4) (d := d) (by obtain ⟨y, rfl⟩ : ∃ y, N = y + 5 := ⟨N - 5, by omega⟩; exact D_0 k y (by omega)) i2.2.2.2.2.1.1 (by omega) i2.2.2.2.2.1.2.1 (by omega) (by omega) i2.2.2.2.2.1.2.2 (by omega) i4.1 i4.2.1
        refine ⟨nI p, u, mB (hs_pI m3 0 23 (nI d)), ?_, (r2.tr er).tr (rn_ended hb3 i9 (fun F hF => by rw [en F]; exact M_group20 h6 S3.1.2.2.2.2.2.1.2.2.1 S3.1.2.2.2.2.2.1.2.1 (by omega) (by omega))), G1.cons GF_mB, Or.inl (((mB_DE S3.1.2.2.2.2.2.1.2.2.2.2.1 hp1).pre (CF_cT.cons i6) ?_).post du)⟩
        · rw [rec_8]
          refine C_atom9 cur ?_
          rw [rec_9]
          refine C_brk2 ct ec cur2 ?_
          rw [rec_10, h.1.2.2.2.2.1.1]
          exact eu
        · rw [i4.2.1, h.2.2.2.1]
    · -- one expression in brackets
      have kc : k_M (tk_K T n K p1) ≠ 18 := fun g => cc (k_M_inj hl (by omega) g)
      have kl := k_M_lt hl
      by_cases c18 : tk_K T n K p1 = 18
      · obtain ⟨hp1', ce2, x9, et9, -, S8⟩ := ST_take (a := nM) (b := nM) S3 c18 (by omega) (Or.inl ⟨rfl, rfl⟩)
        obtain ⟨m9, hm9⟩ : ∃ m9, m9 = hs_pI (mP T n K (hs_pI m3 0 23 (nI d)) p1 nM x9) 0 55 (nI 2) := ⟨_, rfl⟩
        have r4 : rn m3 m9 := by
          rw [hm9]
          refine rn_ended hb3 i9 (fun F hF => ?_)
          rw [en F]
          exact M_group1 h6 kc (by omega) (et9 F hF)
        have b9 : BF m3 m9 p1 q1 := by
          rw [hm9]
          exact ((BF_I (p := p1) (q := q1)).tr (BF_mP (Nat.le_refl _)) (Nat.le_refl _) (Nat.le_refl _)).tr BF_I (Nat.le_refl _) (Nat.le_refl _)
        refine ⟨x4, cT s2 p1 nM, m9, ?_, (r2.tr er).tr r4, ?_, Or.inr ⟨⟨p1 + 1, q1, v, by omega, ?_, ?_, S8.2.2, fun t ht => ?_, (CF_cT.cons i6).cons CF_cT, b1.tr b9 (by omega) (by omega), ?_, ?_, ?_, ?_, i12, i13, ?_, ?_⟩, ?_⟩⟩
        · rw [rec_8]
          refine C_atom9 cur ?_
          rw [rec_9]
          exact C_brk ct ec cur2 cc (by omega) ce2
        · rw [hm9]
          exact (G1.cons GF_mP).cons (hs_fr_pI (by decide))
        · rw [hm9]
          exact (ST_m S8 (hs_fr_pI (by decide))).1
        · rw [hm9]
          exact (ST_m S8 (hs_fr_pI (by decide))).2.1
        · rw [show hs_A (cT s2 p1 nM) 13 t = hs_A s2 13 t by simp only [cT, hs_I_pI, hs_I_pA, hs_A_pI, hs_A_pA, and_true, true_and, and_false, false_and, and_self, eq_self, Nat.reduceEqDiff, ↓reduceIte], i5 t (by omega), c13]
        · rw [hm9]; simp only [hs_I_pI, hs_I_pA, hs_A_pI, hs_A_pA, and_true, true_and, and_false, false_and, and_self, eq_self, Nat.reduceEqDiff, ↓reduceIte, mP_I]
        · rw [hm9]; simp only [hs_I_pI, hs_I_pA, hs_A_pI, hs_A_pA, and_true, true_and, and_false, false_and, and_self, eq_self, Nat.reduceEqDiff, ↓reduceIte]
        · rw [hm9]; simp only [hs_I_pI, hs_I_pA, hs_A_pI, hs_A_pA, and_true, true_and, and_false, false_and, and_self, eq_self, Nat.reduceEqDiff, ↓reduceIte, mP_I]; exact i10
        · rw [fj_BF b9 i13]; exact i11
        · exact SG_app (SG_BF i14 b9) (SG_nil (p := p1 + 1) (q := q1) (by omega) hq1) (by omega) (by omega) (Nat.le_refl _) (by omega) (fun t t1 t2 t3 => by
            have g1 : t ≠ p := fun g => by rw [g, hkd] at t3; omega
            have g2 : t ≠ p1 := fun g => by rw [g, c18] at t3; omega
            omega)
        · exact NM_BF i14 i15 b9 (fun t ht => by simp only [cT, hs_I_pI, hs_I_pA, hs_A_pI, hs_A_pA, and_true, true_and, and_false, false_and, and_self, eq_self, Nat.reduceEqDiff, ↓reduceIte])
        · refine f1.tr (d' := d) (e' := d) ?_ (Nat.le_refl _) (Nat.le_refl _)
          rw [hm9]
          exact (SF_I.tr (SF_mP (d := d) (e := d)) (Nat.le_refl _) (Nat.le_refl _)).tr (SF_I (d := d) (e := d)) (Nat.le_refl _) (Nat.le_refl _)
      · obtain ⟨ce2, et9, D9⟩ := PQ_take0 nM nM S3.1 c18 (by omega)
        refine ⟨x4, cR s2 p1, hs_pI (mB (hs_pI m3 0 23 (nI d))) 0 55 (nI 2), ?_, (r2.tr er).tr (rn_ended hb3 i9 (fun F hF => by rw [en F]; exact M_group1 h6 kc (by omega) (et9 F))), (G1.cons GF_mB).cons (hs_fr_pI (by decide)), Or.inl (mB_F (D9.pre (CF_cT.cons i6) ?_) (hs_fr_pI (by decide)))⟩
        · rw [rec_8]
          refine C_atom9 cur ?_
          rw [rec_9]
          exact C_brk ct ec cur2 cc (by omega) ce2
        · rw [i4.2.1, h.2.2.2.1]
