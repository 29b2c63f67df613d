/-! what was read, without the mode -/
def AX (T : Nat → Nat) (n K : Nat) (s m s' m' : hp_S) (p q z : Nat) (sc : Nat → Nat) (p' q' v : Nat) : Prop :=
  p < p' ∧ ST T n K s' m' p' q' z sc ∧ (∀ t, t < p → hs_A s' 13 t = hs_A s 13 t) ∧ hs_fr cP cA s s' ∧ BF m m' p q ∧ q ≤ v ∧ v < q' ∧ SG T n K m' p q p' q' ∧ NM T n s' m' q q' z sc
def MI (m : hp_S) (d md v : Nat) : Prop := hs_I m 0 23 = nI d ∧ hs_I m 0 55 = nI md ∧ hs_I m 0 56 = nI v
theorem AL_AX {T : Nat → Nat} {n K : Nat} {s m s' m' : hp_S} {p q z : Nat} {sc : Nat → Nat} {d md : Nat} {x : Int32} (h : AL T n K s m s' m' p q z sc d md x) : ∃ p' q' v, AX T n K s m s' m' p q z sc p' q' v ∧ MI m' d md v ∧ x = nI (fj m' v) := by
  obtain ⟨p', q', v, i1, i2, i3, i4, i5, i6, i7, i8, i9, i10, i11, i12, i13, i14, i15⟩ := h
  exact ⟨p', q', v, ⟨i1, ⟨i2, i3, i4⟩, i5, i6, i7, i12, i13, i14, i15⟩, ⟨i8, i9, i10⟩, i11⟩
theorem AX_AL {T : Nat → Nat} {n K : Nat} {s m s' m' : hp_S} {p q z p' q' v : Nat} {sc : Nat → Nat} {d md : Nat} {x : Int32} (h : AX T n K s m s' m' p q z sc p' q' v) (g : MI m' d md v) (hx : x = nI (fj m' v)) : AL T n K s m s' m' p q z sc d md x := by
  obtain ⟨i1, ⟨i2, i3, i4⟩, i5, i6, i7, i12, i13, i14, i15⟩ := h
  exact ⟨p', q', v, i1, i2, i3, i4, i5, i6, i7, g.1, g.2.1, g.2.2, hx, i12, i13, i14, i15⟩
theorem BF_of {m m' : hp_S} {p q : Nat} (h : hs_fr [(0, 4), (0, 23), (0, 55), (0, 56)] [34, 35, 36, 37] m m') : BF m m' p q :=
  ⟨fun a j a1 a2 _ => h.2 a (by simp; omega) j, fun t _ => h.2 5 (by simp) t⟩
theorem AX_m {T : Nat → Nat} {n K : Nat} {s m s' m' m2 : hp_S} {p q z p' q' v : Nat} {sc : Nat → Nat} (h : AX T n K s m s' m' p q z sc p' q' v) (f : hs_fr [(0, 4), (0, 23), (0, 55), (0, 56)] [34, 35, 36, 37] m' m2) : AX T n K s m s' m2 p q z sc p' q' v := by
  obtain ⟨i1, i2, i5, i6, i7, i12, i13, i14, i15⟩ := h
  exact ⟨i1, ST_m i2 (f.mono (by decide) (by decide)), i5, i6, i7.tr (BF_of (p := p) (q := q) f) (Nat.le_refl _) (Nat.le_refl _), i12, i13, SG_BF i14 (BF_of f), NM_BF i14 i15 (BF_of f) (fun _ _ => rfl)⟩
theorem AX_pre {T : Nat → Nat} {n K : Nat} {s m m0 s' m' : hp_S} {p q z p' q' v : Nat} {sc : Nat → Nat} (h : AX T n K s m s' m' p q z sc p' q' v) (f : BF m0 m p q) : AX T n K s m0 s' m' p q z sc p' q' v := by
  obtain ⟨i1, i2, i5, i6, i7, i12, i13, i14, i15⟩ := h
  exact ⟨i1, i2, i5, i6, f.tr i7 (Nat.le_refl _) (Nat.le_refl _), i12, i13, i14, i15⟩
/-- two parts around a node's token -/
theorem AX_bin {T : Nat → Nat} {n K : Nat} {s m s1 m1 s2 m2 s3 m3 s4 m4 : hp_S} {p q z p1 q1 v1 p3 q3 v3 p4 kk : Nat} {sc : Nat → Nat} (A : AX T n K s m s1 m1 p q z sc p1 q1 v1) (hkd : tk_K T n K p1 = kk) (hk : kk = 17 ∨ kk = 20 ∨ kk = 21)
    (b2 : BF m1 m2 p1 q1) (k6 : hs_A m2 6 q1 = nI (kn kk)) (k7 : hs_A m2 7 q1 = nI v1) (k9 : hs_A m2 9 q1 = nM) (k10 : hs_A m2 10 q1 = nI p1) (c2 : hs_fr cP cA s1 s2) (c13 : ∀ t, t ≠ p1 → hs_A s2 13 t = hs_A s1 13 t)
    (B : AX T n K s2 m2 s3 m3 (p1 + 1) (q1 + 1) z sc p3 q3 v3)
    (M4 : ∀ a j, 6 ≤ a → a ≤ 15 → ¬ (a = 8 ∧ j = q1) → hs_A m4 a j = hs_A m3 a j) (M8 : hs_A m4 8 q1 = nI v3) (M5 : ∀ t, t < p3 → hs_A m4 5 t = hs_A m3 5 t) (C4 : hs_fr cP cA s3 s4) (C13 : ∀ t, hs_A s4 13 t = hs_A s3 13 t)
    (S4 : ST T n K s4 m4 p4 q3 z sc) (o4 : p3 ≤ p4) (n4 : ∀ t, p3 ≤ t → t < p4 → tk_K T n K t ≠ 6) : AX T n K s m s4 m4 p q z sc p4 q3 q1 ∧ fj m4 q1 = p1 := by
  obtain ⟨i1, i2, i5, i6, i7, i12, i13, i14, i15⟩ := A
  obtain ⟨j1, j2, j5, j6, j7, j12, j13, j14, j15⟩ := B
  have hK := S4.1.1.2.2.1
  have hp4 := S4.1.2.2.1
  have q1q3 := j14.1
  have hp1 : p1 < K := tk_K_p (T := T) (n := n) (by omega)
  have e4 : ∀ j, hs_A m4 10 j = hs_A m3 10 j := fun j => M4 10 j (by omega) (by omega) (by omega)
  have fq : fj m4 q1 = p1 := by
    refine fj_of ?_ (by omega)
    rw [e4, j7.1 10 q1 (by omega) (by omega) (by omega)]
    exact k10
  have b4 : BF m3 m4 p1 q1 := ⟨fun a j a1 a2 hj => M4 a j a1 a2 (by omega), fun t ht => M5 t (by omega)⟩
  have B24 : BF m1 m4 p1 q1 := (b2.tr j7 (by omega) (by omega)).tr b4 (Nat.le_refl _) (Nat.le_refl _)
  have SA : SG T n K m4 p q p1 q1 := SG_BF i14 B24
  have SB : SG T n K m4 (p1 + 1) (q1 + 1) p3 q3 := SG_fr j14 (fun a j a1 a2 g1 g2 => M4 a j a1 a2 (by omega)) (fun t t1 t2 => M5 t t2)
  have NA : NM T n s4 m4 q q1 z sc := NM_BF i14 i15 B24 (fun t ht => by rw [C13, j5 t (by omega), c13 t (by omega)])
  have NB : NM T n s4 m4 (q1 + 1) q3 z sc := NM_fr j14 j15 (fun a j a1 a2 g1 g2 => M4 a j a1 a2 (by omega)) (fun t t1 t2 => C13 t)
  obtain ⟨G1, G2⟩ := SN_bin (kk := kk) (a := v1) (b := v3) (p0 := p) (p1 := p4) SA SB NA NB (Nat.le_refl _) (by omega) o4 (by omega) (by rw [fq]; omega) (by rw [fq]; omega) (by rw [fq]; omega) (by rw [fq]; omega) (by omega) (by rw [M4 6 q1 (by omega) (by omega) (by omega), j7.1 6 q1 (by omega) (by omega) (by omega)]; exact k6) (by rw [M4 7 q1 (by omega) (by omega) (by omega), j7.1 7 q1 (by omega) (by omega) (by omega)]; exact k7) ⟨i12, i13⟩ M8 ⟨j12, j13⟩ (by rw [M4 9 q1 (by omega) (by omega) (by omega), j7.1 9 q1 (by omega) (by omega) (by omega)]; exact k9) (fun t t1 t2 t3 => by
    have g1 : t ≠ p1 := fun g => by rw [g, hkd] at t3; omega
    have g2 : ¬ p3 ≤ t := fun g => n4 t g t2 t3
    omega)
  refine ⟨⟨by omega, S4, fun t ht => ?_, ((i6.cons c2).cons j6).cons C4, ?_, by omega, by omega, G1, G2⟩, fq⟩
  · rw [C13, j5 t (by omega), c13 t (by omega), i5 t ht]
  · exact i7.tr B24 (by omega) i14.1
/-! CALLS -/
theorem mB_G {T : Nat → Nat} {n K : Nat} {s m : hp_S} {u m' : hp_S} (h : DE T n K s u m) (f1 : hs_I m' 0 50 = hs_I m 0 50) (f2 : hs_I m' 0 4 = hs_I m 0 4) : DE T n K s u m' := by
  obtain ⟨h1, h2, t, h3, h4, h5, h6⟩ := h
  exact ⟨h1, h2, t, h3, h4, by rw [f1]; exact h5, by rw [f2]; exact h6⟩
theorem M_calledO {F q : Nat} {m m2 m3 : hp_S} (h6 : hs_I m 0 6 = nI 16) (h : f_M_X11_single_0 F (nI 30) m = some (nI q, m2)) (hq : q < 101) (h2 : hs_I m2 0 50 = nI 0) (he : f_M_X11_enter_0 (nI 9) (nI q) (hs_pA m2 7 q (hs_I m2 0 56)) = some m3) : f_M_X11_called_0 F m = some m3 := by
  unfold f_M_X11_called_0
  simp (disch := omega) only [↓reduceIte, z_lit, z_m1, z_gd, z_le, z_lt, z_eq, z_em, z_me, z_ml, z_mle, z_lm, z_lem, z_pos, z_sub, nI_add, nI_clamp, ib_nI, pm_let, pm_bd, pm_b1, if_true, if_false, ite_true, ite_false, Nat.not_lt_zero, Nat.zero_le, hs_I_pI, hs_I_pA, hs_A_pI, hs_A_pA, and_true, true_and, and_false, false_and, and_self, eq_self, Nat.reduceEqDiff, ↓reduceIte, h6, h, h2, he]
theorem M_calledO0 {F q : Nat} {m m2 : hp_S} (h6 : hs_I m 0 6 = nI 16) (h : f_M_X11_single_0 F (nI 30) m = some (nI q, m2)) (hq : q < 101) (h2 : hs_I m2 0 50 = nI 1) : f_M_X11_called_0 F m = some (hs_pA m2 7 q (hs_I m2 0 56)) := by
  unfold f_M_X11_called_0
  simp (disch := omega) only [↓reduceIte, z_lit, z_m1, z_gd, z_le, z_lt, z_eq, z_em, z_me, z_ml, z_mle, z_lm, z_lem, z_pos, z_sub, nI_add, nI_clamp, ib_nI, pm_let, pm_bd, pm_b1, if_true, if_false, ite_true, ite_false, Nat.not_lt_zero, Nat.zero_le, hs_I_pI, hs_I_pA, hs_A_pI, hs_A_pA, and_true, true_and, and_false, false_and, and_self, eq_self, Nat.reduceEqDiff, ↓reduceIte, h6, h, h2]
  all_goals simp
theorem L7_dead {R : Nat → Int32 → Int32 → Int32 → hp_S → Option (Int32 × hp_S)} {F : Nat} {a x y : Int32} {s : hp_S} (h : Dd s) (hF : 1 ≤ F) : l_C_X4_call_7_8 R F a x y s = some (x, s) := by
  obtain ⟨F, rfl⟩ : ∃ z, F = z + 1 := ⟨F - 1, by omega⟩
  rw [l_C_X4_call_7_8.eq_2, C_cur0 h.1]
  simp only [pm_bd]
  rw [if_neg (show ¬ ((0 : Int32) = 17) by decide)]
  split <;> rfl
theorem L7_end {T : Nat → Nat} {n K : Nat} {R : Nat → Int32 → Int32 → Int32 → hp_S → Option (Int32 × hp_S)} {F p q : Nat} {a x y : Int32} {s m : hp_S} (h : PQ T n K s m p q) (hk : tk_K T n K p ≠ 17) (hF : 1 ≤ F) : l_C_X4_call_7_8 R F a x y s = some (x, s) := by
  obtain ⟨F, rfl⟩ : ∃ z, F = z + 1 := ⟨F - 1, by omega⟩
  have hl := tk_K_lt T n K p
  rw [l_C_X4_call_7_8.eq_2, C_curN h]
  simp only [pm_bd]
  rw [if_neg (show ¬ (nI (tk_K T n K p) = 17) by rw [show (17 : Int32) = nI 17 from rfl, nI_eq (by omega) (by omega)]; exact hk)]
  split <;> rfl
theorem L7_step {R : Nat → Int32 → Int32 → Int32 → hp_S → Option (Int32 × hp_S)} {F d y : Nat} {x x1 x2 : Int32} {s s1 s2 s3 s4 : hp_S} (hy : y ≤ 100) (hd : d ≤ 20) (hc : f_C_X4_current_7 s = some (nI 17, s)) (h1 : f_C_X4_beginNode_7 (nI 17) x s = some (x1, s1)) (h2 : R 0 (nI (d + 1)) (nI 0) (nI 0) s1 = some (x2, s2)) (h3 : f_C_X2_setSecond_8 x1 x2 s2 = some s3) (h4 : f_C_X4_expect_7 (nI 18) x1 s3 = some s4) : l_C_X4_call_7_8 R (F + 1) (nI d) x (nI y) s = l_C_X4_call_7_8 R F (nI d) x1 (nI (y + 1)) s4 := by
  rw [l_C_X4_call_7_8.eq_2]
  have c : ¬ 100 < y := by omega
  simp (disch := omega) only [↓reduceIte, z_lit, z_m1, z_gd, z_le, z_lt, z_eq, z_em, z_me, z_ml, z_mle, z_lm, z_lem, z_pos, z_sub, nI_add, nI_clamp, ib_nI, pm_let, pm_bd, pm_b1, if_true, if_false, ite_true, ite_false, Nat.not_lt_zero, Nat.zero_le, c, hc, h1, h2, h3, h4]
def CO (T : Nat → Nat) (n K : Nat) (s m : hp_S) (p q z : Nat) (sc : Nat → Nat) (d : Nat) (x : Int32) (s' m' : hp_S) : Prop := ∃ p' q' v, AX T n K s m s' m' p q z sc p' q' v ∧ MI m' d 2 v ∧ x = nI (fj m' v) ∧ SF m m' d d
theorem L7 {k L N : Nat} {T : Nat → Nat} {n K d : Nat} {s m : hp_S} {p q z : Nat} {sc : Nat → Nat} (hk : 2000 ≤ k) (hL : 5 ≤ L) (H : ∀ N, L ≤ N → EE k N T n K d) (hN : L ≤ N) (hz : z + 1 ≤ d) (hd : d ≤ 20) (hs4 : hs_I s 7 4 = nI z) : ∀ (w F : Nat) (s1 m1 : hp_S) (x1 : Int32) (y p1 q1 v1 : Nat), AX T n K s m s1 m1 p q z sc p1 q1 v1 → MI m1 d 2 v1 → x1 = nI (fj m1 v1) → SF m m1 d d → y ≤ q1 → 100 < q1 + w → w + 2 ≤ F →
    ∃ x s' m', l_C_X4_call_7_8 (f_C_rec k N) F (nI d) x1 (nI y) s1 = some (x, s') ∧ rn m1 m' ∧ hs_fr rP rA m1 m' ∧ (DE T n K s s' m' ∨ (∃ p' q' v, AX T n K s m s' m' p q z sc p' q' v ∧ MI m' d 2 v ∧ x = nI (fj m' v) ∧ SF m m' d d ∧ tk_K T n K p' ≠ 17)) := by
  intro w
  induction w with
  | zero =>
    intro F s1 m1 x1 y p1 q1 v1 A MM hx hSF hy hw hF
    have := A.2.1.1.2.2.2.1
    omega
  | succ w ih =>
    intro F s1 m1 x1 y p1 q1 v1 A MM hx hSF hy hw hF
    have PQ1 := A.2.1.1
    have hK := PQ1.1.2.2.1
    have hp1K := PQ1.2.2.1
    have hq1 := PQ1.2.2.2.1
    by_cases c17 : tk_K T n K p1 = 17
    · obtain ⟨F, rfl⟩ : ∃ z, F = z + 1 := ⟨F - 1, by omega⟩
      have hp1 : p1 < K := tk_K_p (T := T) (n := n) (by omega)
      have cur := C_curN PQ1
      rw [c17] at cur
      have h6 : hs_I m1 0 6 = nI 16 := by have := PQ1.2.2.2.2.2.1.2.2.2.1; rw [c17] at this; exact this
      have hb : hs_I m1 0 50 = nI 0 := PQ1.2.2.2.2.2.1.2.2.1
      have hv1 := A.2.2.2.2.2.2.1
      have s14 : hs_I s1 7 4 = nI z := A.2.1.2.2.2.1
      by_cases hq : q1 < 100
      · obtain ⟨e1, -, xx, -, e2, S2⟩ := ST_mk (k := 17) (f := x1) (v := nI v1) A.2.1 hp1 (by omega) hq (by simp [nk]) (by omega) (by rw [hx]; exact cr_v hv1)
        obtain ⟨m2, hm2⟩ : ∃ m2, m2 = hs_pA (mS T n K m1 p1 q1 (nI (kn 17)) xx) 7 q1 (nI v1) := ⟨_, rfl⟩
        have S2' : ST T n K (cN s1 p1 q1 (nI 17) x1) m2 (p1 + 1) (q1 + 1) z sc := by
          rw [hm2]
          exact ST_m S2 (mS_fr.mono (by decide) (by decide))
        have m2A : ∀ a j, hs_A m2 a j = if a = 7 ∧ j = q1 then nI v1 else hs_A (mS T n K m1 p1 q1 (nI (kn 17)) xx) a j := fun a j => by rw [hm2, hs_A_pA]
        have m2I : ∀ j, j = 23 ∨ j = 55 ∨ j = 56 ∨ j = 50 → hs_I m2 0 j = hs_I m1 0 j := by
          rintro j (rfl | rfl | rfl | rfl) <;> (rw [hm2, hs_I_pA, mS_I]; simp)
        obtain ⟨m3, e3, x4, s3, m4, ec, er, eg, out⟩ := H N hN _ _ _ _ _ _ (nI 9) (nI q1) S2'.1 S2'.2.1 S2'.2.2 (by omega) ((m2I 23 (by simp)).trans MM.1)
        have r2 : rn m1 m3 := rn_called hb MM.2.1 (fun F hF => by
          refine M_calledO h6 (e2 F hF) (by omega) ?_ ?_
          · rw [mS_I]; simp; exact hb
          · rw [show hs_I (mS T n K m1 p1 q1 (nI (kn 17)) xx) 0 56 = nI v1 by rw [mS_I]; simp; exact MM.2.2, ← hm2]
            exact e3)
        have b2 : BF m1 m2 p1 q1 := by
          refine ⟨fun a j a1 a2 hj => ?_, fun t ht => ?_⟩
          · have g : ¬ j = q1 := by omega
            have g3 : ¬ a = 5 := by omega
            have g4 : ¬ a = 4 := by omega
            have g5 : ¬ a = 3 := by omega
            simp only [m2A, mS_A, g, g3, g4, g5, and_false, false_and, if_false]
          · have g : ¬ t = p1 := by omega
            simp [m2A, mS_A, g]
        have G2 : hs_fr rP rA m1 m2 := by
          rw [hm2]
          unfold mS
          exact ((GF_mM.cons GF_mP).cons ((hs_fr_pA (by decide)).cons (hs_fr_pA (by decide)))).cons (hs_fr_pA (by decide))
        have F2 : SF m1 m2 d d := by
          refine ⟨fun i _ => ?_, fun i _ => ?_⟩ <;> simp [m2A, mS_A]
        have C2 : hs_fr cP cA s1 (cN s1 p1 q1 (nI 17) x1) := CF_cN
        have C24 : hs_I (cN s1 p1 q1 (nI 17) x1) 7 4 = hs_I s 7 4 := by rw [S2'.2.2.2.1, hs4]
        rcases out with D | ⟨AL3, j2, j3, j4⟩
        · have hD := D.dd hK S2'.2.2.1 S2'.2.2.2.1
          obtain ⟨u5, e5, d5⟩ := C_setSecond_any (nI p1) x4 s3
          have hD5 := hD.go (Dr.of d5)
          refine ⟨nI p1, u5, m4, ?_, r2.tr er, G2.cons eg, Or.inl ((D.pre (A.2.2.2.1.cons C2) C24).post (Dr.of d5))⟩
          rw [L7_step (by omega) hd cur e1 ec e5 (D_expect hD5 (by omega) (by omega))]
          exact L7_dead hD5 (by omega)
        · obtain ⟨p3, q3, v3, B, MM3, hx3⟩ := AL_AX AL3
          have bp := B.1
          have bq := B.2.2.2.2.2.2.2.1.1
          have hp3 := B.2.1.1.2.2.1
          have fq3 : fj m4 q1 = p1 := by
            rw [fj_BF B.2.2.2.2.1 (by omega)]
            exact fj_of (by simp [m2A, mS_A]) (by omega)
          have hv3 := B.2.2.2.2.2.2.1
          have S4 : ST T n K (hs_pA s3 11 p1 x4) (hs_pA (hs_pI m4 0 23 (nI d)) 8 q1 (nI v3)) p3 q3 z sc := by
            have := ST_set (d := 1) (j := q1) (x := x4) (y := nI v3) (ST_m B.2.1 (hs_fr_pI (a := 0) (k := 23) (v := nI d) (by decide)) : ST T n K s3 (hs_pI m4 0 23 (nI d)) p3 q3 z sc) (by omega) (by omega) (by rw [hx3]; exact cr_v hv3)
            rw [show fj (hs_pI m4 0 23 (nI d)) q1 = p1 from fq3] at this
            exact this
          have hb4 : hs_I m4 0 50 = nI 0 := B.2.1.1.2.2.2.2.2.1.2.2.1
          have cs : f_C_X2_setSecond_8 (nI p1) x4 s3 = some (hs_pA s3 11 p1 x4) := C_setSecond (by omega)
          have G4 : hs_fr rP rA m1 (hs_pA (hs_pI m4 0 23 (nI d)) 8 q1 (nI v3)) := (G2.cons eg).cons ((hs_fr_pI (by decide)).cons (hs_fr_pA (by decide)))
          have C4 : hs_fr cP cA s (hs_pA s3 11 p1 x4) := ((A.2.2.2.1.cons C2).cons B.2.2.2.1).cons (hs_fr_pA (by decide))
          by_cases c18 : tk_K T n K p3 = 18
          · obtain ⟨hp3', ce2, x9, et9, -, S8⟩ := ST_take (a := nI p1) (b := nI q1) S4 c18 (by omega) (Or.inr ⟨q1, by omega, rfl, by rw [← fq3]; rfl⟩)
            obtain ⟨m9, hm9⟩ : ∃ m9, m9 = hs_pI (hs_pI (mP T n K (hs_pA (hs_pI m4 0 23 (nI d)) 8 q1 (nI v3)) p3 (nI q1) x9) 0 56 (nI q1)) 0 55 (nI 2) := ⟨_, rfl⟩
            have r4 : rn m4 m9 := by
              rw [hm9]
              refine rn_ended hb4 MM3.2.1 (fun F hF => M_ended89 (y := nI p3) MM3.1 (by omega) j3 (Or.inr rfl) j4 (by omega) ?_)
              rw [MM3.2.2]
              exact et9 F hF
            have m9A : ∀ a j, hs_A m9 a j = if a = 5 ∧ j = p3 then nI q1 else if a = 4 ∧ j = p3 then nI (tk_e T n p3) else if a = 3 ∧ j = p3 then nI (tk_p T n p3) else if a = 8 ∧ j = q1 then nI v3 else hs_A m4 a j := by
              intro a j
              rw [hm9]
              simp only [hs_A_pI, mP_A, hs_A_pA]
            have S9 : ST T n K (cT (hs_pA s3 11 p1 x4) p3 (nI p1)) m9 (p3 + 1) q3 z sc := by
              rw [hm9]
              exact ST_m S8 ((hs_fr_pI (by decide)).cons (hs_fr_pI (by decide)))
            obtain ⟨A9, f9⟩ := AX_bin (kk := 17) (m4 := m9) (s4 := cT (hs_pA s3 11 p1 x4) p3 (nI p1)) A c17 (Or.inl rfl) b2 (by simp [m2A, mS_A]) (by simp [m2A]) (by simp [m2A, mS_A]) (by simp [m2A, mS_A]) C2 (fun t ht => by simp only [cN, cT, hs_I_pI, hs_I_pA, hs_A_pI, hs_A_pA, and_true, true_and, and_false, false_and, and_self, eq_self, Nat.reduceEqDiff, ↓reduceIte, ht]) B (fun a j a1 a2 g => by rw [m9A, if_neg (by omega), if_neg (by omega), if_neg (by omega), if_neg g]) (by rw [m9A]; simp) (fun t ht => by rw [m9A, if_neg (by omega), if_neg (by omega), if_neg (by omega), if_neg (by omega)]) ((hs_fr_pA (by decide)).cons CF_cT) (fun t => by simp only [cT, hs_I_pI, hs_I_pA, hs_A_pI, hs_A_pA, and_true, true_and, and_false, false_and, and_self, eq_self, Nat.reduceEqDiff, ↓reduceIte]) S9 (by omega) (fun t t1 t2 g => by
              obtain rfl : t = p3 := by omega
              omega)
            have MI9 : MI m9 d 2 q1 := by
              rw [hm9]
              refine ⟨?_, ?_, ?_⟩ <;> simp only [hs_I_pI, hs_I_pA, hs_A_pI, hs_A_pA, and_true, true_and, and_false, false_and, and_self, eq_self, Nat.reduceEqDiff, ↓reduceIte, mP_I]
            have SF9 : SF m m9 d d := by
              refine ((hSF.tr F2 (Nat.le_refl _) (Nat.le_refl _)).tr j2 (Nat.le_refl _) (Nat.le_refl _)).tr (d' := d) (e' := d) ?_ (Nat.le_refl _) (Nat.le_refl _)
              refine ⟨fun i _ => ?_, fun i _ => ?_⟩ <;> simp [m9A]
            obtain ⟨x, s', m', g1, g2, g3, g4⟩ := ih F _ m9 (nI p1) (y + 1) _ _ _ A9 MI9 (by rw [f9]) SF9 (by omega) (by omega) (by omega)
            refine ⟨x, s', m', ?_, ((r2.tr er).tr r4).tr g2, ?_, g4⟩
            · rw [L7_step (by omega) hd cur e1 ec cs ce2]
              exact g1
            · refine hs_fr.cons ?_ g3
              rw [hm9]
              exact (G4.cons GF_mP).cons ((hs_fr_pI (by decide)).cons (hs_fr_pI (by decide)))
          · obtain ⟨ce2, et9, D9⟩ := PQ_take0 (nI p1) (nI q1) S4.1 c18 (by omega)
            have D9' := mB_F (D9.pre C4 (by rw [S4.2.2.2.1, hs4])) (m' := hs_pI (hs_pI (mB (hs_pA (hs_pI m4 0 23 (nI d)) 8 q1 (nI v3))) 0 56 (nI q1)) 0 55 (nI 2)) ((hs_fr_pI (by decide)).cons (hs_fr_pI (by decide)))
            refine ⟨nI p1, cR (hs_pA s3 11 p1 x4) p3, hs_pI (hs_pI (mB (hs_pA (hs_pI m4 0 23 (nI d)) 8 q1 (nI v3))) 0 56 (nI q1)) 0 55 (nI 2), ?_, (r2.tr er).tr (rn_ended hb4 MM3.2.1 (fun F hF => M_ended89 (y := nI 0) MM3.1 (by omega) j3 (Or.inr rfl) j4 (by omega) (by rw [MM3.2.2]; exact et9 F))), (G4.cons GF_mB).cons ((hs_fr_pI (by decide)).cons (hs_fr_pI (by decide))), Or.inl D9'⟩
            rw [L7_step (by omega) hd cur e1 ec cs ce2]
            exact L7_dead (D9'.dd hK (by omega) hs4) (by omega)
      · obtain ⟨⟨u, e1, D, u15⟩, -, e2⟩ := PQ_mk0 (nI 17) x1 (nI 30) PQ1 hq
        have D1 := D.pre A.2.2.2.1 (by rw [s14, hs4])
        have hD := D1.dd hK (by omega) hs4
        obtain ⟨y5, hy5⟩ : ∃ y5, N = y5 + 5 := ⟨N - 5, by omega⟩
        obtain ⟨x4, u4, e4, d4⟩ := D_0 k y5 (by omega) u (nI (d + 1)) (nI 0) (nI 0) hD
        rw [← hy5] at e4
        obtain ⟨u5, e5, d5⟩ := C_setSecond_any (nI p1) x4 u4
        have hD5 := (hD.go d4).go (Dr.of d5)
        refine ⟨nI p1, u5, hs_pA (mB m1) 7 100 (hs_I (mB m1) 0 56), ?_, rn_called hb MM.2.1 (fun F hF => M_calledO0 h6 (e2 F) (by omega) (by simp only [mB, hs_I_pI, hs_I_pA, hs_A_pI, hs_A_pA, and_true, true_and, and_false, false_and, and_self, eq_self, Nat.reduceEqDiff, ↓reduceIte])), GF_mB.cons (hs_fr_pA (by decide)), Or.inl (((mB_G D1 rfl rfl).post d4).post (Dr.of d5))⟩
        rw [L7_step (by omega) hd cur e1 e4 e5 (D_expect hD5 (by omega) (by omega))]
        exact L7_dead hD5 (by omega)
    · exact ⟨x1, s1, m1, L7_end PQ1 c17 (by omega), rn.rf, hs_fr.rf, Or.inr ⟨p1, q1, v1, A, MM, hx, hSF, c17⟩⟩
theorem A7 {k L N : Nat} {T : Nat → Nat} {n K d : Nat} {s m : hp_S} {p q z : Nat} {sc : Nat → Nat} (hk : 2000 ≤ k) (hL : 5 ≤ L) (H : ∀ N, L ≤ N → EE k N T n K d) (hN : L + 4 ≤ N) (h : ST T n K s m p q z sc) (hz : z + 1 ≤ d) (hd : d ≤ 20) (h23 : hs_I m 0 23 = nI d) (h55 : hs_I m 0 55 = nI 1) (b c : Int32) :
    ∃ x s' m', f_C_rec k N 7 (nI d) b c s = some (x, s') ∧ rn m m' ∧ hs_fr rP rA m m' ∧ (DE T n K s s' m' ∨ (∃ p' q' v, AX T n K s m s' m' p q z sc p' q' v ∧ MI m' d 2 v ∧ x = nI (fj m' v) ∧ SF m m' d d ∧ tk_K T n K p' ≠ 17)) := by
  obtain ⟨N, rfl⟩ : ∃ y, N = y + 1 := ⟨N - 1, by omega⟩
  obtain ⟨x, s1, m1, e1, e2, e3, e4⟩ := A8 hk hL H (show L + 3 ≤ N by omega) h hz hd h23 h55 (nI 0) (nI 0)
  have e1' : f_C_rec k N 8 (nI d) 0 0 s = some (x, s1) := e1
  rw [rec_7]
  unfold f_C_X4_call_7
  rw [e1']
  simp only [pm_bd]
  rcases e4 with D | ⟨A, hSF⟩
  · exact ⟨x, s1, m1, L7_dead (D.dd h.1.1.2.2.1 h.2.2.1 h.2.2.2.1) (by omega), e2, e3, Or.inl D⟩
  · obtain ⟨p1, q1, v1, A, MM, hx⟩ := AL_AX A
    obtain ⟨x', s', m', g1, g2, g3, g4⟩ := L7 hk hL H (show L ≤ N by omega) hz hd h.2.2.2.1 101 k s1 m1 x 0 p1 q1 v1 A MM hx hSF (by omega) (by omega) (by omega)
    exact ⟨x', s', m', g1, e2.tr g2, e3.cons g3, g4⟩
