def bv (p : Nat) : Int32 := if p = 0 then 0 else 1
def gv (p t : Nat) : Int32 := if p < t then 1 else 0
def wJ (G : Nat) : Int32 → Int32 → Int32 → hp_S → Option hp_S := fun z1 z2 z3 s => pm_let (z3 + (1 : Int32)) (fun x2 => l_M_X11_writeSlice_0_6 G z1 z2 x2 s)
theorem i10 : ((1 : Int32) = 0) = False := by decide
theorem i00 : ((0 : Int32) = 0) = True := by decide
theorem M_ws_no {m : hp_S} {K q t G : Nat} {b g : Int32} (h11 : hs_I m 0 11 = nI K) (hK : K ≤ 500) (ht : t < K) (hq : q ≤ 100) (h : hs_A m 5 t = nM ∨ ∃ a i, a < q ∧ i < q ∧ hs_A m 5 t = nI a ∧ hs_A m 16 a = nI i ∧ hs_A m 30 i = 0) : l_M_X11_writeSlice_0_6 (G + 1) b g (nI t) m = l_M_X11_writeSlice_0_6 G b 1 (nI (t + 1)) m := by
  have e1 : nI t + (1 : Int32) = nI (t + 1) := by simp (disch := omega) only [↓reduceIte, z_lit, z_m1, z_gd, z_le, z_lt, z_eq, z_em, z_me, z_ml, z_mle, z_lm, z_lem, z_pos, z_sub, nI_add, nI_clamp, ib_nI, pm_let, pm_bd, pm_b1, if_true, if_false, ite_true, ite_false, Nat.not_lt_zero, Nat.zero_le]
  rw [l_M_X11_writeSlice_0_6.eq_2, h11, if_neg (show ¬ nI K ≤ nI t by rw [z_le (by omega) (by omega)]; omega), show pm_ib (nI t) 501 = true from ib_nI (by omega) (by omega), z_gd, nI_clamp (by omega)]
  rcases h with h | ⟨a, i, h1, h2, h3, h4, h5⟩
  · simp only [pl_u]
    rw [h, if_pos (show nM < (0 : Int32) by decide)]
    simp only [i00, if_true, e1]
  · simp only [pl_u]
    rw [h3, if_neg (show ¬ nI a < (0 : Int32) by rw [show (0 : Int32) = nI 0 from rfl, z_lt (by omega) (by omega)]; omega), z_gd, show pm_ib (nI a) 101 = true from ib_nI (by omega) (by omega), z_gd, nI_clamp (by omega), h4, show pm_ib (nI i) 101 = true from ib_nI (by omega) (by omega), z_gd, nI_clamp (by omega), h5, if_pos rfl]
    simp only [i00, if_true, e1]
theorem M_ws_yes {m m1 : hp_S} {K q t p a i e0 G : Nat} (h11 : hs_I m 0 11 = nI K) (hK : K ≤ 500) (ht : t < K) (hp : p ≤ t) (hq : q ≤ 100) (h1 : a < q) (h2 : i < q) (h3 : hs_A m 5 t = nI a) (h4 : hs_A m 16 a = nI i) (h5 : hs_A m 30 i ≠ 0) (hx : mFd (tx_L (wi p t)) m = some m1) (he : hs_A m1 3 t = nI e0) (hG : 10 ≤ G) : l_M_X11_writeSlice_0_6 (G + 1) (bv p) (gv p t) (nI t) m = l_M_X11_writeSlice_0_101 (wJ G) G (nI t) (nI e0) m1 := by
  have i1 : pm_ib (nI t) 501 = true := ib_nI (by omega) (by omega)
  have q1 : (nI t).toNatClampNeg = t := nI_clamp (by omega)
  rw [l_M_X11_writeSlice_0_6.eq_2, h11, if_neg (show ¬ nI K ≤ nI t by rw [z_le (by omega) (by omega)]; omega), i1, z_gd, q1]
  simp only [pl_u]
  rw [h3, if_neg (show ¬ nI a < (0 : Int32) by rw [show (0 : Int32) = nI 0 from rfl, z_lt (by omega) (by omega)]; omega), z_gd, show pm_ib (nI a) 101 = true from ib_nI (by omega) (by omega), z_gd, nI_clamp (by omega), h4, show pm_ib (nI i) 101 = true from ib_nI (by omega) (by omega), z_gd, nI_clamp (by omega), if_neg h5]
  have eJ : (fun z1 z2 (z3 : Int32) s => l_M_X11_writeSlice_0_6 G z1 z2 (z3 + 1) s) = wJ G := rfl
  simp only [i10, if_false, eJ]
  unfold wi at hx
  unfold gv bv
  by_cases c : p < t
  · rw [if_pos c] at hx ⊢
    simp only [i10, if_false]
    by_cases c0 : p = 0
    · rw [if_pos c0] at hx ⊢
      rw [← wd_all.2.1, ← M_word _ hG] at hx
      simp only [i00, if_true, hx, pm_b1, i1, z_gd, pl_u, q1, he]
    · rw [if_neg c0] at hx ⊢
      rw [← wd_all.2.2.1, ← M_word _ hG] at hx
      simp only [i10, if_false, hx, pm_b1, i1, z_gd, pl_u, q1, he]
  · rw [if_neg c] at hx ⊢
    simp only [i00, if_true]
    by_cases c0 : p = 0
    · rw [if_pos c0] at hx ⊢
      have : m = m1 := Option.some.inj hx
      subst this
      simp only [i00, if_true, i1, z_gd, pl_u, q1, he]
    · rw [if_neg c0] at hx ⊢
      have hx' : pm_b1 (f_M_X11_write_0 (32 : Int32) m) (fun s => some s) = some m1 := hx
      simp only [i10, if_false]
      cases hw : f_M_X11_write_0 (32 : Int32) m with
      | none => rw [hw] at hx'; exact absurd hx' (by simp [pm_b1])
      | some m2 =>
        rw [hw] at hx'
        have : m2 = m1 := Option.some.inj hx'
        subst this
        simp only [pm_b1, i1, z_gd, pl_u, q1, he]
theorem C_in {s : hp_S} {q i : Nat} (h : hs_I s 0 11 = nI q) (hq : q ≤ 100) (hi : i < q) : f_C_X10_isIn_0 (nI i) s = some (if hs_A s 42 i = 0 then nI 0 else nI 1, s) := by
  unfold f_C_X10_isIn_0
  rw [if_neg (show ¬ nI i < (0 : Int32) by rw [show (0 : Int32) = nI 0 from rfl, z_lt (by omega) (by omega)]; omega), h, if_neg (show ¬ nI q ≤ nI i by rw [z_le (by omega) (by omega)]; omega), if_neg (show ¬ (100 : Int32) ≤ nI i by rw [show (100 : Int32) = nI 100 from rfl, z_le (by omega) (by omega)]; omega), show pm_ib (nI i) 100 = true from ib_nI (by omega) (by omega), z_gd, nI_clamp (by omega)]
  by_cases c : hs_A s 42 i = 0
  · rw [if_pos c, if_pos c]; rfl
  · rw [if_neg c, if_neg c]; rfl
theorem WSL {T : Nat → Nat} {n K q : Nat} : ∀ (d t p : Nat) (s m : hp_S) (w : Nat), t + d = K → p ≤ t → WS s m T n K q → OU s m w → ∃ s' m' w', (∀ G, d + 1100 ≤ G → l_C_X10_writeSlice_0_4 G (pv p) (nI t) s = some s') ∧ (∀ G, d + 1100 ≤ G → l_M_X11_writeSlice_0_6 G (bv p) (gv p t) (nI t) m = some m') ∧ OU s' m' w' ∧ hs_fr oP oA s s' ∧ hs_fr pP pA' m m' := by
  intro d
  induction d with
  | zero =>
    intro t p s m w ht hp hS hO
    have hK := hS.1.2.2.1
    have h4 := hS.1.2.1.1
    have h11 := hS.2.2.2.2.1
    have tK : t = K := by omega
    subst tK
    by_cases c : p < t
    · obtain ⟨s', m', w', a1, a2, a3, a4, a5, -⟩ := OU_fd (tx_L 12) s m w hO
      refine ⟨s', m', w', fun G hG => ?_, fun G hG => ?_, a3, a4, a5⟩
      · obtain ⟨G, rfl⟩ : ∃ z, G = z + 1 := ⟨G - 1, by omega⟩
        rw [l_C_X10_writeSlice_0_4.eq_2]
        unfold f_C_X6_size_3
        simp only [pm_bd, h4]
        rw [if_pos (Int32.le_refl _), show nI t - (1 : Int32) = nI (t - 1) from z_sub (b := 1) (by omega) (by omega)]
        rw [if_neg, C_text (by omega) (by omega) (by omega), a1]
        · rfl
        · unfold pv
          by_cases c0 : p = 0
          · rw [if_pos c0]
            intro q
            have : (0 : Int32) ≤ nM := Int32.le_trans (nI_ge0 (a := t - 1) (by omega)) q
            exact absurd this (by decide)
          · rw [if_neg c0, z_le (by omega) (by omega)]
            omega
      · obtain ⟨G, rfl⟩ : ∃ z, G = z + 1 := ⟨G - 1, by omega⟩
        rw [l_M_X11_writeSlice_0_6.eq_2, h11, if_pos (Int32.le_refl _)]
        unfold gv
        rw [if_pos c, if_neg (by decide), M_word _ (by omega), wd_all.1, a2]
        rfl
    · have pt : p = t := by omega
      subst pt
      refine ⟨s, m, w, fun G hG => ?_, fun G hG => ?_, hO, hs_fr.rf, hs_fr.rf⟩
      · obtain ⟨G, rfl⟩ : ∃ z, G = z + 1 := ⟨G - 1, by omega⟩
        rw [l_C_X10_writeSlice_0_4.eq_2]
        unfold f_C_X6_size_3
        simp only [pm_bd, h4]
        rw [if_pos (Int32.le_refl _), if_pos]
        unfold pv
        by_cases c0 : p = 0
        · rw [if_pos c0, c0]; decide
        · rw [if_neg c0, show nI p - (1 : Int32) = nI (p - 1) from z_sub (b := 1) (by omega) (by omega)]
          exact Int32.le_refl _
      · obtain ⟨G, rfl⟩ : ∃ z, G = z + 1 := ⟨G - 1, by omega⟩
        rw [l_M_X11_writeSlice_0_6.eq_2, h11, if_pos (Int32.le_refl _)]
        unfold gv
        rw [if_neg c, if_pos rfl]
  | succ d ih =>
    intro t p s m w ht hp hS hO
    have hK := hS.1.2.2.1
    have hn := hS.1.1.2.1
    have h4 := hS.1.2.1.1
    have h11 := hS.2.2.2.2.1
    have hq := hS.2.2.1
    have hq0 := hS.2.2.2.1
    obtain ⟨o1, o2, o3⟩ := hS.2.2.2.2.2.1 t (by omega)
    have no : (hs_A m 5 t = nM ∨ ∃ a i, a < q ∧ i < q ∧ hs_A m 5 t = nI a ∧ hs_A m 16 a = nI i ∧ hs_A m 30 i = 0) → f_C_X10_isIn_0 (hs_A s 25 t) s = some (nI 0, s) → ∃ s' m' w', (∀ G, d + 1 + 1100 ≤ G → l_C_X10_writeSlice_0_4 G (pv p) (nI t) s = some s') ∧ (∀ G, d + 1 + 1100 ≤ G → l_M_X11_writeSlice_0_6 G (bv p) (gv p t) (nI t) m = some m') ∧ OU s' m' w' ∧ hs_fr oP oA s s' ∧ hs_fr pP pA' m m' := by
      intro hm hs
      obtain ⟨s', m', w', a1, a2, a3⟩ := ih (t + 1) p s m w (by omega) (by omega) hS hO
      refine ⟨s', m', w', fun G hG => ?_, fun G hG => ?_, a3⟩
      · obtain ⟨G, rfl⟩ : ∃ z, G = z + 1 := ⟨G - 1, by omega⟩
        rw [C_ws_no h4 hK (by omega) rfl hs]
        exact a1 G (by omega)
      · obtain ⟨G, rfl⟩ : ∃ z, G = z + 1 := ⟨G - 1, by omega⟩
        rw [M_ws_no h11 hK (by omega) hq hm, show (1 : Int32) = gv p (t + 1) by unfold gv; rw [if_pos (by omega)]]
        exact a2 G (by omega)
    rcases o3 with ⟨o3, o4⟩ | ⟨a, i, o3, o4, o5, o6, o7⟩
    · refine no (Or.inl o3) ?_
      rw [o4]
      unfold f_C_X10_isIn_0
      rw [if_pos (by decide)]
      rfl
    · have hin := C_in hq0 hq o4
      have h42 := hS.2.2.2.2.2.2 i o4
      by_cases c : hs_A s 42 i = 0
      · refine no (Or.inr ⟨a, i, o3, o4, o5, o7, h42.mp c⟩) ?_
        rw [o6, hin, if_pos c]
      · rw [if_neg c] at hin
        obtain ⟨s1, m1, w1, a1, a2, a3, a4, a5, -⟩ := OU_fd (tx_L (wi p t)) s m w hO
        have S1 := WS_fr hS a4 a5
        have le := tk_e_le (TK_of hS.1) (show t < K by omega)
        have pe := ((TK_of hS.1).e (show t < K by omega)).1
        obtain ⟨s2, m2, w2, b1, b2, b3, b4, b5⟩ := W_cp (T := T) (n := n) (K := K) (q := q) (t := t) (by omega) (tk_e T n t - tk_p T n t) (tk_p T n t) s1 m1 w1 (by omega) S1 a3
        have S2 := WS_fr S1 b4 b5
        obtain ⟨s3, m3, w3, c1, c2, c3, c4, c5⟩ := ih (t + 1) (t + 1) s2 m2 w2 (by omega) (by omega) S2 b3
        have e3 := (S1.2.2.2.2.2.1 t (by omega)).1
        have st := (C_st3 S1.1 (show t < K by omega)).1
        refine ⟨s3, m3, w3, fun G hG => ?_, fun G hG => ?_, c3, (a4.cons b4).cons c4, (a5.cons b5).cons c5⟩
        · obtain ⟨G, rfl⟩ : ∃ z, G = z + 1 := ⟨G - 1, by omega⟩
          rw [C_ws_yes (s1 := s1) (s2 := s2) h4 hK (by omega) hp o6 hin a1 (by
            unfold f_C_X6_copyTo_3_39
            rw [st]
            exact b1 G (by omega)) (by omega)]
          have := c1 G (by omega)
          rw [show pv (t + 1) = nI t by unfold pv; rw [if_neg (by omega)]; rfl] at this
          exact this
        · obtain ⟨G, rfl⟩ : ∃ z, G = z + 1 := ⟨G - 1, by omega⟩
          rw [M_ws_yes h11 hK (by omega) hp hq o3 o4 o5 o7 (fun z => c (h42.mpr z)) a2 e3 (by omega), b2 _ G (by omega)]
          have := c2 G (by omega)
          rw [show bv (t + 1) = 1 by unfold bv; rw [if_neg (by omega)], show gv (t + 1) (t + 1) = 0 by unfold gv; rw [if_neg (by omega)]] at this
          rw [← this]
          unfold wJ
          rw [pl_u, show nI t + (1 : Int32) = nI (t + 1) by simp (disch := omega) only [↓reduceIte, z_lit, z_m1, z_gd, z_le, z_lt, z_eq, z_em, z_me, z_ml, z_mle, z_lm, z_lem, z_pos, z_sub, nI_add, nI_clamp, ib_nI, pm_let, pm_bd, pm_b1, if_true, if_false, ite_true, ite_false, Nat.not_lt_zero, Nat.zero_le]]
