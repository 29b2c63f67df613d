/-! WHAT A NODE ASKS, in both -/
theorem ch_in {s m : hp_S} {t : TT} {g : GG} {z V c k d : Nat} (h : TRt s m t) (hc : CP s m t g z V) (hcz : c < z) (h1 : fn g c ≤ k) (h2 : k < en t g c) (hd : d < ar (tkd t k)) : fn g c ≤ tch t d k ∧ tch t d k < en t g c := by
  obtain ⟨r1, r2⟩ := CP_rng h hc hcz
  have a := (h.2.2.2.2.1 k (by omega) d hd).1
  unfold fn en at *
  by_cases c0 : c = 0
  · rw [if_pos c0, if_pos c0]
    exact ⟨by omega, a⟩
  · rw [if_neg c0] at h1 h2 ⊢
    rw [if_neg c0]
    obtain ⟨b1, b2, -⟩ := hc.2.2.2.1 c (by omega) hcz
    obtain ⟨-, -, -, -, e5, -⟩ := h.2.2.2.2.2.2.2.1 _ b1 b2
    exact e5 k h1 h2 d hd
theorem C_snd17 {s : hp_S} {k : Nat} (hk : k < 100) : f_C_X2_second_17 (nI k) s = some (hs_A s 20 k, s) := by
  unfold f_C_X2_second_17
  simp (disch := omega) only [↓reduceIte, z_lit, z_m1, z_gd, z_le, z_lt, z_eq, z_em, z_me, z_ml, z_mle, z_lm, z_lem, z_pos, z_sub, nI_add, nI_clamp, ib_nI, pm_let, pm_bd, pm_b1, if_true, if_false, ite_true, ite_false, Nat.not_lt_zero, Nat.zero_le, C_holds17 hk]
  all_goals simp
theorem C_trd17 {s : hp_S} {k : Nat} (hk : k < 100) : f_C_X2_third_17 (nI k) s = some (hs_A s 21 k, s) := by
  unfold f_C_X2_third_17
  simp (disch := omega) only [↓reduceIte, z_lit, z_m1, z_gd, z_le, z_lt, z_eq, z_em, z_me, z_ml, z_mle, z_lm, z_lem, z_pos, z_sub, nI_add, nI_clamp, ib_nI, pm_let, pm_bd, pm_b1, if_true, if_false, ite_true, ite_false, Nat.not_lt_zero, Nat.zero_le, C_holds17 hk]
  all_goals simp
theorem C_target {s : hp_S} {x : Nat} (hx : x < 2000) : f_C_X1_target_26 (nI x) s = some (hs_A s 30 x, s) := by
  unfold f_C_X1_target_26
  have c : ¬ 2000 ≤ x := by omega
  simp (disch := omega) only [↓reduceIte, z_lit, z_m1, z_gd, z_le, z_lt, z_eq, z_em, z_me, z_ml, z_mle, z_lm, z_lem, z_pos, z_sub, nI_add, nI_clamp, ib_nI, pm_let, pm_bd, pm_b1, if_true, if_false, ite_true, ite_false, Nat.not_lt_zero, Nat.zero_le, c]
/-- the class's variables of a node and its parts -/
theorem AP_of {s m : hp_S} {t : TT} {g : GG} {z V c k : Nat} (h : TRt s m t) (hc : CP s m t g z V) (hcz : c < z) (h1 : fn g c ≤ k) (h2 : k < en t g c) : ∃ x4 x6 x8 x10, AP s c k (cv t g c k) x4 x6 x8 x10 (tkd t k) ∧ (0 < ar (tkd t k) → x6 = nI (cv t g c (tch t 0 k))) ∧ (1 < ar (tkd t k) → x10 = nI (cv t g c (tch t 1 k))) := by
  obtain ⟨r1, r2⟩ := CP_rng h hc hcz
  have q1 := h.1.2
  have k1 := C_variable h hc hcz h1 h2
  have k2 := (h.2.2.2.1 k (by omega)).2.1
  have e0 : ∃ x6, f_C_X1_variable_26 (nI c) (hs_A s 19 k) s = some (x6, s) ∧ (0 < ar (tkd t k) → x6 = nI (cv t g c (tch t 0 k))) := by
    by_cases d : 0 < ar (tkd t k)
    · obtain ⟨c1, c2⟩ := ch_in h hc hcz h1 h2 d
      have e := (h.2.2.2.2.1 k (by omega) 0 d).2.1
      rw [Nat.add_zero] at e
      exact ⟨_, by rw [e]; exact C_variable h hc hcz c1 c2, fun _ => rfl⟩
    · obtain ⟨x, hx⟩ := C_variable_any h hc hcz (hs_A s 19 k)
      exact ⟨x, hx, fun q => absurd q d⟩
  have e1 : ∃ x10, f_C_X1_variable_26 (nI c) (hs_A s 20 k) s = some (x10, s) ∧ (1 < ar (tkd t k) → x10 = nI (cv t g c (tch t 1 k))) := by
    by_cases d : 1 < ar (tkd t k)
    · obtain ⟨c1, c2⟩ := ch_in h hc hcz h1 h2 d
      have e := (h.2.2.2.2.1 k (by omega) 1 d).2.1
      exact ⟨_, by rw [show hs_A s 20 k = nI (tch t 1 k) from e]; exact C_variable h hc hcz c1 c2, fun _ => rfl⟩
    · obtain ⟨x, hx⟩ := C_variable_any h hc hcz (hs_A s 20 k)
      exact ⟨x, hx, fun q => absurd q d⟩
  obtain ⟨x6, a1, a2⟩ := e0
  obtain ⟨x10, b1, b2⟩ := e1
  refine ⟨_, x6, _, x10, ⟨k1, C_fst17 (by omega), a1, C_snd17 (by omega), b1, ?_⟩, a2, b2⟩
  rw [C_kind17 (by omega), k2]
def AR (s m : hp_S) (A : AA) (R : Nat) (σ : Nat → Nat) (V : Nat) (r : Nat) (s' m' : hp_S) : Prop := hs_fr xP xA s s' ∧ hs_fr yP yA m m' ∧ ((r = 1 ∧ ∃ A' R', JA s' m' A' R' σ V ∧ R' ≤ R + 4 ∧ nt A' R' ≤ nt A R + 2) ∨ (r = 0 ∧ hs_I m' 0 41 = nI 1))
theorem J_ask {s m : hp_S} {t : TT} {g : GG} {z V c k R kf F : Nat} {σ τ : Nat → Nat} {A : AA} {a3 : Int32} (hU : UD s m t g z V) (hP : PM t g z V σ τ) (hJ : JA s m A R σ V) (hcz : c < z) (h1 : fn g c ≤ k) (h2 : k < en t g c) (hR : R + 4 ≤ 10002) (ht : nt A R + 2 ≤ 4000) (hk : 20000 ≤ kf) (hF : 20000 ≤ F) (ha3 : tkd t k = 2 → tkd t (tmn t k) = 5 → a3 = nI (ui t g c k)) :
    ∃ r s' m', f_C_X0_ask_37 kf (nI c) (nI k) s = some (nI r, s') ∧ f_M_X11_ask_0 F (nI c) (nI (tnd t k)) a3 m = some m' ∧ AR s m A R σ V r s' m' := by
  obtain ⟨h, hc, hu0, hu1, hTG⟩ := id hU
  obtain ⟨r1, r2⟩ := CP_rng h hc hcz
  have q1 := h.1.2
  obtain ⟨v1, v2, v3, v4, v5, v6⟩ := cv_in h hc hcz h1 h2
  have V2 := hc.1.2.2.2
  obtain ⟨n1, n2, n3, n4, n5, n6⟩ := h.2.2.2.1 k (by omega)
  obtain ⟨x4, x6, x8, x10, hap, hx6, hx10⟩ := AP_of h hc hcz h1 h2
  obtain ⟨s1, s2⟩ := hP.2.2.2 c k hcz h1 h2
  have T0 : ∀ mm, hs_fr yP yA m mm → f_M_X11_typeOf_0 F (nI c) (nI (tnd t k)) mm = some (nI (rv g c k), mm) := fun mm f => M_typeOf (UD_fr hU hs_fr.rf f).1 (UD_fr hU hs_fr.rf f).2.1 hcz h1 h2 (by omega)
  have TD : ∀ d, d < ar (tkd t k) → ∀ mm, hs_fr yP yA m mm → f_M_X11_typeOf_0 F (nI c) (hs_A mm (7 + d) (tnd t k)) mm = some (nI (rv g c (tch t d k)), mm) := by
    intro d hd mm f
    have d3 := ar_le (tkd t k)
    obtain ⟨c1, c2⟩ := ch_in h hc hcz h1 h2 hd
    have e := (h.2.2.2.2.1 k (by omega) d hd).2.2
    have : (7 + d) ∉ yA := by rcases (show d = 0 ∨ d = 1 ∨ d = 2 by omega) with rfl | rfl | rfl <;> decide
    rw [f.2 _ this, e]
    exact M_typeOf (UD_fr hU hs_fr.rf f).1 (UD_fr hU hs_fr.rf f).2.1 hcz c1 c2 (by omega)
  have SD : ∀ d, d < ar (tkd t k) → σ (cv t g c (tch t d k)) = rv g c (tch t d k) ∧ cv t g c (tch t d k) < V := by
    intro d hd
    obtain ⟨c1, c2⟩ := ch_in h hc hcz h1 h2 hd
    obtain ⟨-, -, -, w4, w5, -⟩ := cv_in h hc hcz c1 c2
    exact ⟨(hP.2.2.2 c _ hcz c1 c2).1, by omega⟩
  obtain ⟨J1, J2, J3, J4, J5, J6, J7⟩ := id hJ
  have sV := J2 V (Nat.le_refl _)
  have sV1 := J2 (V + 1) (by omega)
  have sR := J2 R (by omega)
  have f0 : hs_fr yP yA m m := hs_fr.rf
  -- one equation between cells that are there
  have one : ∀ a b, a < R → b < R → ∃ r s' m', f_C_X9_unify_31 kf (nI a) (nI b) s = some (nI r, s') ∧ f_M_X11_same_0 F (nI (σ a)) (nI (σ b)) m = some m' ∧ r < 2 ∧ AR s m A R σ V r s' m' := by
    intro a b ha hb
    obtain ⟨r, s', m', e1, e2, e3, e4, e5⟩ := JA_unify hJ (by omega) ha hb hk hF
    refine ⟨r, s', m', e1, e2, by omega, e3, e4, ?_⟩
    rcases e5 with ⟨g1, g2⟩ | g
    · exact Or.inl ⟨g1, A, R, g2, by omega, by omega⟩
    · exact Or.inr g
  -- one with a new function or pair
  have new : ∀ kk l r' a, 3 ≤ kk → kk ≤ 4 → l < R → r' < R → a < R → ∃ s1 m1, f_C_X9_add_31 (nI (ck kk)) (nI l) (nI r') s = some (nI R, s1) ∧ f_M_X11_fresh_0 (nI kk) (nI (σ l)) (nI (σ r')) m = some (nI R, m1) ∧ ∃ r s' m', f_C_X9_unify_31 kf (nI a) (nI R) s1 = some (nI r, s') ∧ f_M_X11_same_0 F (nI (σ a)) (nI R) m1 = some m' ∧ r < 2 ∧ AR s m A R σ V r s' m' := by
    intro kk l r' a hk3 hk4 hl hr ha
    obtain ⟨e1, e2, e3⟩ := JA_new (k := kk) (l := l) (r := r') (x := nI l) (y := nI r') (x' := nI (σ l)) (y' := nI (σ r')) hJ (by omega) hk4 (fun _ => ⟨hl, hr, rfl, rfl, rfl, rfl⟩)
    have ntn := nt_new (A := A) (R := R) (k := kk) (l := l) (r := r')
    rw [if_pos hk3] at ntn
    obtain ⟨r, s', m', g1, g2, g3, g4, g5⟩ := JA_unify (a := a) (b := R) e3 (by omega) (by omega) (by omega) hk hF
    rw [sR] at g2
    refine ⟨_, _, e1, e2, r, s', m', g1, g2, by omega, F_sN.cons g3, F_mNw.cons g4, ?_⟩
    rcases g5 with ⟨g1, g2⟩ | g
    · exact Or.inl ⟨g1, _, R + 1, g2, by omega, by omega⟩
    · exact Or.inr g
  have nkk := n1
  simp only [nk, List.mem_cons, List.not_mem_nil, or_false] at nkk
  have nl : tnd t k < 101 := by omega
  have rkk : rk (tkd t) (tmn t) k = if tkd t k = 2 then (if tkd t (tmn t k) = 4 then 32 else 33) else kn (tkd t k) := rfl
  rcases nkk with e | e | e | e | e | e | e | e | e | e | e | e | e | e
  · -- a name
    obtain ⟨m1, m2, m3, m4⟩ := h.2.2.2.2.2.1 k (by omega) e
    obtain ⟨t4, t5⟩ := hTG c k hcz h1 h2 e
    rw [if_pos e] at rkk
    rw [e] at hap
    have tg := C_target (s := s) (show cv t g c k < 2000 by omega)
    rcases m2 with k4 | k5
    · rw [if_pos k4] at rkk
      rw [rkk] at n6
      obtain ⟨o1, o2, o3⟩ := HO_ok h hc m1 hcz
      obtain ⟨-, -, -, w4, w5, w6⟩ := cv_in h hc (show HO t g (tmn t k) c < z by omega) o1 o2
      have w7 := w6 k4
      obtain ⟨-, σ2⟩ := hP.2.2.2 _ _ (show HO t g (tmn t k) c < z by omega) o1 o2
      rw [t4 k4] at tg
      obtain ⟨r, s', m', u1, u2, u3, u4⟩ := one (cv t g c k) (cv t g (HO t g (tmn t k) c) (tmn t k) + 1) (by omega) (by omega)
      rw [s1, σ2 k4] at u2
      refine ⟨r, s', m', C_ask2 hap u3 tg u1, M_ask32 (x := nI (HO t g (tmn t k) c)) nl (T0 m f0) n6 ?_ ?_ u2, u4⟩
      · rw [m4]; exact M_copyWith h hc m1 hcz (by omega)
      · rw [m4]; exact M_nameOf h hc (by omega) o1 o2 (by omega)
    · have k4' : ¬ tkd t (tmn t k) = 4 := by omega
      rw [if_neg k4'] at rkk
      rw [rkk] at n6
      obtain ⟨y1, y2, y3, y4⟩ := t5 k5
      obtain ⟨-, -, -, l4, -⟩ := h.2.2.2.2.2.2.2.1 _ m1 k5
      have fz : fn g (ui t g c k) = tmn t k + 1 := by unfold fn; rw [if_neg (by omega), y3]
      have ez : en t g (ui t g c k) = tbe t (tmn t k) := by unfold en; rw [if_neg (by omega), y3]
      obtain ⟨-, -, -, w4, w5, -⟩ := cv_in h hc y2 (by rw [fz]; exact l4.1) (by rw [ez]; exact l4.2)
      obtain ⟨σ1, -⟩ := hP.2.2.2 _ _ y2 (show fn g (ui t g c k) ≤ tch t 0 (tmn t k) by rw [fz]; exact l4.1) (by rw [ez]; exact l4.2)
      rw [y4] at tg
      obtain ⟨r, s', m', u1, u2, u3, u4⟩ := one (cv t g c k) (cv t g (ui t g c k) (tch t 0 (tmn t k))) (by omega) (by omega)
      rw [s1, σ1] at u2
      have n7 := (h.2.2.2.2.1 _ m1 0 (by rw [k5]; decide)).2.2
      have nm := TR_nd h m1
      refine ⟨r, s', m', C_ask2 hap u3 tg u1, M_ask33 (b := tnd t (tmn t k)) nl (T0 m f0) n6 (by omega) m4 ?_ u2, u4⟩
      rw [ha3 e k5, show hs_A m 7 (tnd t (tmn t k)) = nI (tnd t (tch t 0 (tmn t k))) from n7]
      exact M_typeOf h hc y2 (by rw [fz]; exact l4.1) (by rw [ez]; exact l4.2) (by omega)
  · -- a number
    rw [if_neg (by omega), e] at rkk
    rw [rkk] at n6
    rw [e] at hap
    obtain ⟨r, s', m', u1, u2, u3, u4⟩ := one (cv t g c k) V (by omega) (by omega)
    rw [s1, sV] at u2
    exact ⟨r, s', m', C_ask3 hap u3 (by rw [J4]; exact u1), M_ask2 nl (T0 m f0) n6 (by rw [J6]; exact u2), u4⟩
  · -- a fn
    rw [if_neg (by omega), e] at rkk
    rw [rkk] at n6
    rw [e] at hap hx6
    have d0 : 0 < ar (tkd t k) := by rw [e]; decide
    obtain ⟨σ0, b0⟩ := SD 0 d0
    have w := v6 e
    obtain ⟨s1', m1', a1, a2, r, s', m', u1, u2, u3, u4⟩ := new 3 (cv t g c k + 1) (cv t g c (tch t 0 k)) (cv t g c k) (by omega) (by omega) (by omega) (by omega) (by omega)
    rw [s2 e, σ0] at a2
    rw [s1] at u2
    rw [hx6 (by decide)] at hap
    have ea : nI (cv t g c k) + nI 1 = nI (cv t g c k + 1) := by simp (disch := omega) only [↓reduceIte, z_lit, z_m1, z_gd, z_le, z_lt, z_eq, z_em, z_me, z_ml, z_mle, z_lm, z_lem, z_pos, z_sub, nI_add, nI_clamp, ib_nI, pm_let, pm_bd, pm_b1, if_true, if_false, ite_true, ite_false, Nat.not_lt_zero, Nat.zero_le]
    exact ⟨r, s', m', C_ask4 hap u3 (by rw [ea]; exact a1) u1, M_ask3 nl (T0 m f0) n6 (M_nameOf h hc hcz h1 h2 (by omega)) (TD 0 d0 m f0) a2 u2, u4⟩
  · -- a let
    rw [if_neg (by omega), e] at rkk
    rw [rkk] at n6
    rw [e] at hap hx10
    have d1 : 1 < ar (tkd t k) := by rw [e]; decide
    obtain ⟨σ1, b1⟩ := SD 1 d1
    obtain ⟨r, s', m', u1, u2, u3, u4⟩ := one (cv t g c k) (cv t g c (tch t 1 k)) (by omega) (by omega)
    rw [s1, σ1] at u2
    rw [hx10 (by decide)] at hap
    exact ⟨r, s', m', C_ask5 hap u3 u1, M_ask4 nl (T0 m f0) n6 (TD 1 d1 m f0) u2, u4⟩
  · -- an if
    rw [if_neg (by omega), e] at rkk
    rw [rkk] at n6
    rw [e] at hap hx6 hx10
    have d0 : 0 < ar (tkd t k) := by rw [e]; decide
    have d1 : 1 < ar (tkd t k) := by rw [e]; decide
    have d2 : 2 < ar (tkd t k) := by rw [e]; decide
    obtain ⟨σ0, b0⟩ := SD 0 d0
    obtain ⟨σ1, b1⟩ := SD 1 d1
    obtain ⟨σ2, b2⟩ := SD 2 d2
    rw [hx6 (by decide), hx10 (by decide)] at hap
    obtain ⟨ra, sa, ma, u1, u2, u3, u4, u5⟩ := JA_unify (a := cv t g c (tch t 0 k)) (b := V + 1) hJ (by omega) (by omega) (by omega) hk hF
    rw [σ0, sV1] at u2
    rcases u5 with ⟨rfl, JB⟩ | ⟨rfl, od⟩
    · obtain ⟨rb, sb, mb, w1, w2, w3, w4, w5⟩ := JA_unify (a := cv t g c k) (b := cv t g c (tch t 1 k)) JB (by omega) (by omega) (by omega) hk hF
      rw [s1, σ1] at w2
      rcases w5 with ⟨rfl, JC⟩ | ⟨rfl, od⟩
      · obtain ⟨rc, sc, mc, y1, y2, y3, y4, y5⟩ := JA_unify (a := cv t g c k) (b := cv t g c (tch t 2 k)) JC (by omega) (by omega) (by omega) hk hF
        rw [s1, σ2] at y2
        have U3 := UD_fr hU (u3.cons w3) (u4.cons w4)
        obtain ⟨c1, c2⟩ := ch_in h hc hcz h1 h2 d2
        have e21 := (U3.1.2.2.2.2.1 k (by omega) 2 d2).2.1
        refine ⟨rc, sc, mc, C_ask7c (x36 := nI (cv t g c (tch t 2 k))) hap (by omega) (by rw [J5]; exact u1) w1 (C_trd17 (by omega)) ?_ y1, M_ask6 nl (T0 m f0) n6 (TD 0 d0 m f0) (by rw [J7]; exact u2) (TD 1 d1 ma u4) w2 (TD 2 d2 mb (u4.cons w4)) y2, (u3.cons w3).cons y3, (u4.cons w4).cons y4, ?_⟩
        · rw [show hs_A sb 21 k = nI (tch t 2 k) from e21]
          exact C_variable U3.1 U3.2.1 hcz c1 c2
        · rcases y5 with ⟨g1, g2⟩ | q
          · exact Or.inl ⟨g1, A, R, g2, by omega, by omega⟩
          · exact Or.inr q
      · obtain ⟨z1, z2, z3⟩ := M_sameO (a := nI (rv g c k)) (b := nI (rv g c (tch t 2 k))) (F := F) od (by omega)
        refine ⟨0, sb, _, C_ask7b (s3 := s) (r := 0) hap (by rw [J5]; exact u1) w1, M_ask6 nl (T0 m f0) n6 (TD 0 d0 m f0) (by rw [J7]; exact u2) (TD 1 d1 ma u4) w2 (TD 2 d2 mb (u4.cons w4)) z1, u3.cons w3, (u4.cons w4).cons (z2.mono (by decide) (by decide)), Or.inr ⟨rfl, z3⟩⟩
    · obtain ⟨z1, z2, z3⟩ := M_sameO (a := nI (rv g c k)) (b := nI (rv g c (tch t 1 k))) (F := F) od (by omega)
      have z2' : hs_fr yP yA ma _ := z2.mono (by decide) (by decide)
      obtain ⟨y1, y2, y3⟩ := M_sameO (a := nI (rv g c k)) (b := nI (rv g c (tch t 2 k))) (F := F) z3 (by omega)
      refine ⟨0, sa, _, C_ask7a (s2 := s) (s3 := s) (r := 0) hap (by rw [J5]; exact u1), M_ask6 nl (T0 m f0) n6 (TD 0 d0 m f0) (by rw [J7]; exact u2) (TD 1 d1 ma u4) z1 (TD 2 d2 _ (u4.cons z2')) y1, u3, (u4.cons z2').cons (y2.mono (by decide) (by decide)), Or.inr ⟨rfl, y3⟩⟩
  · -- true
    rw [if_neg (by omega), e] at rkk
    rw [rkk] at n6
    rw [e] at hap
    obtain ⟨r, s', m', u1, u2, u3, u4⟩ := one (cv t g c k) (V + 1) (by omega) (by omega)
    rw [s1, sV1] at u2
    exact ⟨r, s', m', C_ask10 hap u3 (by rw [J5]; exact u1), M_ask9 nl (T0 m f0) n6 (by rw [J7]; exact u2), u4⟩
  · -- false
    rw [if_neg (by omega), e] at rkk
    rw [rkk] at n6
    rw [e] at hap
    obtain ⟨r, s', m', u1, u2, u3, u4⟩ := one (cv t g c k) (V + 1) (by omega) (by omega)
    rw [s1, sV1] at u2
    exact ⟨r, s', m', C_ask11 hap u3 (by rw [J5]; exact u1), M_ask10 nl (T0 m f0) n6 (by rw [J7]; exact u2), u4⟩
  · -- not
    rw [if_neg (by omega), e] at rkk
    rw [rkk] at n6
    rw [e] at hap
    obtain ⟨s1', m1', a1, a2, r, s', m', u1, u2, u3, u4⟩ := new 3 (V + 1) (V + 1) (cv t g c k) (by omega) (by omega) (by omega) (by omega) (by omega)
    rw [sV1] at a2
    rw [s1] at u2
    exact ⟨r, s', m', C_ask12 hap u3 (by rw [J5]; exact a1) u1, M_ask11 nl (T0 m f0) n6 (by rw [J7]; exact a2) u2, u4⟩
  · -- fst
    rw [if_neg (by omega), e] at rkk
    rw [rkk] at n6
    rw [e] at hap
    obtain ⟨a1, a2, K1⟩ := JA_new (k := 0) (l := 0) (r := 0) (x := nM) (y := nM) (x' := nI 0) (y' := nI 0) hJ (by omega) (by omega) (fun q => by omega)
    obtain ⟨b1, b2, K2⟩ := JA_new (k := 0) (l := 0) (r := 0) (x := nM) (y := nM) (x' := nI 0) (y' := nI 0) K1 (by omega) (by omega) (fun q => by omega)
    obtain ⟨c1, c2, K3⟩ := JA_new (k := 4) (l := R) (r := R + 1) (x := nI R) (y := nI (R + 1)) (x' := nI R) (y' := nI (R + 1)) K2 (by omega) (by omega) (fun q => ⟨by omega, by omega, rfl, rfl, by rw [sR], by rw [J2 (R + 1) (by omega)]⟩)
    obtain ⟨d1, d2, K4⟩ := JA_new (k := 3) (l := R + 2) (r := R) (x := nI (R + 2)) (y := nI R) (x' := nI (R + 2)) (y' := nI R) K3 (by omega) (by omega) (fun q => ⟨by omega, by omega, rfl, rfl, by rw [J2 (R + 2) (by omega)], by rw [sR]⟩)
    have nn : nt (aN (aN (aN (aN A R 0 0 0) (R + 1) 0 0 0) (R + 2) 4 R (R + 1)) (R + 3) 3 (R + 2) R) (R + 4) = nt A R + 2 := by
      rw [nt_new, nt_new, nt_new, nt_new]
      simp
    obtain ⟨r, s', m', u1, u2, u3, u4, u5⟩ := JA_unify (a := cv t g c k) (b := R + 3) K4 (by rw [nn]; omega) (by omega) (by omega) hk hF
    rw [s1, J2 (R + 3) (by omega)] at u2
    have fa : hs_fr yP yA m _ := (F_mNw.cons F_mNw).cons (F_mNw (m := mNw (mNw m R (nI 0) (nI 0) (nI 0)) (R + 1) (nI 0) (nI 0) (nI 0)) (R := R + 2) (k := nI 4) (x := nI R) (y := nI (R + 1)))
    refine ⟨r, s', m', C_ask13 hap (by omega) a1 b1 c1 d1 u1, M_ask12 nl (T0 m f0) n6 a2 b2 c2 (by rw [fa.2 6 (by decide)]; exact n6) d2 u2, ((F_sN.cons F_sN).cons (F_sN.cons F_sN)).cons u3, ((F_mNw.cons F_mNw).cons (F_mNw.cons F_mNw)).cons u4, ?_⟩
    rcases u5 with ⟨g1, g2⟩ | q
    · exact Or.inl ⟨g1, _, R + 4, g2, by omega, by rw [nn]; omega⟩
    · exact Or.inr q
  · -- snd
    rw [if_neg (by omega), e] at rkk
    rw [rkk] at n6
    rw [e] at hap
    obtain ⟨a1, a2, K1⟩ := JA_new (k := 0) (l := 0) (r := 0) (x := nM) (y := nM) (x' := nI 0) (y' := nI 0) hJ (by omega) (by omega) (fun q => by omega)
    obtain ⟨b1, b2, K2⟩ := JA_new (k := 0) (l := 0) (r := 0) (x := nM) (y := nM) (x' := nI 0) (y' := nI 0) K1 (by omega) (by omega) (fun q => by omega)
    obtain ⟨c1, c2, K3⟩ := JA_new (k := 4) (l := R) (r := R + 1) (x := nI R) (y := nI (R + 1)) (x' := nI R) (y' := nI (R + 1)) K2 (by omega) (by omega) (fun q => ⟨by omega, by omega, rfl, rfl, by rw [sR], by rw [J2 (R + 1) (by omega)]⟩)
    obtain ⟨d1, d2, K4⟩ := JA_new (k := 3) (l := R + 2) (r := R + 1) (x := nI (R + 2)) (y := nI (R + 1)) (x' := nI (R + 2)) (y' := nI (R + 1)) K3 (by omega) (by omega) (fun q => ⟨by omega, by omega, rfl, rfl, by rw [J2 (R + 2) (by omega)], by rw [J2 (R + 1) (by omega)]⟩)
    have nn : nt (aN (aN (aN (aN A R 0 0 0) (R + 1) 0 0 0) (R + 2) 4 R (R + 1)) (R + 3) 3 (R + 2) (R + 1)) (R + 4) = nt A R + 2 := by
      rw [nt_new, nt_new, nt_new, nt_new]
      simp
    obtain ⟨r, s', m', u1, u2, u3, u4, u5⟩ := JA_unify (a := cv t g c k) (b := R + 3) K4 (by rw [nn]; omega) (by omega) (by omega) hk hF
    rw [s1, J2 (R + 3) (by omega)] at u2
    have fa : hs_fr yP yA m _ := (F_mNw.cons F_mNw).cons (F_mNw (m := mNw (mNw m R (nI 0) (nI 0) (nI 0)) (R + 1) (nI 0) (nI 0) (nI 0)) (R := R + 2) (k := nI 4) (x := nI R) (y := nI (R + 1)))
    refine ⟨r, s', m', C_ask14 hap (by omega) a1 b1 c1 d1 u1, M_ask13 nl (T0 m f0) n6 a2 b2 c2 (by rw [fa.2 6 (by decide)]; exact n6) d2 u2, ((F_sN.cons F_sN).cons (F_sN.cons F_sN)).cons u3, ((F_mNw.cons F_mNw).cons (F_mNw.cons F_mNw)).cons u4, ?_⟩
    rcases u5 with ⟨g1, g2⟩ | q
    · exact Or.inl ⟨g1, _, R + 4, g2, by omega, by rw [nn]; omega⟩
    · exact Or.inr q
  · -- a call
    rw [if_neg (by omega), e] at rkk
    rw [rkk] at n6
    rw [e] at hap hx6 hx10
    have d0 : 0 < ar (tkd t k) := by rw [e]; decide
    have d1 : 1 < ar (tkd t k) := by rw [e]; decide
    obtain ⟨σ0, b0⟩ := SD 0 d0
    obtain ⟨σ1, b1⟩ := SD 1 d1
    rw [hx6 (by decide), hx10 (by decide)] at hap
    obtain ⟨s1', m1', a1, a2, r, s', m', u1, u2, u3, u4⟩ := new 3 (cv t g c (tch t 1 k)) (cv t g c k) (cv t g c (tch t 0 k)) (by omega) (by omega) (by omega) (by omega) (by omega)
    rw [σ1, s1] at a2
    rw [σ0] at u2
    exact ⟨r, s', m', C_ask17 hap u3 a1 u1, M_ask30 nl (T0 m f0) n6 (TD 0 d0 m f0) (TD 1 d1 m f0) a2 u2, u4⟩
  · -- a pair
    rw [if_neg (by omega), e] at rkk
    rw [rkk] at n6
    rw [e] at hap hx6 hx10
    have d0 : 0 < ar (tkd t k) := by rw [e]; decide
    have d1 : 1 < ar (tkd t k) := by rw [e]; decide
    obtain ⟨σ0, b0⟩ := SD 0 d0
    obtain ⟨σ1, b1⟩ := SD 1 d1
    rw [hx6 (by decide), hx10 (by decide)] at hap
    obtain ⟨s1', m1', a1, a2, r, s', m', u1, u2, u3, u4⟩ := new 4 (cv t g c (tch t 0 k)) (cv t g c (tch t 1 k)) (cv t g c k) (by omega) (by omega) (by omega) (by omega) (by omega)
    rw [σ0, σ1] at a2
    rw [s1] at u2
    exact ⟨r, s', m', C_ask19 hap u3 a1 u1, M_ask31 nl (T0 m f0) n6 (TD 0 d0 m f0) (TD 1 d1 m f0) a2 u2, u4⟩
  · -- a sum
    rw [if_neg (by omega), e] at rkk
    rw [rkk] at n6
    rw [e] at hap hx6 hx10
    have d0 : 0 < ar (tkd t k) := by rw [e]; decide
    have d1 : 1 < ar (tkd t k) := by rw [e]; decide
    obtain ⟨σ0, b0⟩ := SD 0 d0
    obtain ⟨σ1, b1⟩ := SD 1 d1
    rw [hx6 (by decide), hx10 (by decide)] at hap
    obtain ⟨ra, sa, ma, u1, u2, u3, u4, u5⟩ := JA_unify (a := cv t g c (tch t 0 k)) (b := V) hJ (by omega) (by omega) (by omega) hk hF
    rw [σ0, sV] at u2
    rcases u5 with ⟨rfl, JB⟩ | ⟨rfl, od⟩
    · obtain ⟨rb, sb, mb, w1, w2, w3, w4, w5⟩ := JA_unify (a := cv t g c (tch t 1 k)) (b := V) JB (by omega) (by omega) (by omega) hk hF
      rw [σ1, sV] at w2
      rcases w5 with ⟨rfl, JC⟩ | ⟨rfl, od⟩
      · obtain ⟨rc, sc, mc, y1, y2, y3, y4, y5⟩ := JA_unify (a := cv t g c k) (b := V) JC (by omega) (by omega) (by omega) hk hF
        rw [s1, sV] at y2
        refine ⟨rc, sc, mc, C_ask20c hap (by omega) (by rw [J4]; exact u1) (by rw [JB.2.2.2.1]; exact w1) (by rw [JC.2.2.2.1]; exact y1), M_ask19 nl (T0 m f0) n6 (TD 0 d0 m f0) (by rw [J6]; exact u2) (TD 1 d1 ma u4) (by rw [JB.2.2.2.2.2.1]; exact w2) (by rw [(u4.cons w4).2 6 (by decide)]; exact n6) (by rw [JC.2.2.2.2.2.1]; exact y2), (u3.cons w3).cons y3, (u4.cons w4).cons y4, ?_⟩
        rcases y5 with ⟨g1, g2⟩ | q
        · exact Or.inl ⟨g1, A, R, g2, by omega, by omega⟩
        · exact Or.inr q
      · obtain ⟨z1, z2, z3⟩ := M_sameO (a := nI (rv g c k)) (b := hs_I mb 0 57) (F := F) od (by omega)
        exact ⟨0, sb, _, C_ask20b (s3 := s) (r := 0) hap (by rw [J4]; exact u1) (by rw [JB.2.2.2.1]; exact w1), M_ask19 nl (T0 m f0) n6 (TD 0 d0 m f0) (by rw [J6]; exact u2) (TD 1 d1 ma u4) (by rw [JB.2.2.2.2.2.1]; exact w2) (by rw [(u4.cons w4).2 6 (by decide)]; exact n6) z1, u3.cons w3, (u4.cons w4).cons (z2.mono (by decide) (by decide)), Or.inr ⟨rfl, z3⟩⟩
    · obtain ⟨z1, z2, z3⟩ := M_sameO (a := nI (rv g c (tch t 1 k))) (b := hs_I ma 0 57) (F := F) od (by omega)
      have z2' : hs_fr yP yA ma _ := z2.mono (by decide) (by decide)
      obtain ⟨y1, y2, y3⟩ := M_sameO (a := nI (rv g c k)) (b := hs_I (mSm ma (nI (rv g c (tch t 1 k))) (hs_I ma 0 57)) 0 57) (F := F) z3 (by omega)
      exact ⟨0, sa, _, C_ask20a (s2 := s) (s3 := s) (r := 0) hap (by rw [J4]; exact u1), M_ask19 nl (T0 m f0) n6 (TD 0 d0 m f0) (by rw [J6]; exact u2) (TD 1 d1 ma u4) z1 (by rw [(u4.cons z2').2 6 (by decide)]; exact n6) y1, u3, (u4.cons z2').cons (y2.mono (by decide) (by decide)), Or.inr ⟨rfl, y3⟩⟩
  · -- a comparison
    rw [if_neg (by omega), e] at rkk
    rw [rkk] at n6
    rw [e] at hap hx6 hx10
    have d0 : 0 < ar (tkd t k) := by rw [e]; decide
    have d1 : 1 < ar (tkd t k) := by rw [e]; decide
    obtain ⟨σ0, b0⟩ := SD 0 d0
    obtain ⟨σ1, b1⟩ := SD 1 d1
    rw [hx6 (by decide), hx10 (by decide)] at hap
    obtain ⟨ra, sa, ma, u1, u2, u3, u4, u5⟩ := JA_unify (a := cv t g c (tch t 0 k)) (b := V) hJ (by omega) (by omega) (by omega) hk hF
    rw [σ0, sV] at u2
    rcases u5 with ⟨rfl, JB⟩ | ⟨rfl, od⟩
    · obtain ⟨rb, sb, mb, w1, w2, w3, w4, w5⟩ := JA_unify (a := cv t g c (tch t 1 k)) (b := V) JB (by omega) (by omega) (by omega) hk hF
      rw [σ1, sV] at w2
      rcases w5 with ⟨rfl, JC⟩ | ⟨rfl, od⟩
      · obtain ⟨rc, sc, mc, y1, y2, y3, y4, y5⟩ := JA_unify (a := cv t g c k) (b := V + 1) JC (by omega) (by omega) (by omega) hk hF
        rw [s1, sV1] at y2
        refine ⟨rc, sc, mc, C_ask21c hap (by omega) (by rw [J4]; exact u1) (by rw [JB.2.2.2.1]; exact w1) (by rw [JC.2.2.2.2.1]; exact y1), M_ask20 nl (T0 m f0) n6 (TD 0 d0 m f0) (by rw [J6]; exact u2) (TD 1 d1 ma u4) (by rw [JB.2.2.2.2.2.1]; exact w2) (by rw [(u4.cons w4).2 6 (by decide)]; exact n6) (by rw [JC.2.2.2.2.2.2]; exact y2), (u3.cons w3).cons y3, (u4.cons w4).cons y4, ?_⟩
        rcases y5 with ⟨g1, g2⟩ | q
        · exact Or.inl ⟨g1, A, R, g2, by omega, by omega⟩
        · exact Or.inr q
      · obtain ⟨z1, z2, z3⟩ := M_sameO (a := nI (rv g c k)) (b := hs_I mb 0 58) (F := F) od (by omega)
        exact ⟨0, sb, _, C_ask21b (s3 := s) (r := 0) hap (by rw [J4]; exact u1) (by rw [JB.2.2.2.1]; exact w1), M_ask20 nl (T0 m f0) n6 (TD 0 d0 m f0) (by rw [J6]; exact u2) (TD 1 d1 ma u4) (by rw [JB.2.2.2.2.2.1]; exact w2) (by rw [(u4.cons w4).2 6 (by decide)]; exact n6) z1, u3.cons w3, (u4.cons w4).cons (z2.mono (by decide) (by decide)), Or.inr ⟨rfl, z3⟩⟩
    · obtain ⟨z1, z2, z3⟩ := M_sameO (a := nI (rv g c (tch t 1 k))) (b := hs_I ma 0 57) (F := F) od (by omega)
      have z2' : hs_fr yP yA ma _ := z2.mono (by decide) (by decide)
      obtain ⟨y1, y2, y3⟩ := M_sameO (a := nI (rv g c k)) (b := hs_I (mSm ma (nI (rv g c (tch t 1 k))) (hs_I ma 0 57)) 0 58) (F := F) z3 (by omega)
      exact ⟨0, sa, _, C_ask21a (s2 := s) (s3 := s) (r := 0) hap (by rw [J4]; exact u1), M_ask20 nl (T0 m f0) n6 (TD 0 d0 m f0) (by rw [J6]; exact u2) (TD 1 d1 ma u4) z1 (by rw [(u4.cons z2').2 6 (by decide)]; exact n6) y1, u3, (u4.cons z2').cons (y2.mono (by decide) (by decide)), Or.inr ⟨rfl, y3⟩⟩
