/-! ISFINITE of the reference -/
def CI (m : hp_S) (A : AA) (R : Nat) (ρ σ kp rk : Nat → Nat) : Prop := (∀ p, p < R → hs_A m 31 p = nI (kp p) ∧ kp p ≤ 1) ∧ (∀ x, x < R → ¬ trq A ρ x → kp (σ x) = 1) ∧ ∀ x, x < R → trq A ρ x → kp (σ x) = 1 → (kp (σ (ρ (alf A x))) = 1 ∧ kp (σ (ρ (art A x))) = 1) ∧ rk (ρ (alf A x)) < rk x ∧ rk (ρ (art A x)) < rk x
def opn (kp : Nat → Nat) (R : Nat) : Nat := cn (fun p => 1 - kp p) R
theorem opn_le (kp : Nat → Nat) (R : Nat) : opn kp R ≤ R := cn_le R (fun x _ => by omega)
theorem opn_0 {kp : Nat → Nat} {R : Nat} (h : opn kp R = 0) : ∀ p, p < R → kp p ≠ 0 := by
  intro p hp h0
  have := cn_pos (f := fun p => 1 - kp p) R p hp
  simp only [h0] at this
  unfold opn at h
  omega
theorem opn_up {kp : Nat → Nat} {R p : Nat} (hp : p < R) (h0 : kp p = 0) : opn kp R = opn (fup kp p 1) R + 1 := by
  refine cn_up (x := p) R hp ?_ ?_ (fun y hy hy2 => ?_)
  · rw [fup_eq]
  · rw [h0]
  · rw [fup_ne hy2]
theorem CI_fin {m : hp_S} {A : AA} {R : Nat} {ρ σ kp rk : Nat → Nat} (hσ : SJ σ R) (h : CI m A R ρ σ kp rk) (h0 : opn kp R = 0) : FIN A R ρ := by
  refine ⟨rk, fun x hx ex g => ?_⟩
  have sx := hσ.2.1 x hx
  have k1 := opn_0 h0 _ sx
  have k2 := (h.1 _ sx).2
  exact (h.2.2 x hx ⟨ex, g⟩ (by omega)).2
theorem CI_none {m : hp_S} {A : AA} {R : Nat} {ρ σ kp rk : Nat → Nat} (hW : WF A R) (hRT : RT R ρ) (hσ : SJ σ R) (hsur : ∀ p, p < R → ∃ x, x < R ∧ σ x = p) (h : CI m A R ρ σ kp rk) (h0 : opn kp R ≠ 0) (hs : ∀ x, x < R → kp (σ x) = 0 → kp (σ (ρ (alf A x))) = 0 ∨ kp (σ (ρ (art A x))) = 0) : ¬ FIN A R ρ := by
  rintro ⟨r, hr⟩
  have no : ∀ n x, x < R → kp (σ x) = 0 → r x ≤ n → False := by
    intro n
    induction n with
    | zero =>
      intro x hx hk hn
      have tr : trq A ρ x := by
        by_cases c : trq A ρ x
        · exact c
        · have := h.2.1 x hx c; omega
      have := hr x hx tr.1 tr.2
      omega
    | succ n ih =>
      intro x hx hk hn
      have tr : trq A ρ x := by
        by_cases c : trq A ρ x
        · exact c
        · have := h.2.1 x hx c; omega
      obtain ⟨a1, a2⟩ := hr x hx tr.1 tr.2
      obtain ⟨l1, l2⟩ := (hW x hx).2 tr.2
      rcases hs x hx hk with q | q
      · exact ih _ (hRT _ l1).1 q (by omega)
      · exact ih _ (hRT _ l2).1 q (by omega)
  have ex : ∃ p, p < R ∧ kp p = 0 := by
    by_cases c : ∃ p, p < R ∧ kp p = 0
    · exact c
    · exfalso
      apply h0
      have : ∀ n, n ≤ R → cn (fun p => 1 - kp p) n = 0 := by
        intro n
        induction n with
        | zero => intro _; rfl
        | succ n ih =>
          intro hn
          simp only [cn, ih (by omega)]
          by_cases d : kp n = 0
          · exact absurd ⟨n, by omega, d⟩ c
          · omega
      exact this R (Nat.le_refl _)
  obtain ⟨p, hp, hk⟩ := ex
  obtain ⟨x, hx, rfl⟩ := hsur p hp
  exact no _ x hx hk (Nat.le_refl _)
theorem M_pass85 {A : AA} {R : Nat} {ρ dp σ : Nat → Nat} (hσ : SJ σ R) (hsur : ∀ p, p < R → ∃ x, x < R ∧ σ x = p) (K : Int32 → Int32 → hp_S → Option (Int32 × hp_S)) : ∀ (d y mr : Nat) (m : hp_S) (kp rk : Nat → Nat) (G : Nat), y + d = R → UM m A R ρ dp σ → CI m A R ρ σ kp rk → mr < 2 → 10100 + d ≤ G →
    ∃ m' kp' rk' mr', l_M_X11_isFinite_0_85 K G (nI (opn kp R)) (nI mr) (nI y) m = K (nI (opn kp' R)) (nI mr') m' ∧ UM m' A R ρ dp σ ∧ CI m' A R ρ σ kp' rk' ∧ hs_fr [] [31] m m' ∧ mr' < 2 ∧ opn kp' R ≤ opn kp R ∧ (mr' = 0 → mr = 0 ∧ kp' = kp ∧ ∀ x, x < R → y ≤ σ x → kp (σ x) = 0 → kp (σ (ρ (alf A x))) = 0 ∨ kp (σ (ρ (art A x))) = 0) ∧ (mr = 0 → mr' = 1 → opn kp' R < opn kp R) := by
  intro d
  induction d with
  | zero =>
    intro y mr m kp rk G e hU hC hmr hG
    obtain rfl : y = R := by omega
    obtain ⟨G, rfl⟩ : ∃ z, G = z + 1 := ⟨G - 1, by omega⟩
    refine ⟨m, kp, rk, mr, ?_, hU, hC, hs_fr.rf, hmr, Nat.le_refl _, fun q => ⟨q, rfl, fun x hx h1 => ?_⟩, fun q1 q2 => by omega⟩
    · rw [l_M_X11_isFinite_0_85.eq_2, hU.1, if_pos (Int32.le_refl _)]
    · have := hσ.2.1 x hx
      omega
  | succ d ih =>
    intro y mr m kp rk G e hU hC hmr hG
    have hR := hU.2.1
    have hy : y < R := by omega
    obtain ⟨G, rfl⟩ : ∃ z, G = z + 1 := ⟨G - 1, by omega⟩
    have c1 : ¬ R ≤ y := by omega
    have ol := opn_le kp R
    obtain ⟨k1, k2⟩ := hC.1 y hy
    -- going on
    have skip : (l_M_X11_isFinite_0_85 K (G + 1) (nI (opn kp R)) (nI mr) (nI y) m = l_M_X11_isFinite_0_85 K G (nI (opn kp R)) (nI mr) (nI (y + 1)) m) → (∀ x, x < R → σ x = y → kp (σ x) = 0 → kp (σ (ρ (alf A x))) = 0 ∨ kp (σ (ρ (art A x))) = 0) → ∃ m' kp' rk' mr', l_M_X11_isFinite_0_85 K (G + 1) (nI (opn kp R)) (nI mr) (nI y) m = K (nI (opn kp' R)) (nI mr') m' ∧ UM m' A R ρ dp σ ∧ CI m' A R ρ σ kp' rk' ∧ hs_fr [] [31] m m' ∧ mr' < 2 ∧ opn kp' R ≤ opn kp R ∧ (mr' = 0 → mr = 0 ∧ kp' = kp ∧ ∀ x, x < R → y ≤ σ x → kp (σ x) = 0 → kp (σ (ρ (alf A x))) = 0 ∨ kp (σ (ρ (art A x))) = 0) ∧ (mr = 0 → mr' = 1 → opn kp' R < opn kp R) := by
      intro st here
      obtain ⟨m', kp', rk', mr', g1, g2, g3, g4, g5, g6, g7, g8⟩ := ih (y + 1) mr m kp rk G (by omega) hU hC hmr (by omega)
      refine ⟨m', kp', rk', mr', by rw [st]; exact g1, g2, g3, g4, g5, g6, fun q => ?_, g8⟩
      obtain ⟨a1, a2, a3⟩ := g7 q
      refine ⟨a1, a2, fun x hx h1 h2 => ?_⟩
      by_cases c : σ x = y
      · exact here x hx c h2
      · exact a3 x hx (by omega) h2
    by_cases ky : kp y = 1
    · refine skip ?_ (fun x hx ex h0 => by rw [ex] at h0; omega)
      rw [ky] at k1
      rw [l_M_X11_isFinite_0_85.eq_2]
      simp (disch := omega) only [↓reduceIte, z_lit, z_m1, z_gd, z_le, z_lt, z_eq, z_em, z_me, z_ml, z_mle, z_lm, z_lem, z_pos, z_sub, nI_add, nI_clamp, ib_nI, pm_let, pm_bd, pm_b1, if_true, if_false, ite_true, ite_false, Nat.not_lt_zero, Nat.zero_le, hU.1, c1, k1]
    · have ky0 : kp y = 0 := by omega
      rw [ky0] at k1
      obtain ⟨x, hx, ex⟩ := hsur y hy
      have tr : trq A ρ x := by
        by_cases c : trq A ρ x
        · exact c
        · have := hC.2.1 x hx c; rw [ex] at this; omega
      obtain ⟨wl, wr⟩ := (hU.2.2.2.2.1 x hx).2 tr.2
      obtain ⟨l1, l2⟩ := (hU.2.2.2.2.2 x hx).1.2.2 tr.2
      rw [ex] at l1 l2
      have rl := (hU.2.2.2.1 _ wl).1
      have rr := (hU.2.2.2.1 _ wr).1
      have sl1 := hσ.2.1 _ rl
      have sr1 := hσ.2.1 _ rr
      obtain ⟨kl1, kl2⟩ := hC.1 _ sl1
      obtain ⟨kr1, kr2⟩ := hC.1 _ sr1
      have r1 := M_root (F := G) hU hσ wl (by omega)
      have r2 := M_root (F := G) hU hσ wr (by omega)
      by_cases kl : kp (σ (ρ (alf A x))) = 0
      · rw [kl] at kl1
        refine skip ?_ (fun x' hx' ex' h0 => Or.inl ?_)
        · rw [l_M_X11_isFinite_0_85.eq_2]
          simp (disch := omega) only [↓reduceIte, z_lit, z_m1, z_gd, z_le, z_lt, z_eq, z_em, z_me, z_ml, z_mle, z_lm, z_lem, z_pos, z_sub, nI_add, nI_clamp, ib_nI, pm_let, pm_bd, pm_b1, if_true, if_false, ite_true, ite_false, Nat.not_lt_zero, Nat.zero_le, hU.1, c1, k1, l1, r1, kl1]
          simp
        · have : x' = x := hσ.1 _ _ (by rw [ex', ex])
          rw [this]; exact kl
      · have kl' : kp (σ (ρ (alf A x))) = 1 := by omega
        rw [kl'] at kl1
        by_cases kr : kp (σ (ρ (art A x))) = 0
        · rw [kr] at kr1
          refine skip ?_ (fun x' hx' ex' h0 => Or.inr ?_)
          · rw [l_M_X11_isFinite_0_85.eq_2]
            simp (disch := omega) only [↓reduceIte, z_lit, z_m1, z_gd, z_le, z_lt, z_eq, z_em, z_me, z_ml, z_mle, z_lm, z_lem, z_pos, z_sub, nI_add, nI_clamp, ib_nI, pm_let, pm_bd, pm_b1, if_true, if_false, ite_true, ite_false, Nat.not_lt_zero, Nat.zero_le, hU.1, c1, k1, l1, l2, r1, r2, kl1, kr1]
            simp
          · have : x' = x := hσ.1 _ _ (by rw [ex', ex])
            rw [this]; exact kr
        · have kr' : kp (σ (ρ (art A x))) = 1 := by omega
          rw [kr'] at kr1
          have ou := opn_up hy ky0
          obtain ⟨m1, hm1⟩ : ∃ m1, m1 = hs_pA m 31 y (nI 1) := ⟨_, rfl⟩
          have U1 : UM m1 A R ρ dp σ := by rw [hm1]; exact UM_fr (P := []) (L := [31]) hU (hs_fr_pA (by decide)) (by decide)
          have nl : σ (ρ (alf A x)) ≠ y := fun q => by rw [q] at kl'; omega
          have nr' : σ (ρ (art A x)) ≠ y := fun q => by rw [q] at kr'; omega
          have nxl : ρ (alf A x) ≠ x := fun q => nl (by rw [q, ex])
          have nxr : ρ (art A x) ≠ x := fun q => nr' (by rw [q, ex])
          have C1 : CI m1 A R ρ σ (fup kp y 1) (fup rk x (rk (ρ (alf A x)) + rk (ρ (art A x)) + 1)) := by
            refine ⟨fun p hp => ?_, fun z hz hn => ?_, fun z hz ht hk => ?_⟩
            · by_cases c : p = y
              · subst c; rw [fup_eq, hm1]; simp only [hs_I_pI, hs_I_pA, hs_A_pI, hs_A_pA, and_true, true_and, and_false, false_and, and_self, eq_self, Nat.reduceEqDiff, ↓reduceIte]; exact Nat.le_refl _
              · rw [fup_ne c, hm1]; simp only [hs_I_pI, hs_I_pA, hs_A_pI, hs_A_pA, and_true, true_and, and_false, false_and, and_self, eq_self, Nat.reduceEqDiff, ↓reduceIte, c]; exact hC.1 p hp
            · by_cases c : σ z = y
              · rw [c, fup_eq]
              · rw [fup_ne c]; exact hC.2.1 z hz hn
            · by_cases c : z = x
              · subst c
                rw [fup_ne nl, fup_ne nr', fup_eq, fup_ne nxl, fup_ne nxr]
                exact ⟨⟨kl', kr'⟩, by omega, by omega⟩
              · have cz : σ z ≠ y := fun q => c (hσ.1 _ _ (by rw [q, ex]))
                rw [fup_ne cz] at hk
                obtain ⟨⟨b1, b2⟩, b3, b4⟩ := hC.2.2 z hz ht hk
                have n1 : σ (ρ (alf A z)) ≠ y := fun q => by rw [q] at b1; omega
                have n2 : σ (ρ (art A z)) ≠ y := fun q => by rw [q] at b2; omega
                have n3 : ρ (alf A z) ≠ x := fun q => n1 (by rw [q, ex])
                have n4 : ρ (art A z) ≠ x := fun q => n2 (by rw [q, ex])
                rw [fup_ne n1, fup_ne n2, fup_ne c, fup_ne n3, fup_ne n4]
                exact ⟨⟨b1, b2⟩, b3, b4⟩
          have st : l_M_X11_isFinite_0_85 K (G + 1) (nI (opn kp R)) (nI mr) (nI y) m = l_M_X11_isFinite_0_85 K G (nI (opn (fup kp y 1) R)) (nI 1) (nI (y + 1)) m1 := by
            have em : nI (opn kp R) + (-1 : Int32) = nI (opn (fup kp y 1) R) := by
              rw [show nI (opn kp R) + (-1 : Int32) = nI (opn kp R) - nI 1 by rw [Int32.sub_eq_add_neg]; rfl, z_sub (by omega) (by omega), ou]
              congr 1
            rw [l_M_X11_isFinite_0_85.eq_2, em]
            simp (disch := omega) only [↓reduceIte, z_lit, z_m1, z_gd, z_le, z_lt, z_eq, z_em, z_me, z_ml, z_mle, z_lm, z_lem, z_pos, z_sub, nI_add, nI_clamp, ib_nI, pm_let, pm_bd, pm_b1, if_true, if_false, ite_true, ite_false, Nat.not_lt_zero, Nat.zero_le, hU.1, c1, k1, l1, l2, r1, r2, kl1, kr1, ← hm1]
            simp
          obtain ⟨m', kp', rk', mr', g1, g2, g3, g4, g5, g6, g7, g8⟩ := ih (y + 1) 1 m1 _ _ G (by omega) U1 C1 (by omega) (by omega)
          refine ⟨m', kp', rk', mr', by rw [st]; exact g1, g2, g3, ?_, g5, by omega, fun q => ?_, fun _ _ => by omega⟩
          · rw [hm1] at g4
            exact (hs_fr_pA (by decide)).cons g4
          · have := (g7 q).1
            omega
theorem M_run73 {A : AA} {R : Nat} {ρ dp σ : Nat → Nat} (hσ : SJ σ R) (hsur : ∀ p, p < R → ∃ x, x < R ∧ σ x = p) : ∀ (D : Nat) (m : hp_S) (kp rk : Nat → Nat) (G : Nat), opn kp R ≤ D → UM m A R ρ dp σ → CI m A R ρ σ kp rk → 20300 + D ≤ G → ∃ b m', l_M_X11_isFinite_0_73 G (nI (opn kp R)) (nI 1) m = some (nI b, m') ∧ b < 2 ∧ (b = 1 ↔ FIN A R ρ) ∧ UM m' A R ρ dp σ ∧ hs_fr [] [31] m m' := by
  have z0 : ∀ (m : hp_S) (kp rk : Nat → Nat) (G : Nat), opn kp R = 0 → UM m A R ρ dp σ → CI m A R ρ σ kp rk → 1 ≤ G → ∃ b m', l_M_X11_isFinite_0_73 G (nI (opn kp R)) (nI 1) m = some (nI b, m') ∧ b < 2 ∧ (b = 1 ↔ FIN A R ρ) ∧ UM m' A R ρ dp σ ∧ hs_fr [] [31] m m' := by
    intro m kp rk G h0 hU hC hG
    obtain ⟨G, rfl⟩ : ∃ z, G = z + 1 := ⟨G - 1, by omega⟩
    have c1 : 0 ≤ 0 := Nat.le_refl _
    refine ⟨1, m, ?_, by omega, ⟨fun _ => CI_fin hσ hC h0, fun _ => rfl⟩, hU, hs_fr.rf⟩
    rw [l_M_X11_isFinite_0_73.eq_2, h0]
    simp (disch := omega) only [↓reduceIte, z_lit, z_m1, z_gd, z_le, z_lt, z_eq, z_em, z_me, z_ml, z_mle, z_lm, z_lem, z_pos, z_sub, nI_add, nI_clamp, ib_nI, pm_let, pm_bd, pm_b1, if_true, if_false, ite_true, ite_false, Nat.not_lt_zero, Nat.zero_le]
    simp
  intro D
  induction D with
  | zero =>
    intro m kp rk G hD hU hC hG
    exact z0 m kp rk G (by omega) hU hC (by omega)
  | succ D ih =>
    intro m kp rk G hD hU hC hG
    by_cases o0 : opn kp R = 0
    · exact z0 m kp rk G o0 hU hC (by omega)
    have hR := hU.2.1
    have ol := opn_le kp R
    obtain ⟨G, rfl⟩ : ∃ z, G = z + 1 := ⟨G - 1, by omega⟩
    have c1 : ¬ opn kp R ≤ 0 := by omega
    obtain ⟨m', kp', rk', mr', g1, g2, g3, g4, g5, g6, g7, g8⟩ := M_pass85 hσ hsur (l_M_X11_isFinite_0_73 G) R 0 0 m kp rk G (by omega) hU hC (by omega) (by omega)
    have st : l_M_X11_isFinite_0_73 (G + 1) (nI (opn kp R)) (nI 1) m = l_M_X11_isFinite_0_73 G (nI (opn kp' R)) (nI mr') m' := by
      rw [← g1, l_M_X11_isFinite_0_73.eq_2]
      simp (disch := omega) only [↓reduceIte, z_lit, z_m1, z_gd, z_le, z_lt, z_eq, z_em, z_me, z_ml, z_mle, z_lm, z_lem, z_pos, z_sub, nI_add, nI_clamp, ib_nI, pm_let, pm_bd, pm_b1, if_true, if_false, ite_true, ite_false, Nat.not_lt_zero, Nat.zero_le, c1]
      simp
    rcases (show mr' = 0 ∨ mr' = 1 by omega) with rfl | rfl
    · obtain ⟨-, rfl, a3⟩ := g7 rfl
      have nf := CI_none hU.2.2.2.2.1 hU.2.2.2.1 hσ hsur g3 o0 (fun x hx h0 => a3 x hx (by omega) h0)
      obtain ⟨G, rfl⟩ : ∃ z, G = z + 1 := ⟨G - 1, by omega⟩
      refine ⟨0, m', ?_, by omega, ⟨fun q => by omega, fun q => absurd q nf⟩, g2, g4⟩
      rw [st, l_M_X11_isFinite_0_73.eq_2]
      simp (disch := omega) only [↓reduceIte, z_lit, z_m1, z_gd, z_le, z_lt, z_eq, z_em, z_me, z_ml, z_mle, z_lm, z_lem, z_pos, z_sub, nI_add, nI_clamp, ib_nI, pm_let, pm_bd, pm_b1, if_true, if_false, ite_true, ite_false, Nat.not_lt_zero, Nat.zero_le, o0]
    · have := g8 rfl rfl
      obtain ⟨b, m2, x1, x2, x3, x4, x5⟩ := ih m' kp' rk' G (by omega) g2 g3 (by omega)
      exact ⟨b, m2, by rw [st]; exact x1, x2, x3, x4, g4.cons x5⟩
theorem M_init4 {A : AA} {R : Nat} {ρ dp σ : Nat → Nat} (hσ : SJ σ R) (hsur : ∀ p, p < R → ∃ x, x < R ∧ σ x = p) : ∀ (d y : Nat) (m : hp_S) (kp : Nat → Nat), y + d = R → UM m A R ρ dp σ → (∀ p, p < y → hs_A m 31 p = nI (kp p) ∧ kp p ≤ 1) → (∀ x, x < R → σ x < y → (kp (σ x) = 0 ↔ trq A ρ x)) → ∃ m' kp', (∀ G, l_M_X11_isFinite_0_4 (G + 1 + d) (nI (opn kp y)) (nI y) m = l_M_X11_isFinite_0_73 G (nI (opn kp' R)) (nI 1) m') ∧ UM m' A R ρ dp σ ∧ hs_fr [] [31] m m' ∧ (∀ p, p < R → hs_A m' 31 p = nI (kp' p) ∧ kp' p ≤ 1) ∧ ∀ x, x < R → (kp' (σ x) = 0 ↔ trq A ρ x) := by
  intro d
  induction d with
  | zero =>
    intro y m kp e hU h1 h2
    obtain rfl : y = R := by omega
    refine ⟨m, kp, fun G => ?_, hU, hs_fr.rf, h1, fun x hx => h2 x hx (hσ.2.1 x hx)⟩
    rw [Nat.add_zero, l_M_X11_isFinite_0_4.eq_2, hU.1, if_pos (Int32.le_refl _)]
    rfl
  | succ d ih =>
    intro y m kp e hU h1 h2
    have hR := hU.2.1
    have hy : y < R := by omega
    have c1 : ¬ R ≤ y := by omega
    have ol := opn_le kp y
    obtain ⟨x, hx, ex⟩ := hsur y hy
    obtain ⟨⟨-, sh, -⟩, lk'⟩ := hU.2.2.2.2.2 x hx
    have w4 := (hU.2.2.2.2.1 x hx).1
    rw [ex] at sh
    obtain ⟨v, hv⟩ : ∃ v, v = if ρ x = x ∧ 3 ≤ ash A x then 0 else 1 := ⟨_, rfl⟩
    have v2 : v ≤ 1 := by rw [hv]; split <;> omega
    obtain ⟨m1, hm1⟩ : ∃ m1, m1 = hs_pA m 31 y (nI v) := ⟨_, rfl⟩
    have U1 : UM m1 A R ρ dp σ := by rw [hm1]; exact UM_fr (P := []) (L := [31]) hU (hs_fr_pA (by decide)) (by decide)
    have oe : opn (fup kp y v) (y + 1) = opn kp y + (1 - v) := by
      unfold opn
      simp only [cn]
      rw [fup_eq, cn_congr (g := fun p => 1 - kp p) y (fun p hp => by rw [fup_ne (by omega)])]
    have st : ∀ G, l_M_X11_isFinite_0_4 (G + 1) (nI (opn kp y)) (nI y) m = l_M_X11_isFinite_0_4 G (nI (opn (fup kp y v) (y + 1))) (nI (y + 1)) m1 := by
      intro G
      rw [l_M_X11_isFinite_0_4.eq_2, oe, hm1]
      rcases lk' with ⟨e1, -, e3⟩ | ⟨e1, z, z1, z2, -, z4⟩
      · rw [ex] at e3
        by_cases c3 : 3 ≤ ash A x
        · have : v = 0 := by rw [hv, if_pos ⟨e1, c3⟩]
          rw [this]
          simp (disch := omega) only [↓reduceIte, z_lit, z_m1, z_gd, z_le, z_lt, z_eq, z_em, z_me, z_ml, z_mle, z_lm, z_lem, z_pos, z_sub, nI_add, nI_clamp, ib_nI, pm_let, pm_bd, pm_b1, if_true, if_false, ite_true, ite_false, Nat.not_lt_zero, Nat.zero_le, hU.1, c1, e3, sh, c3]
        · have : v = 1 := by rw [hv, if_neg (fun q => c3 q.2)]
          rw [this]
          simp (disch := omega) only [↓reduceIte, z_lit, z_m1, z_gd, z_le, z_lt, z_eq, z_em, z_me, z_ml, z_mle, z_lm, z_lem, z_pos, z_sub, nI_add, nI_clamp, ib_nI, pm_let, pm_bd, pm_b1, if_true, if_false, ite_true, ite_false, Nat.not_lt_zero, Nat.zero_le, hU.1, c1, e3, sh, c3]
          simp
      · have : v = 1 := by rw [hv, if_neg (fun q => e1 q.1)]
        rw [ex] at z2
        have sz := hσ.2.1 z z1
        have nz : ¬ σ z = y := fun q => by have := hσ.1 _ _ (q.trans ex.symm); subst this; omega
        rw [this]
        simp (disch := omega) only [↓reduceIte, z_lit, z_m1, z_gd, z_le, z_lt, z_eq, z_em, z_me, z_ml, z_mle, z_lm, z_lem, z_pos, z_sub, nI_add, nI_clamp, ib_nI, pm_let, pm_bd, pm_b1, if_true, if_false, ite_true, ite_false, Nat.not_lt_zero, Nat.zero_le, hU.1, c1, z2, nz]
        simp
    obtain ⟨m', kp', g1, g2, g3, g4, g5⟩ := ih (y + 1) m1 (fup kp y v) (by omega) U1 (fun p hp => by
        by_cases c : p = y
        · subst c; rw [fup_eq, hm1]; simp only [hs_I_pI, hs_I_pA, hs_A_pI, hs_A_pA, and_true, true_and, and_false, false_and, and_self, eq_self, Nat.reduceEqDiff, ↓reduceIte]; exact v2
        · rw [fup_ne c, hm1]; simp only [hs_I_pI, hs_I_pA, hs_A_pI, hs_A_pA, and_true, true_and, and_false, false_and, and_self, eq_self, Nat.reduceEqDiff, ↓reduceIte, c]; exact h1 p (by omega)) (fun z hz hzy => by
        by_cases c : σ z = y
        · have : z = x := hσ.1 _ _ (c.trans ex.symm)
          subst this
          rw [c, fup_eq, hv]
          by_cases t : ρ z = z ∧ 3 ≤ ash A z
          · rw [if_pos t]; exact ⟨fun _ => t, fun _ => rfl⟩
          · rw [if_neg t]; exact ⟨fun q => by omega, fun q => absurd q t⟩
        · rw [fup_ne c]; exact h2 z hz (by omega))
    refine ⟨m', kp', fun G => by rw [← Nat.add_assoc, st, g1], g2, ?_, g4, g5⟩
    rw [hm1] at g3
    exact (hs_fr_pA (by decide)).cons g3
theorem M_isFinite {m : hp_S} {A : AA} {R : Nat} {ρ dp σ : Nat → Nat} {F : Nat} (hU : UM m A R ρ dp σ) (hσ : SJ σ R) (hsur : ∀ p, p < R → ∃ x, x < R ∧ σ x = p) (hF : 50000 ≤ F) : ∃ b m', f_M_X11_isFinite_0 F m = some (nI b, m') ∧ b < 2 ∧ (b = 1 ↔ FIN A R ρ) ∧ UM m' A R ρ dp σ ∧ hs_fr [] [31] m m' := by
  have hR := hU.2.1
  obtain ⟨m1, kp, a1, a2, a3, a4, a5⟩ := M_init4 hσ hsur R 0 m (fun _ => 0) (by omega) hU (fun p hp => by omega) (fun x _ q => by omega)
  have C1 : CI m1 A R ρ σ kp (fun _ => 0) := by
    refine ⟨a4, fun x hx hn => ?_, fun x hx ht hk => ?_⟩
    · have := (a4 _ (hσ.2.1 x hx)).2
      by_cases c : kp (σ x) = 0
      · exact absurd ((a5 x hx).mp c) hn
      · omega
    · have := (a5 x hx).mpr ht
      omega
  have ol := opn_le kp R
  obtain ⟨b, m', b1, b2, b3, b4, b5⟩ := M_run73 hσ hsur (opn kp R) m1 kp _ (F - 1 - R) (Nat.le_refl _) a2 C1 (by omega)
  refine ⟨b, m', ?_, b2, b3, b4, a3.cons b5⟩
  unfold f_M_X11_isFinite_0
  have a1' := a1 (F - 1 - R)
  rw [show F - 1 - R + 1 + R = F by omega] at a1'
  have e0 : opn (fun _ => 0) 0 = 0 := rfl
  rw [e0] at a1'
  simp only [z_lit]
  rw [a1', b1]
