/-! ISFINE in both -/
/-- at the end: a type for every cell, finite -/
def JF (s m : hp_S) (A : AA) (R : Nat) (σ : Nat → Nat) (V : Nat) : Prop := JA s m A R σ V ∧ nt A R ≤ 4000 ∧ ∃ ρC dC ρM dM, UC s A R ρC dC ∧ UM m A R ρM dM σ ∧ DN A R ρC ∧ DN A R ρM ∧ (∀ x y, x < R → y < R → (ρC x = ρC y ↔ ρM x = ρM y)) ∧ FINB A R ρC 4001
theorem J_fin {s m : hp_S} {A : AA} {R V G F : Nat} {σ : Nat → Nat} (hJ : JA s m A R σ V) (ht : nt A R ≤ 4000) (hsur : ∀ p, p < R → ∃ x, x < R ∧ σ x = p) (hG : 40000 ≤ G) (hF : 50000 ≤ F) : ∃ b s' m', f_C_X9_areFinite_31 G s = some (nI b, s') ∧ f_M_X11_isFinite_0 F m = some (nI b, m') ∧ b < 2 ∧ hs_fr xP xA s s' ∧ hs_fr yP yA m m' ∧ (b = 1 → JF s' m' A R σ V) := by
  obtain ⟨⟨hσ, h41, ρC, dC, ρM, dM, U, W, D, E, e⟩, j2, j3, j4, j5, j6, j7⟩ := hJ
  obtain ⟨b, s', a1, a2, ⟨a3, a3b⟩, a4, a5⟩ := C_areFinite (G := G) U ht hG
  obtain ⟨b', m', c1, c2, c3, c4, c5⟩ := M_isFinite (F := F) W hσ hsur hF
  have hW := U.2.2.2.2.1
  have bb : b' = b := by
    have t1 : FIN A R ρC → FIN A R ρM := FIN_tr hW D E e
    have t2 : FIN A R ρM → FIN A R ρC := FIN_tr hW E D (fun x y hx hy => (e x y hx hy).symm)
    by_cases q : b = 1
    · have := c3.mpr (t1 (a3.mp q)); omega
    · by_cases q' : b' = 1
      · exact absurd (a3.mpr (t2 (c3.mp q'))) q
      · omega
  subst bb
  refine ⟨b', s', m', a1, c1, a2, a5.mono (by simp) (by decide), c5.mono (by simp) (by decide), fun q => ⟨⟨⟨hσ, by rw [c5.1 _ _ (by simp)]; exact h41, ρC, dC, ρM, dM, a4, c4, D, E, e⟩, j2, j3, by rw [a5.1 _ _ (by simp)]; exact j4, by rw [a5.1 _ _ (by simp)]; exact j5, by rw [c5.1 _ _ (by simp)]; exact j6, by rw [c5.1 _ _ (by simp)]; exact j7⟩, ht, ρC, dC, ρM, dM, a4, c4, D, E, e, ?_⟩⟩
  obtain ⟨rk, r1, r2⟩ := a3b q
  have t1 := tc_le A R ρC
  exact ⟨rk, fun x => by have := r1 x; omega, r2⟩
theorem ISFINE {s m : hp_S} {t : TT} {g : GG} {z V kf F : Nat} {σ τ : Nat → Nat} (hU : UD s m t g z V) (hP : PM t g z V σ τ) (hA : AC s m (tq t)) (hk : 100000 ≤ kf) (hF : 100000 ≤ F) : ∃ b s' m', f_C_X0_isFine_37 kf s = some (nI b, s') ∧ f_M_X11_isFine_0 F m = some (nI b, m') ∧ b < 2 ∧ hs_fr xP xA s s' ∧ hs_fr yP yA m m' ∧ (b = 1 → ∃ A R, JF s' m' A R σ V) := by
  obtain ⟨h, hc, hu0, hu1, -⟩ := id hU
  obtain ⟨⟨z1, z2, z3, z4⟩, ⟨e6, e7, e28, e32⟩, -, -, -, g0, -⟩ := id hc
  have inj : ∀ x y, σ x = σ y → x = y := fun x y q => by rw [← (hP.1 x).1, q, (hP.1 y).1]
  obtain ⟨s1, m1, a1, a2, a3, a4, A, J, n0⟩ := J_begin (s := s) (m := m) (V := V) (σ := σ) ⟨by omega, z4⟩ e32 ⟨inj, hP.2.1, hP.2.2.1⟩
  have U1 := UD_fr hU a3 a4
  have A1 := AC_fr hA a3 a4
  have sur : ∀ R, V ≤ R → ∀ p, p < R → ∃ x, x < R ∧ σ x = p := by
    intro R hR p hp
    refine ⟨τ p, ?_, (hP.1 p).2⟩
    by_cases c : τ p < V
    · omega
    · have := hP.2.2.1 (τ p) (by omega)
      rw [(hP.1 p).2] at this
      omega
  have cC : ∀ r, f_C_X0_isFine_37 kf s = r ↔ l_C_X0_isFine_37_16 kf (nI 0) s1 = r := by
    intro r
    unfold f_C_X0_isFine_37 f_C_X1_variables_26
    simp only [pm_bd, e7, a1 kf (by omega), pm_b1, z_lit]
  have cM := a2 F (by omega)
  have gz : gu g 0 - 1 = 0 := by rw [hu0]
  rcases IF_out (B := 60000) hP rfl (by omega) z 0 s1 m1 A (V + 2) kf (F - V - 1) (by omega) U1 A1 J (by rw [g0]; omega) (by rw [n0]; omega) (by omega) (by omega) with ⟨s', m', b1, b2, b3, b4⟩ | ⟨s', m', A', R', g1, g2, b1, b2, b3, b4, b5, b6, b7, b8, b9⟩
  · rw [gz] at b2
    exact ⟨0, s', m', (cC _).mpr b1, by rw [cM]; exact b2, by omega, a3.cons b3, a4.cons b4, fun q => by omega⟩
  · rw [gz] at b2
    have hR3 := b7.2.2.1
    obtain ⟨b, s2, m2, c1, c2, c3, c4, c5, c6⟩ := J_fin (G := g1) (F := g2) b7 b9 (sur R' (by omega)) (by omega) (by omega)
    refine ⟨b, s2, m2, (cC _).mpr ?_, ?_, c3, (a3.cons b5).cons c4, (a4.cons b6).cons c5, fun q => ⟨A', R', c6 q⟩⟩
    · rw [b1, c1]
      simp only [pm_bd, z_blr c3, z_gd]
    · rw [cM, b2, c2]
      simp only [pm_bd]
      rcases (show b = 0 ∨ b = 1 by omega) with rfl | rfl
      · rw [if_pos (show nI 0 = (0 : Int32) from rfl)]; rfl
      · rw [if_neg (by decide)]; rfl
