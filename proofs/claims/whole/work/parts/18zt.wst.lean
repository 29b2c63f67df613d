/-! WRITING A TYPE: both step by step -/
def gn (A : AA) (x g : Nat) : Nat := if g = 1 then (if ash A x = 3 then 2 else 3) else 1
def GRp (m : hp_S) (A : AA) (R : Nat) (ρ σ : Nat → Nat) (x g p : Nat) : Prop :=
  (g = 0 ∧ ∃ y, y < R ∧ ρ y = x ∧ hs_A m 27 p = nI (σ y)) ∨
  (g = 1 ∧ ash A x = 3 ∧ (∃ y, y < R ∧ ρ y = ρ (art A x) ∧ hs_A m 27 p = nI (σ y)) ∧ hs_A m 27 (p + 1) = (if ash A (ρ (alf A x)) = 3 then (-2 : Int32) else -1)) ∨
  (g = 1 ∧ ash A x = 4 ∧ hs_A m 27 p = -4 ∧ (∃ y, y < R ∧ ρ y = ρ (art A x) ∧ hs_A m 27 (p + 1) = nI (σ y)) ∧ hs_A m 27 (p + 2) = -3) ∨
  (g = 2 ∧ ash A x = 4 ∧ hs_A m 27 p = -4)
def SK (s m : hp_S) (A : AA) (R : Nat) (ρ σ rk : Nat → Nat) : List (Nat × Nat) → Nat → Nat → Prop
  | [], d, n => d = 0 ∧ n = 0
  | e :: L, d, n => ∃ d0 n0, d = d0 + 1 ∧ n = n0 + gn A e.1 e.2 ∧ e.1 < R ∧ ρ e.1 = e.1 ∧ hs_A s 36 d0 = nI (e.1 * 3 + e.2) ∧ rk e.1 + d0 ≤ 4001 ∧ GRp m A R ρ σ e.1 e.2 n0 ∧ SK s m A R ρ σ rk L d0 n0
theorem gn_b (A : AA) (x g : Nat) : 1 ≤ gn A x g ∧ gn A x g ≤ 3 := by
  unfold gn
  split
  · split <;> omega
  · omega
theorem GRp_fr {m m' : hp_S} {A : AA} {R : Nat} {ρ σ : Nat → Nat} {x g p : Nat} (h : GRp m A R ρ σ x g p) (f : ∀ i, i < p + gn A x g → hs_A m' 27 i = hs_A m 27 i) : GRp m' A R ρ σ x g p := by
  rcases h with ⟨h1, y, h2, h3, h4⟩ | ⟨h1, h2, ⟨y, h3, h4, h5⟩, h6⟩ | ⟨h1, h2, h3, ⟨y, h4, h5, h6⟩, h7⟩ | ⟨h1, h2, h3⟩
  · have : gn A x g = 1 := by unfold gn; rw [if_neg (by omega)]
    exact Or.inl ⟨h1, y, h2, h3, by rw [f p (by omega)]; exact h4⟩
  · have : gn A x g = 2 := by unfold gn; rw [if_pos h1, if_pos h2]
    exact Or.inr (Or.inl ⟨h1, h2, ⟨y, h3, h4, by rw [f p (by omega)]; exact h5⟩, by rw [f (p + 1) (by omega)]; exact h6⟩)
  · have : gn A x g = 3 := by unfold gn; rw [if_pos h1, if_neg (by omega)]
    exact Or.inr (Or.inr (Or.inl ⟨h1, h2, by rw [f p (by omega)]; exact h3, ⟨y, h4, h5, by rw [f (p + 1) (by omega)]; exact h6⟩, by rw [f (p + 2) (by omega)]; exact h7⟩))
  · have : gn A x g = 1 := by unfold gn; rw [if_neg (by omega)]
    exact Or.inr (Or.inr (Or.inr ⟨h1, h2, by rw [f p (by omega)]; exact h3⟩))
theorem SK_fr {s m s' m' : hp_S} {A : AA} {R : Nat} {ρ σ rk : Nat → Nat} : ∀ (L : List (Nat × Nat)) (d n : Nat), SK s m A R ρ σ rk L d n → (∀ i, i < d → hs_A s' 36 i = hs_A s 36 i) → (∀ i, i < n → hs_A m' 27 i = hs_A m 27 i) → SK s' m' A R ρ σ rk L d n
  | [], d, n, h, _, _ => h
  | e :: L, d, n, h, f, f' => by
    obtain ⟨d0, n0, h1, h2, h3, h4, h5, h6, h7, h8⟩ := h
    refine ⟨d0, n0, h1, h2, h3, h4, by rw [f d0 (by omega)]; exact h5, h6, GRp_fr h7 (fun i hi => f' i (by omega)), SK_fr L d0 n0 h8 (fun i hi => f i (by omega)) (fun i hi => f' i (by omega))⟩
theorem SK_b {s m : hp_S} {A : AA} {R : Nat} {ρ σ rk : Nat → Nat} : ∀ (L : List (Nat × Nat)) (d n : Nat), SK s m A R ρ σ rk L d n → d ≤ 4002 ∧ n ≤ 3 * d ∧ (d = 0 ↔ n = 0)
  | [], d, n, h => by
    obtain ⟨h1, h2⟩ := h
    omega
  | e :: L, d, n, h => by
    obtain ⟨d0, n0, h1, h2, h3, h4, h5, h6, h7, h8⟩ := h
    have := SK_b L d0 n0 h8
    have := gn_b A e.1 e.2
    omega
/-- letters given so far -/
def LR (s m : hp_S) (R : Nat) (ρC ρM σ : Nat → Nat) (c : Nat) : Prop := hs_I s 41 4 = nI c ∧ hs_I m 0 48 = nI c ∧ ∀ y, y < R → (hs_A s 35 (ρC y) = nI 0 ∧ hs_A m 33 (σ (ρM y)) = nM) ∨ ∃ l, l < c ∧ hs_A s 35 (ρC y) = nI (l + 1) ∧ hs_A m 33 (σ (ρM y)) = nI l
/-- what doesn't change while a type is written -/
def WE (A : AA) (R : Nat) (ρC ρM σ rk : Nat → Nat) : Prop := SJ σ R ∧ R ≤ 10002 ∧ WF A R ∧ DN A R ρC ∧ DN A R ρM ∧ (∀ x y, x < R → y < R → (ρC x = ρC y ↔ ρM x = ρM y)) ∧ (∀ x, rk x ≤ 4001) ∧ ∀ x, x < R → ρC x = x → 3 ≤ ash A x → rk (ρC (alf A x)) < rk x ∧ rk (ρC (art A x)) < rk x
def WD (s m : hp_S) (A : AA) (R : Nat) (ρC dC ρM dM σ rk : Nat → Nat) (L : List (Nat × Nat)) (d n c : Nat) : Prop := UC s A R ρC dC ∧ UM m A R ρM dM σ ∧ hs_I s 41 3 = nI d ∧ hs_I m 0 40 = nI n ∧ SK s m A R ρC σ rk L d n ∧ LR s m R ρC ρM σ c
theorem WD_out {s m s' m' : hp_S} {A : AA} {R : Nat} {ρC dC ρM dM σ rk : Nat → Nat} {L : List (Nat × Nat)} {d n c : Nat} (h : WD s m A R ρC dC ρM dM σ rk L d n c) (f : hs_fr oP oA s s') (f' : hs_fr pP pA' m m') : WD s' m' A R ρC dC ρM dM σ rk L d n c := by
  obtain ⟨h1, h2, h3, h4, h5, h6, h7, h8⟩ := h
  refine ⟨UC_fr h1 f (by decide), UM_fr h2 f' (by decide), by rw [f.1 _ _ (by decide)]; exact h3, by rw [f'.1 _ _ (by decide)]; exact h4, SK_fr L d n h5 (fun i _ => f.2 36 (by decide) i) (fun i _ => f'.2 27 (by decide) i), by rw [f.1 _ _ (by decide)]; exact h6, by rw [f'.1 _ _ (by decide)]; exact h7, fun y hy => ?_⟩
  rw [f.2 35 (by decide), f'.2 33 (by decide)]
  exact h8 y hy
/-- shapes of what both see -/
theorem WE_sh {A : AA} {R : Nat} {ρC ρM σ rk : Nat → Nat} (h : WE A R ρC ρM σ rk) {y : Nat} (hy : y < R) : ash A (ρM y) = ash A (ρC y) ∧ (3 ≤ ash A (ρC y) → ρC (alf A (ρM y)) = ρC (alf A (ρC y)) ∧ ρC (art A (ρM y)) = ρC (art A (ρC y))) := by
  obtain ⟨-, -, hW, D, E, e, -⟩ := h
  have rC := D.1 y hy
  have rM := E.1 y hy
  have k1 : ρC (ρM y) = ρC y := (e _ _ rM.1 hy).mpr rM.2
  have k2 : ρM (ρC y) = ρM y := (e _ _ rC.1 hy).mp rC.2
  have s1 : ash A (ρM y) = ash A (ρC y) := by
    by_cases c : ash A (ρM y) = 0
    · by_cases c2 : ash A (ρC y) = 0
      · omega
      · have := E.2.1 (ρC y) rC.1 c2
        rw [k2] at this
        exact this
    · have := D.2.1 (ρM y) rM.1 c
      rw [k1] at this
      exact this.symm
  refine ⟨s1, fun g => ?_⟩
  have := D.2.2 (ρM y) (ρC y) rM.1 rC.1 (by rw [k1, rC.2]) (by omega) s1
  exact this
theorem C_push41 {s : hp_S} {A : AA} {R : Nat} {ρC dC : Nat → Nat} {d y G : Nat} (hU : UC s A R ρC dC) (h3 : hs_I s 41 3 = nI d) (hd : d < 10002) (hy : y < R) (hG : 10003 ≤ G) : ∃ s', f_C_X8_push_41 G (nI y) s = some (hs_pI (hs_pA s' 36 d (nI (ρC y * 3 + 0))) 41 3 (nI (d + 1))) ∧ UC s' A R ρC dC ∧ hs_fr [] [33] s s' := by
  obtain ⟨s', a1, a2, a3⟩ := C_rootOf (F := G) hU hy hG
  have hr := (hU.2.2.2.1 y hy).1
  have hR := hU.2.1
  refine ⟨s', ?_, a2, a3⟩
  unfold f_C_X8_push_41
  have := C_pushA (s := s') (x := ρC y) (g := 0) (by rw [a3.1 _ _ (by simp)]; exact h3) hd (by omega) (by omega)
  have this' : f_C_X8_pushAgain_41 (nI (ρC y)) 0 s' = some (hs_pI (hs_pA s' 36 d (nI (ρC y * 3 + 0))) 41 3 (nI (d + 1))) := this
  simp only [a1, pm_bd, this', pm_b1]
