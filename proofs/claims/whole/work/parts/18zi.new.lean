/-! a new cell -/
def aN (A : AA) (R k l r : Nat) : AA := (fup (ash A) R k, fup (alf A) R l, fup (art A) R r)
theorem aN_lt {A : AA} {R k l r x : Nat} (hx : x < R) : ash (aN A R k l r) x = ash A x ∧ alf (aN A R k l r) x = alf A x ∧ art (aN A R k l r) x = art A x := by
  refine ⟨?_, ?_, ?_⟩
  · change fup (ash A) R k x = ash A x
    exact fup_ne (by omega)
  · change fup (alf A) R l x = alf A x
    exact fup_ne (by omega)
  · change fup (art A) R r x = art A x
    exact fup_ne (by omega)
theorem aN_eq {A : AA} {R k l r : Nat} : ash (aN A R k l r) R = k ∧ alf (aN A R k l r) R = l ∧ art (aN A R k l r) R = r := ⟨fup_eq, fup_eq, fup_eq⟩
theorem fup_R {ρ : Nat → Nat} {R x : Nat} (h : RT R ρ) (hx : x < R) : fup ρ R R x = ρ x ∧ fup ρ R R (ρ x) = ρ (ρ x) := ⟨fup_ne (by omega), fup_ne (by have := (h x hx).1; omega)⟩
theorem RT_new {ρ : Nat → Nat} {R : Nat} (h : RT R ρ) : RT (R + 1) (fup ρ R R) := by
  intro x hx
  by_cases c : x = R
  · subst c
    rw [fup_eq, fup_eq]
    exact ⟨by omega, rfl⟩
  · obtain ⟨e1, e2⟩ := fup_R h (show x < R by omega)
    rw [e1, e2]
    have := h x (by omega)
    exact ⟨by omega, this.2⟩
theorem nr_new {ρ : Nat → Nat} {R : Nat} : nr (R + 1) (fup ρ R R) = nr R ρ := by
  unfold nr
  simp only [cn]
  rw [cn_congr (g := fun x => if ρ x = x then 0 else 1) R (fun x hx => by rw [fup_ne (by omega)]), fup_eq]
  simp
theorem WF_new {A : AA} {R k l r : Nat} (h : WF A R) (hk : k ≤ 4) (hc : 3 ≤ k → l < R ∧ r < R) : WF (aN A R k l r) (R + 1) := by
  intro x hx
  by_cases c : x = R
  · subst c
    obtain ⟨e1, e2, e3⟩ := aN_eq (A := A) (R := x) (k := k) (l := l) (r := r)
    rw [e1, e2, e3]
    exact ⟨hk, fun q => by have := hc q; omega⟩
  · obtain ⟨e1, e2, e3⟩ := aN_lt (A := A) (k := k) (l := l) (r := r) (show x < R by omega)
    rw [e1, e2, e3]
    have := h x (by omega)
    exact ⟨this.1, fun q => by have := this.2 q; omega⟩
theorem nt_new {A : AA} {R k l r : Nat} : nt (aN A R k l r) (R + 1) = nt A R + if 3 ≤ k then 1 else 0 := by
  unfold nt
  simp only [cn]
  rw [cn_congr (g := fun x => if 3 ≤ ash A x then 1 else 0) R (fun x hx => by rw [(aN_lt hx).1]), aN_eq.1]
theorem DN_new {A : AA} {R k l r : Nat} {ρ : Nat → Nat} (hW : WF A R) (h : DN A R ρ) : DN (aN A R k l r) (R + 1) (fup ρ R R) := by
  obtain ⟨h1, h2, h3⟩ := h
  have key : ∀ x y, x < R + 1 → y < R + 1 → fup ρ R R x = fup ρ R R y → x = y ∨ (x < R ∧ y < R) := by
    intro x y hx hy e
    by_cases c : x = R
    · by_cases d : y = R
      · exact Or.inl (by omega)
      · have := (h1 y (by omega)).1
        rw [c, fup_eq, fup_ne d] at e
        omega
    · by_cases d : y = R
      · have := (h1 x (by omega)).1
        rw [d, fup_eq, fup_ne c] at e
        omega
      · exact Or.inr ⟨by omega, by omega⟩
  refine ⟨RT_new h1, fun x hx h0 => ?_, fun x y hx hy e g1 g2 => ?_⟩
  · by_cases c : x = R
    · subst c
      rw [fup_eq]
    · obtain ⟨e1, -⟩ := fup_R h1 (show x < R by omega)
      rw [e1, (aN_lt (h1 x (by omega)).1).1]
      rw [(aN_lt (show x < R by omega)).1] at h0 ⊢
      exact h2 x (by omega) h0
  · rcases key x y hx hy e with q | ⟨q1, q2⟩
    · subst q; exact ⟨rfl, rfl⟩
    · obtain ⟨a1, a2, a3⟩ := aN_lt (A := A) (k := k) (l := l) (r := r) q1
      obtain ⟨b1, b2, b3⟩ := aN_lt (A := A) (k := k) (l := l) (r := r) q2
      rw [a1] at g1 g2
      rw [b1] at g2
      rw [a2, a3, b2, b3]
      rw [fup_ne (by omega), fup_ne (by omega)] at e
      obtain ⟨l1, l2⟩ := (hW x q1).2 g1
      obtain ⟨l3, l4⟩ := (hW y q2).2 (by omega)
      rw [fup_ne (by omega), fup_ne (by omega), fup_ne (by omega), fup_ne (by omega)]
      exact h3 x y q1 q2 e g1 g2
def sN (s : hp_S) (R : Nat) (k x y : Int32) : hp_S := hs_pI (hs_pA (hs_pA (hs_pA s 32 R k) 33 R x) 34 R y) 31 5 (nI (R + 1))
def mNw (m : hp_S) (R : Nat) (k x y : Int32) : hp_S := hs_pI (hs_pA (hs_pA (hs_pA (hs_pA m 23 R (nI R)) 24 R k) 25 R x) 26 R y) 0 37 (nI (R + 1))
theorem C_add31 {s : hp_S} {R : Nat} {k x y : Int32} (h5 : hs_I s 31 5 = nI R) (hR : R < 10002) : f_C_X9_add_31 k x y s = some (nI R, sN s R k x y) := by
  unfold f_C_X9_add_31
  simp (disch := omega) only [↓reduceIte, z_lit, z_m1, z_gd, z_le, z_lt, z_eq, z_em, z_me, z_ml, z_mle, z_lm, z_lem, z_pos, z_sub, nI_add, nI_clamp, ib_nI, pm_let, pm_bd, pm_b1, if_true, if_false, ite_true, ite_false, Nat.not_lt_zero, Nat.zero_le, hs_I_pI, hs_I_pA, hs_A_pI, hs_A_pA, and_true, true_and, and_false, false_and, and_self, eq_self, Nat.reduceEqDiff, ↓reduceIte, h5, hR, sN]
  all_goals simp
theorem M_fresh {m : hp_S} {R : Nat} {k x y : Int32} (h5 : hs_I m 0 37 = nI R) (hR : R < 10200) : f_M_X11_fresh_0 k x y m = some (nI R, mNw m R k x y) := by
  unfold f_M_X11_fresh_0
  simp (disch := omega) only [↓reduceIte, z_lit, z_m1, z_gd, z_le, z_lt, z_eq, z_em, z_me, z_ml, z_mle, z_lm, z_lem, z_pos, z_sub, nI_add, nI_clamp, ib_nI, pm_let, pm_bd, pm_b1, if_true, if_false, ite_true, ite_false, Nat.not_lt_zero, Nat.zero_le, hs_I_pI, hs_I_pA, hs_A_pI, hs_A_pA, and_true, true_and, and_false, false_and, and_self, eq_self, Nat.reduceEqDiff, ↓reduceIte, h5, mNw]
  all_goals simp
theorem J_new {A : AA} {R k l r : Nat} {σ : Nat → Nat} {s m : hp_S} {x y x' y' : Int32} (h : JU s m A R σ) (hR : R < 10002) (hs : σ R = R) (hk : k ≤ 4) (hc : 3 ≤ k → l < R ∧ r < R ∧ x = nI l ∧ y = nI r ∧ x' = nI (σ l) ∧ y' = nI (σ r)) : f_C_X9_add_31 (nI (ck k)) x y s = some (nI R, sN s R (nI (ck k)) x y) ∧ f_M_X11_fresh_0 (nI k) x' y' m = some (nI R, mNw m R (nI k) x' y') ∧ JU (sN s R (nI (ck k)) x y) (mNw m R (nI k) x' y') (aN A R k l r) (R + 1) σ := by
  obtain ⟨hσ, h41, ρC, dC, ρM, dM, ⟨u1, u2, u3, u4, u5, u6⟩, ⟨v1, v2, v3, v4, v5, v6⟩, D, E, e⟩ := h
  have hW := WF_new (l := l) (r := r) u5 hk (fun q => ⟨(hc q).1, (hc q).2.1⟩)
  refine ⟨C_add31 u1 hR, M_fresh v1 (by omega), ⟨hσ.1, fun z hz => ?_, hσ.2.2⟩, by simp only [mNw, hs_I_pI, hs_I_pA, hs_A_pI, hs_A_pA, and_true, true_and, and_false, false_and, and_self, eq_self, Nat.reduceEqDiff, ↓reduceIte]; exact h41, fup ρC R R, fup dC R 0, fup ρM R R, fup dM R 0, ⟨by simp only [sN, hs_I_pI, hs_I_pA, hs_A_pI, hs_A_pA, and_true, true_and, and_false, false_and, and_self, eq_self, Nat.reduceEqDiff, ↓reduceIte], by omega, by omega, RT_new u4, hW, fun z hz => ?_⟩, ⟨by simp only [mNw, hs_I_pI, hs_I_pA, hs_A_pI, hs_A_pA, and_true, true_and, and_false, false_and, and_self, eq_self, Nat.reduceEqDiff, ↓reduceIte], by omega, by omega, RT_new v4, hW, fun z hz => ?_⟩, DN_new u5 D, DN_new u5 E, fun z w hz hw => ?_⟩
  · by_cases c : z = R
    · rw [c, hs]; omega
    · have := hσ.2.1 z (by omega)
      omega
  · rw [nr_new]
    by_cases c : z = R
    · subst c
      rw [fup_eq, fup_eq, aN_eq.1, aN_eq.2.1, aN_eq.2.2]
      refine ⟨by omega, Or.inl ⟨rfl, rfl, by simp only [sN, hs_I_pI, hs_I_pA, hs_A_pI, hs_A_pA, and_true, true_and, and_false, false_and, and_self, eq_self, Nat.reduceEqDiff, ↓reduceIte], fun q => ?_⟩⟩
      obtain ⟨-, -, q3, q4, -⟩ := hc q
      simp only [sN, hs_I_pI, hs_I_pA, hs_A_pI, hs_A_pA, and_true, true_and, and_false, false_and, and_self, eq_self, Nat.reduceEqDiff, ↓reduceIte]
      exact ⟨q3, q4⟩
    · obtain ⟨a1, a2, a3⟩ := aN_lt (A := A) (k := k) (l := l) (r := r) (show z < R by omega)
      rw [fup_ne c, fup_ne c, a1, a2, a3]
      obtain ⟨b1, b2⟩ := u6 z (by omega)
      refine ⟨b1, ?_⟩
      simp only [sN, hs_I_pI, hs_I_pA, hs_A_pI, hs_A_pA, and_true, true_and, and_false, false_and, and_self, eq_self, Nat.reduceEqDiff, ↓reduceIte, c]
      rcases b2 with b2 | ⟨b2, b3, w, b4, b5, b6, b7⟩
      · exact Or.inl b2
      · exact Or.inr ⟨b2, b3, w, by omega, b5, by rw [fup_ne (by omega)]; exact b6, by rw [fup_ne (by omega)]; exact b7⟩
  · rw [nr_new]
    by_cases c : z = R
    · subst c
      rw [fup_eq, fup_eq, aN_eq.1, aN_eq.2.1, aN_eq.2.2, hs]
      refine ⟨⟨by omega, by simp only [mNw, hs_I_pI, hs_I_pA, hs_A_pI, hs_A_pA, and_true, true_and, and_false, false_and, and_self, eq_self, Nat.reduceEqDiff, ↓reduceIte], fun q => ?_⟩, Or.inl ⟨rfl, rfl, by simp only [mNw, hs_I_pI, hs_I_pA, hs_A_pI, hs_A_pA, and_true, true_and, and_false, false_and, and_self, eq_self, Nat.reduceEqDiff, ↓reduceIte]⟩⟩
      obtain ⟨-, -, -, -, q3, q4⟩ := hc q
      simp only [mNw, hs_I_pI, hs_I_pA, hs_A_pI, hs_A_pA, and_true, true_and, and_false, false_and, and_self, eq_self, Nat.reduceEqDiff, ↓reduceIte]
      exact ⟨q3, q4⟩
    · obtain ⟨a1, a2, a3⟩ := aN_lt (A := A) (k := k) (l := l) (r := r) (show z < R by omega)
      have c' : ¬ σ z = R := fun q => by have := hσ.2.1 z (by omega); omega
      rw [fup_ne c, fup_ne c, a1, a2, a3]
      obtain ⟨b1, b2⟩ := v6 z (by omega)
      simp only [mNw, hs_I_pI, hs_I_pA, hs_A_pI, hs_A_pA, and_true, true_and, and_false, false_and, and_self, eq_self, Nat.reduceEqDiff, ↓reduceIte, c']
      refine ⟨b1, ?_⟩
      rcases b2 with b2 | ⟨b2, w, b4, b5, b6, b7⟩
      · exact Or.inl b2
      · exact Or.inr ⟨b2, w, by omega, b5, by rw [fup_ne (by omega)]; exact b6, by rw [fup_ne (by omega)]; exact b7⟩
  · by_cases c : z = R
    · by_cases d : w = R
      · rw [c, d]
        exact ⟨fun _ => rfl, fun _ => rfl⟩
      · have q1 := (u4 w (by omega)).1
        have q2 := (v4 w (by omega)).1
        rw [c, fup_eq, fup_eq, fup_ne d, fup_ne d]
        exact ⟨fun q => by omega, fun q => by omega⟩
    · by_cases d : w = R
      · have q1 := (u4 z (by omega)).1
        have q2 := (v4 z (by omega)).1
        rw [d, fup_eq, fup_eq, fup_ne c, fup_ne c]
        exact ⟨fun q => by omega, fun q => by omega⟩
      · rw [fup_ne c, fup_ne c, fup_ne d, fup_ne d]
        exact e z w (by omega) (by omega)
def xP : List (Nat × Nat) := [(31, 5), (31, 6), (31, 7)]
def xA : List Nat := [32, 33, 34, 35, 36]
def yP : List (Nat × Nat) := [(0, 37), (0, 40), (0, 41), (0, 57), (0, 58)]
def yA : List Nat := [23, 24, 25, 26, 27, 28, 31]
theorem F_sN {s : hp_S} {R : Nat} {k x y : Int32} : hs_fr xP xA s (sN s R k x y) := ((hs_fr_pA (by decide)).cons (hs_fr_pA (by decide))).cons ((hs_fr_pA (by decide)).cons (hs_fr_pI (by decide)))
theorem F_mNw {m : hp_S} {R : Nat} {k x y : Int32} : hs_fr yP yA m (mNw m R k x y) := ((hs_fr_pA (by decide)).cons (hs_fr_pA (by decide))).cons ((hs_fr_pA (by decide)).cons ((hs_fr_pA (by decide)).cons (hs_fr_pI (by decide))))
theorem UD_fr {s m s' m' : hp_S} {t : TT} {g : GG} {z V : Nat} (h : UD s m t g z V) (f : hs_fr xP xA s s') (f' : hs_fr yP yA m m') : UD s' m' t g z V := by
  obtain ⟨h1, h2, h3, h4, h5⟩ := h
  refine ⟨TRt_fr h1 f f' (by decide) (by decide), CP_fr h2 f f' (by decide) (by decide), h3, h4, fun c k c1 c2 c3 => ?_⟩
  have := h5 c k c1 c2 c3
  unfold TG at this ⊢
  rw [f.2 30 (by decide)]
  exact this
/-- both unifiers, with int and bool -/
def JA (s m : hp_S) (A : AA) (R : Nat) (σ : Nat → Nat) (V : Nat) : Prop := JU s m A R σ ∧ (∀ x, V ≤ x → σ x = x) ∧ V + 2 ≤ R ∧ hs_I s 31 6 = nI V ∧ hs_I s 31 7 = nI (V + 1) ∧ hs_I m 0 57 = nI V ∧ hs_I m 0 58 = nI (V + 1)
theorem JA_new {A : AA} {R k l r V : Nat} {σ : Nat → Nat} {s m : hp_S} {x y x' y' : Int32} (h : JA s m A R σ V) (hR : R < 10002) (hk : k ≤ 4) (hc : 3 ≤ k → l < R ∧ r < R ∧ x = nI l ∧ y = nI r ∧ x' = nI (σ l) ∧ y' = nI (σ r)) : f_C_X9_add_31 (nI (ck k)) x y s = some (nI R, sN s R (nI (ck k)) x y) ∧ f_M_X11_fresh_0 (nI k) x' y' m = some (nI R, mNw m R (nI k) x' y') ∧ JA (sN s R (nI (ck k)) x y) (mNw m R (nI k) x' y') (aN A R k l r) (R + 1) σ V := by
  obtain ⟨h1, h2, h3, h4, h5, h6, h7⟩ := h
  obtain ⟨a1, a2, a3⟩ := J_new h1 hR (h2 R (by omega)) hk hc
  refine ⟨a1, a2, a3, h2, by omega, ?_, ?_, ?_, ?_⟩
  · simp only [sN, hs_I_pI, hs_I_pA, hs_A_pI, hs_A_pA, and_true, true_and, and_false, false_and, and_self, eq_self, Nat.reduceEqDiff, ↓reduceIte]; exact h4
  · simp only [sN, hs_I_pI, hs_I_pA, hs_A_pI, hs_A_pA, and_true, true_and, and_false, false_and, and_self, eq_self, Nat.reduceEqDiff, ↓reduceIte]; exact h5
  · simp only [mNw, hs_I_pI, hs_I_pA, hs_A_pI, hs_A_pA, and_true, true_and, and_false, false_and, and_self, eq_self, Nat.reduceEqDiff, ↓reduceIte]; exact h6
  · simp only [mNw, hs_I_pI, hs_I_pA, hs_A_pI, hs_A_pA, and_true, true_and, and_false, false_and, and_self, eq_self, Nat.reduceEqDiff, ↓reduceIte]; exact h7
theorem JA_unify {A : AA} {R a b k F V : Nat} {σ : Nat → Nat} {s m : hp_S} (h : JA s m A R σ V) (ht : nt A R ≤ 4000) (ha : a < R) (hb : b < R) (hk : 20000 ≤ k) (hF : 20000 ≤ F) : ∃ r s' m', f_C_X9_unify_31 k (nI a) (nI b) s = some (nI r, s') ∧ f_M_X11_same_0 F (nI (σ a)) (nI (σ b)) m = some m' ∧ hs_fr xP xA s s' ∧ hs_fr yP yA m m' ∧ ((r = 1 ∧ JA s' m' A R σ V) ∨ (r = 0 ∧ hs_I m' 0 41 = nI 1)) := by
  obtain ⟨h1, h2, h3, h4, h5, h6, h7⟩ := h
  obtain ⟨r, s', m', a1, a2, a3, a4, a5⟩ := J_unify h1 ht ha hb hk hF
  refine ⟨r, s', m', a1, a2, a3.mono (by simp) (by decide), a4.mono (by decide) (by decide), ?_⟩
  rcases a5 with ⟨q1, q2⟩ | q
  · exact Or.inl ⟨q1, q2, h2, h3, by rw [a3.1 _ _ (by simp)]; exact h4, by rw [a3.1 _ _ (by simp)]; exact h5, by rw [a4.1 _ _ (by decide)]; exact h6, by rw [a4.1 _ _ (by decide)]; exact h7⟩
  · exact Or.inr q
/-! the beginning -/
def A0f : AA := (fun _ => 0, fun _ => 0, fun _ => 0)
theorem nt_A0 (R : Nat) : nt A0f R = 0 := by
  unfold nt
  induction R with
  | zero => rfl
  | succ R ih =>
    simp only [cn, ih]
    rfl
/-- class: so many free cells -/
theorem C_beginL : ∀ (d i V : Nat) (s : hp_S), i + d = V → V ≤ 2000 → hs_I s 31 5 = nI i → (∀ x, x < i → hs_A s 32 x = nI 0) → ∃ s', (∀ F, l_C_X9_begin_31_7 (F + 1 + d) (nI V) (nI i) s = l_C_X9_begin_31_7 (F + 1) (nI V) (nI V) s') ∧ hs_fr xP xA s s' ∧ hs_I s' 31 5 = nI V ∧ ∀ x, x < V → hs_A s' 32 x = nI 0
  | 0, i, V, s, e, hV, h5, h => by
    obtain rfl : i = V := by omega
    exact ⟨s, fun F => rfl, hs_fr.rf, h5, h⟩
  | d + 1, i, V, s, e, hV, h5, h => by
    obtain ⟨s', g1, g2, g3, g4⟩ := C_beginL d (i + 1) V (sN s i (nI 0) nM nM) (by omega) hV (by simp only [sN, hs_I_pI, hs_I_pA, hs_A_pI, hs_A_pA, and_true, true_and, and_false, false_and, and_self, eq_self, Nat.reduceEqDiff, ↓reduceIte]) (fun x hx => by
      by_cases c : x = i
      · subst c; simp only [sN, hs_I_pI, hs_I_pA, hs_A_pI, hs_A_pA, and_true, true_and, and_false, false_and, and_self, eq_self, Nat.reduceEqDiff, ↓reduceIte]
      · simp only [sN, hs_I_pI, hs_I_pA, hs_A_pI, hs_A_pA, and_true, true_and, and_false, false_and, and_self, eq_self, Nat.reduceEqDiff, ↓reduceIte, c]; exact h x (by omega))
    refine ⟨s', fun F => ?_, F_sN.cons g2, g3, g4⟩
    have c1 : ¬ V ≤ i := by omega
    rw [← g1, ← Nat.add_assoc, l_C_X9_begin_31_7.eq_2]
    simp (disch := omega) only [↓reduceIte, z_lit, z_m1, z_gd, z_le, z_lt, z_eq, z_em, z_me, z_ml, z_mle, z_lm, z_lem, z_pos, z_sub, nI_add, nI_clamp, ib_nI, pm_let, pm_bd, pm_b1, if_true, if_false, ite_true, ite_false, Nat.not_lt_zero, Nat.zero_le, c1, f_C_X9_free_31, C_add31 h5 (show i < 10002 by omega)]
theorem M_beginL : ∀ (d i V : Nat) (m : hp_S), i + d = V → V ≤ 2000 → hs_I m 0 37 = nI i → hs_I m 0 32 = nI V → (∀ x, x < i → hs_A m 23 x = nI x ∧ hs_A m 24 x = nI 0) → ∃ m', (∀ F, l_M_X11_isFine_0_12 (F + 1 + d) (nI i) m = l_M_X11_isFine_0_12 (F + 1) (nI V) m') ∧ hs_fr [(0, 37)] [23, 24, 25, 26] m m' ∧ hs_I m' 0 37 = nI V ∧ ∀ x, x < V → hs_A m' 23 x = nI x ∧ hs_A m' 24 x = nI 0
  | 0, i, V, m, e, hV, h5, h32, h => by
    obtain rfl : i = V := by omega
    exact ⟨m, fun F => rfl, hs_fr.rf, h5, h⟩
  | d + 1, i, V, m, e, hV, h5, h32, h => by
    obtain ⟨m', g1, g2, g3, g4⟩ := M_beginL d (i + 1) V (mNw m i (nI 0) (nI 0) (nI 0)) (by omega) hV (by simp only [mNw, hs_I_pI, hs_I_pA, hs_A_pI, hs_A_pA, and_true, true_and, and_false, false_and, and_self, eq_self, Nat.reduceEqDiff, ↓reduceIte]) (by simp only [mNw, hs_I_pI, hs_I_pA, hs_A_pI, hs_A_pA, and_true, true_and, and_false, false_and, and_self, eq_self, Nat.reduceEqDiff, ↓reduceIte]; exact h32) (fun x hx => by
      by_cases c : x = i
      · subst c; simp only [mNw, hs_I_pI, hs_I_pA, hs_A_pI, hs_A_pA, and_true, true_and, and_false, false_and, and_self, eq_self, Nat.reduceEqDiff, ↓reduceIte]
      · simp only [mNw, hs_I_pI, hs_I_pA, hs_A_pI, hs_A_pA, and_true, true_and, and_false, false_and, and_self, eq_self, Nat.reduceEqDiff, ↓reduceIte, c]; exact h x (by omega))
    refine ⟨m', fun F => ?_, (((hs_fr_pA (by decide)).cons (hs_fr_pA (by decide))).cons ((hs_fr_pA (by decide)).cons ((hs_fr_pA (by decide)).cons (hs_fr_pI (by decide))))).cons g2, g3, g4⟩
    have c1 : ¬ V ≤ i := by omega
    rw [← g1, ← Nat.add_assoc, l_M_X11_isFine_0_12.eq_2]
    simp (disch := omega) only [↓reduceIte, z_lit, z_m1, z_gd, z_le, z_lt, z_eq, z_em, z_me, z_ml, z_mle, z_lm, z_lem, z_pos, z_sub, nI_add, nI_clamp, ib_nI, pm_let, pm_bd, pm_b1, if_true, if_false, ite_true, ite_false, Nat.not_lt_zero, Nat.zero_le, h32, c1, M_fresh h5 (show i < 10200 by omega)]
theorem JU_fr {s m s' m' : hp_S} {A : AA} {R : Nat} {σ : Nat → Nat} {P P' : List (Nat × Nat)} {L L' : List Nat} (h : JU s m A R σ) (f : hs_fr P L s s') (f' : hs_fr P' L' m m') (g : (31, 5) ∉ P ∧ 32 ∉ L ∧ 33 ∉ L ∧ 34 ∉ L) (g' : ((0, 37) ∉ P' ∧ 23 ∉ L' ∧ 24 ∉ L' ∧ 25 ∉ L' ∧ 26 ∉ L') ∧ (0, 41) ∉ P') : JU s' m' A R σ := by
  obtain ⟨hσ, h41, ρC, dC, ρM, dM, ⟨u1, u2, u3, u4, u5, u6⟩, W, D, E, e⟩ := h
  refine ⟨hσ, by rw [f'.1 _ _ g'.2]; exact h41, ρC, dC, ρM, dM, ⟨by rw [f.1 _ _ g.1]; exact u1, u2, u3, u4, u5, fun z hz => ?_⟩, UM_fr W f' g'.1, D, E, e⟩
  rw [f.2 32 g.2.1, f.2 33 g.2.2.1, f.2 34 g.2.2.2]
  exact u6 z hz
theorem A0_0 {x : Nat} : ¬ 3 ≤ ash A0f x := fun q => by
  have : ash A0f x = 0 := rfl
  omega
theorem J_begin {s m : hp_S} {V : Nat} {σ : Nat → Nat} (hV : 1 ≤ V ∧ V ≤ 2000) (h32 : hs_I m 0 32 = nI V) (hσ : (∀ x y, σ x = σ y → x = y) ∧ (∀ x, (σ x < V ↔ x < V)) ∧ ∀ x, V ≤ x → σ x = x) : ∃ s' m', (∀ F, 3000 ≤ F → f_C_X9_begin_31 F (nI V) s = some s') ∧ (∀ F, 3000 ≤ F → f_M_X11_isFine_0 F m = l_M_X11_isFine_0_60 (F - V - 1) (nI 0) (nI 0) m') ∧ hs_fr xP xA s s' ∧ hs_fr yP yA m m' ∧ ∃ A, JA s' m' A (V + 2) σ V ∧ nt A (V + 2) = 0 := by
  obtain ⟨s1, c1, c2, c3, c4⟩ := C_beginL V 0 V (hs_pI s 31 5 (nI 0)) (by omega) hV.2 (by simp only [hs_I_pI, hs_I_pA, hs_A_pI, hs_A_pA, and_true, true_and, and_false, false_and, and_self, eq_self, Nat.reduceEqDiff, ↓reduceIte]) (fun x hx => by omega)
  obtain ⟨m1, d1, d2, d3, d4⟩ := M_beginL V 0 V (hs_pI (hs_pI m 0 37 (nI 0)) 0 41 (nI 0)) (by omega) hV.2 (by simp only [hs_I_pI, hs_I_pA, hs_A_pI, hs_A_pA, and_true, true_and, and_false, false_and, and_self, eq_self, Nat.reduceEqDiff, ↓reduceIte]) (by simp only [hs_I_pI, hs_I_pA, hs_A_pI, hs_A_pA, and_true, true_and, and_false, false_and, and_self, eq_self, Nat.reduceEqDiff, ↓reduceIte]; exact h32) (fun x hx => by omega)
  have d41 : hs_I m1 0 41 = nI 0 := by rw [d2.1 _ _ (by decide)]; simp only [hs_I_pI, hs_I_pA, hs_A_pI, hs_A_pA, and_true, true_and, and_false, false_and, and_self, eq_self, Nat.reduceEqDiff, ↓reduceIte]
  have m32 : hs_I m1 0 32 = nI V := by rw [d2.1 _ _ (by decide)]; simp only [hs_I_pI, hs_I_pA, hs_A_pI, hs_A_pA, and_true, true_and, and_false, false_and, and_self, eq_self, Nat.reduceEqDiff, ↓reduceIte]; exact h32
  have sb : ∀ x, x < 20000 → σ x < 20000 := fun x hx => by
    by_cases c : x < V
    · have := (hσ.2.1 x).mpr c
      omega
    · rw [hσ.2.2 x (by omega)]; exact hx
  have hW : WF A0f V := fun x hx => ⟨Nat.zero_le _, fun q => absurd q A0_0⟩
  have hRT : RT V (fun x => x) := fun x hx => ⟨hx, rfl⟩
  have hDN : DN A0f V (fun x => x) := ⟨hRT, fun x hx q => rfl, fun x y hx hy e g1 _ => absurd g1 A0_0⟩
  have J0 : JU s1 m1 A0f V σ := by
    refine ⟨⟨hσ.1, fun x hx => (hσ.2.1 x).mpr hx, sb⟩, d41, fun x => x, fun _ => 0, fun x => x, fun _ => 0, ⟨c3, by omega, by omega, hRT, hW, fun x hx => ⟨Nat.zero_le _, Or.inl ⟨rfl, rfl, c4 x hx, fun q => absurd q A0_0⟩⟩⟩, ⟨d3, by omega, by omega, hRT, hW, fun x hx => ?_⟩, hDN, hDN, fun x y _ _ => Iff.rfl⟩
    have sx := (hσ.2.1 x).mpr hx
    exact ⟨⟨Nat.zero_le _, (d4 _ sx).2, fun q => absurd q A0_0⟩, Or.inl ⟨rfl, rfl, (d4 _ sx).1⟩⟩
  obtain ⟨a1, a2, J1⟩ := J_new (k := 1) (l := 0) (r := 0) (x := nM) (y := nM) (x' := nI 0) (y' := nI 0) J0 (by omega) (hσ.2.2 V (by omega)) (by omega) (fun q => by omega)
  obtain ⟨s2, hs2⟩ : ∃ s2, s2 = hs_pI (sN s1 V (nI (ck 1)) nM nM) 31 6 (nI V) := ⟨_, rfl⟩
  obtain ⟨m2, hm2⟩ : ∃ m2, m2 = hs_pI (mNw m1 V (nI 1) (nI 0) (nI 0)) 0 57 (nI V) := ⟨_, rfl⟩
  have J2 : JU s2 m2 (aN A0f V 1 0 0) (V + 1) σ := by
    rw [hs2, hm2]
    exact JU_fr (P := [(31, 6)]) (L := []) (P' := [(0, 57)]) (L' := []) J1 (hs_fr_pI (by decide)) (hs_fr_pI (by decide)) (by decide) (by decide)
  obtain ⟨b1, b2, J3⟩ := J_new (k := 2) (l := 0) (r := 0) (x := nM) (y := nM) (x' := nI 0) (y' := nI 0) J2 (by omega) (hσ.2.2 (V + 1) (by omega)) (by omega) (fun q => by omega)
  obtain ⟨s3, hs3⟩ : ∃ s3, s3 = hs_pI (sN s2 (V + 1) (nI (ck 2)) nM nM) 31 7 (nI (V + 1)) := ⟨_, rfl⟩
  obtain ⟨m3, hm3⟩ : ∃ m3, m3 = hs_pI (mNw m2 (V + 1) (nI 2) (nI 0) (nI 0)) 0 58 (nI (V + 1)) := ⟨_, rfl⟩
  have J4 : JU s3 m3 (aN (aN A0f V 1 0 0) (V + 1) 2 0 0) (V + 2) σ := by
    rw [hs3, hm3]
    exact JU_fr (P := [(31, 7)]) (L := []) (P' := [(0, 58)]) (L' := []) J3 (hs_fr_pI (by decide)) (hs_fr_pI (by decide)) (by decide) (by decide)
  refine ⟨s3, m3, fun F hF => ?_, fun F hF => ?_, ?_, ?_, _, ⟨J4, hσ.2.2, by omega, ?_, ?_, ?_, ?_⟩, ?_⟩
  · unfold f_C_X9_begin_31
    obtain ⟨G, rfl⟩ : ∃ G, F = G + 1 + V := ⟨F - 1 - V, by omega⟩
    have c1' := c1 G
    simp only [z_lit, pm_let]
    rw [c1', l_C_X9_begin_31_7.eq_2, if_pos (Int32.le_refl _)]
    have a1' : f_C_X9_add_31 2 (-1) (-1) s1 = some (nI V, sN s1 V (nI (ck 1)) nM nM) := a1
    have b1' : f_C_X9_add_31 3 (-1) (-1) s2 = some (nI (V + 1), sN s2 (V + 1) (nI (ck 2)) nM nM) := b1
    simp only [a1', pm_bd, pm_let, ← hs2, b1', ← hs3]
  · obtain ⟨G, rfl⟩ : ∃ G, F = G + 1 + V := ⟨F - 1 - V, by omega⟩
    unfold f_M_X11_isFine_0
    have d1' := d1 G
    simp only [z_lit, pm_let]
    rw [d1', l_M_X11_isFine_0_12.eq_2, m32, if_pos (Int32.le_refl _)]
    have a2' : f_M_X11_fresh_0 1 0 0 m1 = some (nI V, mNw m1 V (nI 1) (nI 0) (nI 0)) := a2
    have b2' : f_M_X11_fresh_0 2 0 0 m2 = some (nI (V + 1), mNw m2 (V + 1) (nI 2) (nI 0) (nI 0)) := b2
    simp only [a2', pm_bd, pm_let, ← hm2, b2', ← hm3]
    rw [show G + 1 + V - V - 1 = G by omega]
    rfl
  · rw [hs3, hs2]
    exact ((hs_fr_pI (by decide)).cons c2).cons ((F_sN.cons (hs_fr_pI (by decide))).cons (F_sN.cons (hs_fr_pI (by decide))))
  · rw [hm3, hm2]
    exact (((hs_fr_pI (by decide)).cons (hs_fr_pI (by decide))).cons (d2.mono (by decide) (by decide))).cons ((F_mNw.cons (hs_fr_pI (by decide))).cons (F_mNw.cons (hs_fr_pI (by decide))))
  · rw [hs3]; simp only [sN, hs_I_pI, hs_I_pA, hs_A_pI, hs_A_pA, and_true, true_and, and_false, false_and, and_self, eq_self, Nat.reduceEqDiff, ↓reduceIte]; rw [hs2]; simp only [hs_I_pI, hs_I_pA, hs_A_pI, hs_A_pA, and_true, true_and, and_false, false_and, and_self, eq_self, Nat.reduceEqDiff, ↓reduceIte]
  · rw [hs3]; simp only [hs_I_pI, hs_I_pA, hs_A_pI, hs_A_pA, and_true, true_and, and_false, false_and, and_self, eq_self, Nat.reduceEqDiff, ↓reduceIte]
  · rw [hm3]; simp only [mNw, hs_I_pI, hs_I_pA, hs_A_pI, hs_A_pA, and_true, true_and, and_false, false_and, and_self, eq_self, Nat.reduceEqDiff, ↓reduceIte]; rw [hm2]; simp only [hs_I_pI, hs_I_pA, hs_A_pI, hs_A_pA, and_true, true_and, and_false, false_and, and_self, eq_self, Nat.reduceEqDiff, ↓reduceIte]
  · rw [hm3]; simp only [hs_I_pI, hs_I_pA, hs_A_pI, hs_A_pA, and_true, true_and, and_false, false_and, and_self, eq_self, Nat.reduceEqDiff, ↓reduceIte]
  · rw [nt_new, nt_new, nt_A0]
    rfl
