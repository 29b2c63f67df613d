/-! class and reference while a text is read: tokens p passed, q nodes made -/
def nk (k : Nat) : Prop := k ∈ [2, 3, 4, 5, 7, 10, 11, 12, 13, 14, 17, 19, 20, 21]
def kn (k : Nat) : Nat := if k = 17 then 30 else if k = 19 then 31 else k - 1
def fj (m : hp_S) (j : Nat) : Nat := (hs_A m 10 j).toNatClampNeg
def cr (m : hp_S) (q : Nat) (x y : Int32) : Prop := (x = nM ∧ y = nM) ∨ ∃ a, a < q ∧ y = nI a ∧ x = nI (fj m a)
def nd (s m : hp_S) (p q j : Nat) : Prop := hs_A m 10 j = nI (fj m j) ∧ fj m j < p ∧ hs_A m 5 (fj m j) = nI j ∧ (∃ k, nk k ∧ hs_A s 9 (fj m j) = nI k ∧ hs_A m 6 j = nI (kn k)) ∧ cr m q (hs_A s 10 (fj m j)) (hs_A m 7 j) ∧ cr m q (hs_A s 11 (fj m j)) (hs_A m 8 j) ∧ cr m q (hs_A s 12 (fj m j)) (hs_A m 9 j)
def ow (T : Nat → Nat) (n : Nat) (s m : hp_S) (q t : Nat) : Prop := cr m q (hs_A s 14 t) (hs_A m 5 t) ∧ hs_A m 3 t = nI (tk_p T n t) ∧ hs_A m 4 t = nI (tk_e T n t) ∧ ∀ a, a < q → hs_A m 5 t = nI a → fj m a ≤ t
def PQ (T : Nat → Nat) (n K : Nat) (s m : hp_S) (p q : Nat) : Prop :=
  C_T s T n K ∧ M_tx m T n ∧ p ≤ K ∧ q ≤ 100 ∧
  (hs_I s 7 5 = nI p ∧ hs_I s 7 6 = nI q ∧ hs_I s 7 7 = nM) ∧
  (hs_I m 0 11 = nI p ∧ hs_I m 0 12 = nI q ∧ hs_I m 0 50 = nI 0 ∧ hs_I m 0 6 = nI (k_M (tk_K T n K p)) ∧ hs_I m 0 7 = nI (tk_p T n p) ∧ (tk_K T n K p ≠ 1 → p < K → hs_I m 0 5 = nI (tk_e T n p))) ∧
  (∀ j, j < q → nd s m p q j) ∧ ∀ t, t < p → ow T n s m q t
theorem cr_mono {m m' : hp_S} {q q' : Nat} {x y : Int32} (h : cr m q x y) (hq : q ≤ q') (hm : ∀ a, a < q → hs_A m' 10 a = hs_A m 10 a) : cr m' q' x y := by
  rcases h with h | ⟨a, h1, h2, h3⟩
  · exact Or.inl h
  · exact Or.inr ⟨a, by omega, h2, by rw [h3]; simp only [fj, hm a h1]⟩
theorem fj_of {m : hp_S} {j f : Nat} (h : hs_A m 10 j = nI f) (hf : f < 2 ^ 31) : fj m j = f := by simp only [fj, h, nI_clamp hf]
/-- what doesn't matter to the relation -/
theorem PQ_fr {T : Nat → Nat} {n K : Nat} {s m s' m' : hp_S} {p q : Nat} {P P' : List (Nat × Nat)} {A A' : List Nat} (h : PQ T n K s m p q) (f : hs_fr P A s s') (f' : hs_fr P' A' m m')
    (g : ((1, 1) ∉ P ∧ (3, 4) ∉ P ∧ (7, 5) ∉ P ∧ (7, 6) ∉ P ∧ (7, 7) ∉ P) ∧ 2 ∉ A ∧ 4 ∉ A ∧ 5 ∉ A ∧ 6 ∉ A ∧ 9 ∉ A ∧ 10 ∉ A ∧ 11 ∉ A ∧ 12 ∉ A ∧ 14 ∉ A)
    (g' : ((0, 3) ∉ P' ∧ (0, 5) ∉ P' ∧ (0, 6) ∉ P' ∧ (0, 7) ∉ P' ∧ (0, 11) ∉ P' ∧ (0, 12) ∉ P' ∧ (0, 50) ∉ P') ∧ 2 ∉ A' ∧ 3 ∉ A' ∧ 4 ∉ A' ∧ 5 ∉ A' ∧ 6 ∉ A' ∧ 7 ∉ A' ∧ 8 ∉ A' ∧ 9 ∉ A' ∧ 10 ∉ A') : PQ T n K s' m' p q := by
  obtain ⟨h1, h2, h3, h4, h5, h6, h7, h8⟩ := h
  obtain ⟨⟨a1, a2, a3, a4, a5⟩, b1, b2, b3, b4, b5, b6, b7, b8, b9⟩ := g
  obtain ⟨⟨c1, c2, c3, c4, c5, c6, c7⟩, d1, d2, d3, d4, d5, d6, d7, d8, d9⟩ := g'
  have e : ∀ j, fj m' j = fj m j := fun j => by simp only [fj, f'.2 _ d9]
  have ec : ∀ x y, cr m q x y → cr m' q x y := fun x y hc => cr_mono hc (Nat.le_refl _) (fun a _ => f'.2 _ d9 a)
  refine ⟨C_T_fr h1 f ⟨⟨a1, b1⟩, a2, b2, b3, b4⟩, M_tx_fr h2 f' ⟨c1, d1⟩, h3, h4, ?_, ?_, ?_, ?_⟩
  · rw [f.1 _ _ a3, f.1 _ _ a4, f.1 _ _ a5]; exact h5
  · rw [f'.1 _ _ c5, f'.1 _ _ c6, f'.1 _ _ c7, f'.1 _ _ c3, f'.1 _ _ c4, f'.1 _ _ c2]; exact h6
  · intro j hj
    obtain ⟨n1, n2, n3, n4, n5, n6, n7⟩ := h7 j hj
    unfold nd
    rw [e, f'.2 _ d9, f'.2 _ d4, f'.2 _ d5, f'.2 _ d6, f'.2 _ d7, f'.2 _ d8, f.2 _ b5, f.2 _ b6, f.2 _ b7, f.2 _ b8]
    exact ⟨n1, n2, n3, n4, ec _ _ n5, ec _ _ n6, ec _ _ n7⟩
  · intro t ht
    obtain ⟨o1, o2, o3, o4⟩ := h8 t ht
    unfold ow
    rw [f.2 _ b9, f'.2 _ d4, f'.2 _ d2, f'.2 _ d3]
    exact ⟨ec _ _ o1, o2, o3, fun a ha hh => by rw [e]; exact o4 a ha hh⟩
theorem mL_A (T : Nat → Nat) (n K : Nat) (m : hp_S) (t : Nat) (x : Int32) (a i : Nat) : hs_A (mL T n K m t x) a i = hs_A m a i := by simp only [mL, hs_I_pI, hs_I_pA, hs_A_pI, hs_A_pA, and_true, true_and, and_false, false_and, and_self, eq_self, Nat.reduceEqDiff, ↓reduceIte]
theorem mP_A (T : Nat → Nat) (n K : Nat) (m : hp_S) (p : Nat) (a x : Int32) (b i : Nat) : hs_A (mP T n K m p a x) b i = if b = 5 ∧ i = p then a else if b = 4 ∧ i = p then nI (tk_e T n p) else if b = 3 ∧ i = p then nI (tk_p T n p) else hs_A m b i := by simp only [mP, mL, hs_I_pI, hs_I_pA, hs_A_pI, hs_A_pA, and_true, true_and, and_false, false_and, and_self, eq_self, Nat.reduceEqDiff, ↓reduceIte]
theorem mP_I (T : Nat → Nat) (n K : Nat) (m : hp_S) (p : Nat) (a x : Int32) (k : Nat) : hs_I (mP T n K m p a x) 0 k = if k = 7 then nI (tk_p T n (p + 1)) else if k = 6 then nI (k_M (tk_K T n K (p + 1))) else if k = 5 then x else if k = 11 then nI (p + 1) else hs_I m 0 k := by simp only [mP, mL, hs_I_pI, hs_I_pA, hs_A_pI, hs_A_pA, and_true, true_and, and_false, false_and, and_self, eq_self, Nat.reduceEqDiff, ↓reduceIte]
theorem M_tx_mP {T : Nat → Nat} {n K p : Nat} {m : hp_S} {a x : Int32} (h : M_tx m T n) : M_tx (mP T n K m p a x) T n := by
  refine ⟨by rw [mP_I]; simp only [Nat.reduceEqDiff, if_false]; exact h.1, h.2.1, fun j hj => ?_⟩
  rw [mP_A]
  simp only [Nat.reduceEqDiff, if_false, false_and]
  exact h.2.2 j hj
theorem M_tx_mM {T : Nat → Nat} {n q : Nat} {m : hp_S} {k : Int32} (h : M_tx m T n) : M_tx (mM m q k) T n := by
  refine ⟨by simp only [mM, hs_I_pI, hs_I_pA, hs_A_pI, hs_A_pA, and_true, true_and, and_false, false_and, and_self, eq_self, Nat.reduceEqDiff, ↓reduceIte]; exact h.1, h.2.1, fun j hj => ?_⟩
  simp only [mM, hs_I_pI, hs_I_pA, hs_A_pI, hs_A_pA, and_true, true_and, and_false, false_and, and_self, eq_self, Nat.reduceEqDiff, ↓reduceIte]
  exact h.2.2 j hj
/-- a token goes to a node, or to none -/
theorem PQ_pass {T : Nat → Nat} {n K : Nat} {s m : hp_S} {p q : Nat} {a b x : Int32} (h : PQ T n K s m p q) (hp : p < K) (hc : cr m q a b) (hx : tk_K T n K (p + 1) ≠ 1 → p + 1 < K → x = nI (tk_e T n (p + 1))) : PQ T n K (cT s p a) (mP T n K m p b x) (p + 1) q := by
  obtain ⟨h1, h2, h3, h4, h5, h6, h7, h8⟩ := h
  have e : ∀ j, fj (mP T n K m p b x) j = fj m j := fun j => by simp only [fj, mP_A]; simp
  have ec : ∀ x' y, cr m q x' y → cr (mP T n K m p b x) q x' y := fun x' y hc => cr_mono hc (Nat.le_refl _) (fun a _ => by rw [mP_A]; simp)
  refine ⟨C_T_fr (P := [(7, 5)]) (A := [14]) h1 ((hs_fr_pA (by decide)).cons (hs_fr_pI (by decide))) (by decide), M_tx_mP h2, hp, h4, ?_, ?_, ?_, ?_⟩
  · simp only [cT, hs_I_pI, hs_I_pA, hs_A_pI, hs_A_pA, and_true, true_and, and_false, false_and, and_self, eq_self, Nat.reduceEqDiff, ↓reduceIte]; exact h5.2
  · simp only [mP_I, hs_I_pI, hs_I_pA, hs_A_pI, hs_A_pA, and_true, true_and, and_false, false_and, and_self, eq_self, Nat.reduceEqDiff, ↓reduceIte]; exact ⟨h6.2.1, h6.2.2.1, hx⟩
  · intro j hj
    obtain ⟨n1, n2, n3, n4, n5, n6, n7⟩ := h7 j hj
    unfold nd
    have ne : ¬ fj m j = p := by omega
    rw [e]
    simp only [mP_A, cT, hs_I_pI, hs_I_pA, hs_A_pI, hs_A_pA, and_true, true_and, and_false, false_and, and_self, eq_self, Nat.reduceEqDiff, ↓reduceIte, ne]
    exact ⟨n1, by omega, n3, n4, ec _ _ n5, ec _ _ n6, ec _ _ n7⟩
  · intro t ht
    unfold ow
    by_cases c : t = p
    · subst c
      simp only [mP_A, cT, hs_I_pI, hs_I_pA, hs_A_pI, hs_A_pA, and_true, true_and, and_false, false_and, and_self, eq_self, Nat.reduceEqDiff, ↓reduceIte]
      refine ⟨ec _ _ hc, fun a ha _ => ?_⟩
      rw [e]
      exact Nat.le_of_lt (h7 a ha).2.1
    · obtain ⟨o1, o2, o3, o4⟩ := h8 t (by omega)
      simp only [mP_A, cT, hs_I_pI, hs_I_pA, hs_A_pI, hs_A_pA, and_true, true_and, and_false, false_and, and_self, eq_self, Nat.reduceEqDiff, ↓reduceIte, c]
      exact ⟨ec _ _ o1, o2, o3, fun a ha hh => by rw [e]; exact o4 a ha hh⟩
/-- a node that begins at this token -/
theorem PQ_node {T : Nat → Nat} {n K : Nat} {s m : hp_S} {p q k : Nat} {f v x : Int32} (h : PQ T n K s m p q) (hp : p < K) (hq : q < 100) (hk : nk k) (hc : cr m q f v) (hx : tk_K T n K (p + 1) ≠ 1 → p + 1 < K → x = nI (tk_e T n (p + 1))) : PQ T n K (cN s p q (nI k) f) (hs_pA (hs_pA (mP T n K (mM m q (nI (kn k))) p (nI q) x) 10 q (nI p)) 7 q v) (p + 1) (q + 1) := by
  obtain ⟨h1, h2, h3, h4, h5, h6, h7, h8⟩ := h
  have hK := h1.2.2.1
  have e : ∀ j, j < q → fj (hs_pA (hs_pA (mP T n K (mM m q (nI (kn k))) p (nI q) x) 10 q (nI p)) 7 q v) j = fj m j := fun j hj => by
    have : ¬ j = q := by omega
    simp only [fj, mP_A, mM, hs_I_pI, hs_I_pA, hs_A_pI, hs_A_pA, and_true, true_and, and_false, false_and, and_self, eq_self, Nat.reduceEqDiff, ↓reduceIte, this]
  have eq : fj (hs_pA (hs_pA (mP T n K (mM m q (nI (kn k))) p (nI q) x) 10 q (nI p)) 7 q v) q = p := by
    simp (disch := omega) only [fj, mP_A, mM, hs_I_pI, hs_I_pA, hs_A_pI, hs_A_pA, and_true, true_and, and_false, false_and, and_self, eq_self, Nat.reduceEqDiff, ↓reduceIte, nI_clamp]
  have ec : ∀ x' y, cr m q x' y → cr (hs_pA (hs_pA (mP T n K (mM m q (nI (kn k))) p (nI q) x) 10 q (nI p)) 7 q v) (q + 1) x' y := fun x' y hc => cr_mono hc (by omega) (fun a ha => by
    have : ¬ a = q := by omega
    simp only [fj, mP_A, mM, hs_I_pI, hs_I_pA, hs_A_pI, hs_A_pA, and_true, true_and, and_false, false_and, and_self, eq_self, Nat.reduceEqDiff, ↓reduceIte, this])
  refine ⟨C_T_fr (P := [(7, 5), (7, 6)]) (A := [9, 10, 11, 12, 13, 14]) h1 ?_ (by decide), ?_, hp, hq, ?_, ?_, ?_, ?_⟩
  · unfold cN cT
    exact (((hs_fr_pI (by decide)).cons (hs_fr_pA (by decide))).cons ((hs_fr_pA (by decide)).cons (hs_fr_pA (by decide)))).cons (((hs_fr_pA (by decide)).cons (hs_fr_pA (by decide))).cons ((hs_fr_pA (by decide)).cons ((hs_fr_pA (by decide)).cons (hs_fr_pI (by decide)))))
  · exact M_tx_fr (P := []) (A := [7, 10]) (M_tx_mP (M_tx_mM h2)) ((hs_fr_pA (by decide)).cons (hs_fr_pA (by decide))) (by decide)
  · simp only [cN, cT, hs_I_pI, hs_I_pA, hs_A_pI, hs_A_pA, and_true, true_and, and_false, false_and, and_self, eq_self, Nat.reduceEqDiff, ↓reduceIte]; exact h5.2.2
  · simp only [mP_I, mM, hs_I_pI, hs_I_pA, hs_A_pI, hs_A_pA, and_true, true_and, and_false, false_and, and_self, eq_self, Nat.reduceEqDiff, ↓reduceIte]; exact ⟨h6.2.2.1, hx⟩
  · intro j hj
    unfold nd
    by_cases c : j = q
    · subst c
      rw [eq]
      simp only [mP_A, mM, cN, cT, hs_I_pI, hs_I_pA, hs_A_pI, hs_A_pA, and_true, true_and, and_false, false_and, and_self, eq_self, Nat.reduceEqDiff, ↓reduceIte]
      exact ⟨by omega, ⟨k, hk, rfl, rfl⟩, ec _ _ hc, Or.inl ⟨rfl, rfl⟩⟩
    · obtain ⟨n1, n2, n3, n4, n5, n6, n7⟩ := h7 j (by omega)
      have ne : ¬ fj m j = p := by omega
      rw [e j (by omega)]
      simp only [mP_A, mM, cN, cT, hs_I_pI, hs_I_pA, hs_A_pI, hs_A_pA, and_true, true_and, and_false, false_and, and_self, eq_self, Nat.reduceEqDiff, ↓reduceIte, ne, c]
      exact ⟨n1, by omega, n3, n4, ec _ _ n5, ec _ _ n6, ec _ _ n7⟩
  · intro t ht
    unfold ow
    by_cases c : t = p
    · subst c
      simp only [mP_A, mM, cN, cT, hs_I_pI, hs_I_pA, hs_A_pI, hs_A_pA, and_true, true_and, and_false, false_and, and_self, eq_self, Nat.reduceEqDiff, ↓reduceIte]
      refine ⟨Or.inr ⟨q, by omega, rfl, congrArg nI eq.symm⟩, fun a ha hh => ?_⟩
      rw [nI_eq (by omega) (by omega)] at hh
      subst hh
      exact Nat.le_of_eq eq
    · obtain ⟨o1, o2, o3, o4⟩ := h8 t (by omega)
      simp only [mP_A, mM, cN, cT, hs_I_pI, hs_I_pA, hs_A_pI, hs_A_pA, and_true, true_and, and_false, false_and, and_self, eq_self, Nat.reduceEqDiff, ↓reduceIte, c]
      refine ⟨ec _ _ o1, o2, o3, fun a ha hh => ?_⟩
      by_cases ca : a = q
      · subst ca
        exfalso
        rcases o1 with ⟨_, g⟩ | ⟨b, g1, g2, _⟩
        · rw [hh, z_em (by omega)] at g; exact g
        · rw [hh, nI_eq (by omega) (by omega)] at g2; omega
      · have h9 := o4 a (by omega) hh
        rw [← e a (by omega)] at h9
        exact h9
/-- a part is set -/
theorem PQ_set {T : Nat → Nat} {n K : Nat} {s m : hp_S} {p q j d : Nat} {x y : Int32} (h : PQ T n K s m p q) (hj : j < q) (hd : d < 3) (hc : cr m q x y) : PQ T n K (hs_pA s (10 + d) (fj m j) x) (hs_pA m (7 + d) j y) p q := by
  obtain ⟨h1, h2, h3, h4, h5, h6, h7, h8⟩ := h
  have e : ∀ i, fj (hs_pA m (7 + d) j y) i = fj m i := fun i => by
    have : ¬ 10 = 7 + d := by omega
    simp only [fj, hs_I_pI, hs_I_pA, hs_A_pI, hs_A_pA, and_true, true_and, and_false, false_and, and_self, eq_self, Nat.reduceEqDiff, ↓reduceIte, this]
  have ec : ∀ x' y', cr m q x' y' → cr (hs_pA m (7 + d) j y) q x' y' := fun x' y' hc => cr_mono hc (Nat.le_refl _) (fun a ha => by
    have : ¬ 10 = 7 + d := by omega
    simp only [fj, hs_I_pI, hs_I_pA, hs_A_pI, hs_A_pA, and_true, true_and, and_false, false_and, and_self, eq_self, Nat.reduceEqDiff, ↓reduceIte, this])
  have inj : ∀ i, i < q → fj m i = fj m j → i = j := by
    intro i hi hij
    have a1 := (h7 i hi).2.2.1
    have a2 := (h7 j hj).2.2.1
    rw [hij, a2] at a1
    exact ((nI_eq (by omega) (by omega)).mp a1).symm
  refine ⟨C_T_fr (P := []) (A := [10 + d]) h1 (hs_fr_pA (by simp)) ⟨⟨by simp, by simp; omega⟩, by simp, by simp; omega, by simp; omega, by simp; omega⟩, M_tx_fr (P := []) (A := [7 + d]) h2 (hs_fr_pA (by simp)) ⟨by simp, by simp; omega⟩, h3, h4, ?_, ?_, ?_, ?_⟩
  · simp only [hs_I_pI, hs_I_pA, hs_A_pI, hs_A_pA, and_true, true_and, and_false, false_and, and_self, eq_self, Nat.reduceEqDiff, ↓reduceIte]; exact h5
  · simp only [hs_I_pI, hs_I_pA, hs_A_pI, hs_A_pA, and_true, true_and, and_false, false_and, and_self, eq_self, Nat.reduceEqDiff, ↓reduceIte]; exact h6
  · intro i hi
    obtain ⟨n1, n2, n3, n4, n5, n6, n7⟩ := h7 i hi
    unfold nd
    rw [e]
    have g1 : ¬ 10 = 7 + d := by omega
    have g2 : ¬ 5 = 7 + d := by omega
    have g3 : ¬ 9 = 10 + d := by omega
    have g4 : ¬ 6 = 7 + d := by omega
    simp only [hs_I_pI, hs_I_pA, hs_A_pI, hs_A_pA, and_true, true_and, and_false, false_and, and_self, eq_self, Nat.reduceEqDiff, ↓reduceIte, g1, g2, g3, g4]
    refine ⟨n1, n2, n3, n4, ?_, ?_, ?_⟩
    · by_cases c : i = j ∧ d = 0
      · obtain ⟨rfl, rfl⟩ := c
        simp only [hs_I_pI, hs_I_pA, hs_A_pI, hs_A_pA, and_true, true_and, and_false, false_and, and_self, eq_self, Nat.reduceEqDiff, ↓reduceIte, Nat.add_zero]
        exact ec _ _ hc
      · have g5 : ¬ (7 = 7 + d ∧ i = j) := by omega
        have g6 : ¬ (10 = 10 + d ∧ fj m i = fj m j) := fun q => c ⟨inj i hi q.2, by omega⟩
        rw [if_neg g5, if_neg g6]
        exact ec _ _ n5
    · by_cases c : i = j ∧ d = 1
      · obtain ⟨rfl, rfl⟩ := c
        simp only [hs_I_pI, hs_I_pA, hs_A_pI, hs_A_pA, and_true, true_and, and_false, false_and, and_self, eq_self, Nat.reduceEqDiff, ↓reduceIte, Nat.reduceAdd]
        exact ec _ _ hc
      · have g5 : ¬ (8 = 7 + d ∧ i = j) := by omega
        have g6 : ¬ (11 = 10 + d ∧ fj m i = fj m j) := fun q => c ⟨inj i hi q.2, by omega⟩
        rw [if_neg g5, if_neg g6]
        exact ec _ _ n6
    · by_cases c : i = j ∧ d = 2
      · obtain ⟨rfl, rfl⟩ := c
        simp only [hs_I_pI, hs_I_pA, hs_A_pI, hs_A_pA, and_true, true_and, and_false, false_and, and_self, eq_self, Nat.reduceEqDiff, ↓reduceIte, Nat.reduceAdd]
        exact ec _ _ hc
      · have g5 : ¬ (9 = 7 + d ∧ i = j) := by omega
        have g6 : ¬ (12 = 10 + d ∧ fj m i = fj m j) := fun q => c ⟨inj i hi q.2, by omega⟩
        rw [if_neg g5, if_neg g6]
        exact ec _ _ n7
  · intro t ht
    obtain ⟨o1, o2, o3, o4⟩ := h8 t ht
    unfold ow
    have g2 : ¬ 5 = 7 + d := by omega
    have g3 : ¬ 14 = 10 + d := by omega
    have g4 : ¬ 3 = 7 + d := by omega
    have g5 : ¬ 4 = 7 + d := by omega
    simp only [hs_I_pI, hs_I_pA, hs_A_pI, hs_A_pA, and_true, true_and, and_false, false_and, and_self, eq_self, Nat.reduceEqDiff, ↓reduceIte, g2, g3, g4, g5]
    exact ⟨ec _ _ o1, o2, o3, fun a ha hh => by rw [e]; exact o4 a ha hh⟩
