theorem hs_ext {s t : hp_S} (h1 : ∀ a k, hs_I s a k = hs_I t a k) (h2 : ∀ a i, hs_A s a i = hs_A t a i) : s = t :=
  Prod.ext (funext fun a => funext fun k => h1 a k) (funext fun a => funext fun i => h2 a i)
theorem mP_7 (T : Nat → Nat) (n K : Nat) (m : hp_S) (p q : Nat) (a x v : Int32) : hs_pA (mP T n K m p a x) 7 q v = mP T n K (hs_pA m 7 q v) p a x := by
  refine hs_ext (fun b k => ?_) (fun b i => ?_)
  · simp only [mP, mL, hs_I_pI, hs_I_pA, hs_A_pI, hs_A_pA, and_true, true_and, and_false, false_and, and_self, eq_self, Nat.reduceEqDiff, ↓reduceIte]
  · simp only [mP_A, hs_A_pA]
    by_cases c : b = 7
    · subst c; simp
    · simp [c]
/-- a bracket turns out to be a pair's -/
def cO (s : hp_S) (o q : Nat) (f : Int32) : hp_S := hs_pA (hs_pA (hs_pA (hs_pA (hs_pA (hs_pA (hs_pA (hs_pI s 7 6 (nI (q + 1))) 9 o (nI 19)) 10 o nM) 11 o nM) 12 o nM) 13 o nM) 10 o f) 14 o (nI o)
def mO (m : hp_S) (o q : Nat) (v : Int32) : hp_S := hs_pA (hs_pA (hs_pA (mM m q (nI 31)) 10 q (nI o)) 5 o (nI q)) 7 q v
theorem PQ_pair {T : Nat → Nat} {n K : Nat} {s m : hp_S} {p q o : Nat} {f v : Int32} (h : PQ T n K s m p q) (ho : o < p) (hq : q < 100) (hu : hs_A m 5 o = nM) (hc : cr m q f v) : PQ T n K (cO s o q f) (mO m o q v) p (q + 1) := by
  obtain ⟨h1, h2, h3, h4, h5, h6, h7, h8⟩ := h
  have hK := h1.2.2.1
  have e : ∀ j, j < q → fj (mO m o q v) j = fj m j := fun j hj => by
    have : ¬ j = q := by omega
    simp only [fj, mO, mM, hs_I_pI, hs_I_pA, hs_A_pI, hs_A_pA, and_true, true_and, and_false, false_and, and_self, eq_self, Nat.reduceEqDiff, ↓reduceIte, this]
  have eq : fj (mO m o q v) q = o := by simp (disch := omega) only [fj, mO, mM, hs_I_pI, hs_I_pA, hs_A_pI, hs_A_pA, and_true, true_and, and_false, false_and, and_self, eq_self, Nat.reduceEqDiff, ↓reduceIte, nI_clamp]
  have ec : ∀ x' y, cr m q x' y → cr (mO m o q v) (q + 1) x' y := fun x' y hc => cr_mono hc (by omega) (fun a ha => by
    have : ¬ a = q := by omega
    simp only [fj, mO, mM, hs_I_pI, hs_I_pA, hs_A_pI, hs_A_pA, and_true, true_and, and_false, false_and, and_self, eq_self, Nat.reduceEqDiff, ↓reduceIte, this])
  refine ⟨C_T_fr (P := [(7, 6)]) (A := [9, 10, 11, 12, 13, 14]) h1 ?_ (by decide), ?_, h3, hq, ?_, ?_, ?_, ?_⟩
  · unfold cO
    exact (((hs_fr_pI (by decide)).cons (hs_fr_pA (by decide))).cons ((hs_fr_pA (by decide)).cons (hs_fr_pA (by decide)))).cons (((hs_fr_pA (by decide)).cons (hs_fr_pA (by decide))).cons ((hs_fr_pA (by decide)).cons (hs_fr_pA (by decide))))
  · exact M_tx_fr (P := []) (A := [5, 7, 10]) (M_tx_mM h2) (((hs_fr_pA (by decide)).cons (hs_fr_pA (by decide))).cons (hs_fr_pA (by decide))) (by decide)
  · simp only [cO, hs_I_pI, hs_I_pA, hs_A_pI, hs_A_pA, and_true, true_and, and_false, false_and, and_self, eq_self, Nat.reduceEqDiff, ↓reduceIte]; exact ⟨h5.1, h5.2.2⟩
  · simp only [mO, mM, hs_I_pI, hs_I_pA, hs_A_pI, hs_A_pA, and_true, true_and, and_false, false_and, and_self, eq_self, Nat.reduceEqDiff, ↓reduceIte]; exact ⟨h6.1, h6.2.2⟩
  · intro j hj
    unfold nd
    by_cases c : j = q
    · subst c
      rw [eq]
      simp only [mO, mM, cO, hs_I_pI, hs_I_pA, hs_A_pI, hs_A_pA, and_true, true_and, and_false, false_and, and_self, eq_self, Nat.reduceEqDiff, ↓reduceIte]
      refine ⟨ho, ⟨19, by simp [nk], rfl, rfl⟩, ec _ _ hc, Or.inl ⟨rfl, rfl⟩⟩
    · obtain ⟨n1, n2, n3, n4, n5, n6, n7⟩ := h7 j (by omega)
      have ne : ¬ fj m j = o := by
        intro q'
        rw [q', hu, z_me (by omega)] at n3
        exact n3
      rw [e j (by omega)]
      simp only [mO, mM, cO, hs_I_pI, hs_I_pA, hs_A_pI, hs_A_pA, and_true, true_and, and_false, false_and, and_self, eq_self, Nat.reduceEqDiff, ↓reduceIte, ne, c]
      exact ⟨n1, n2, n3, n4, ec _ _ n5, ec _ _ n6, ec _ _ n7⟩
  · intro t ht
    unfold ow
    obtain ⟨o1, o2, o3, o4⟩ := h8 t (by omega)
    by_cases c : t = o
    · subst c
      simp only [mO, mM, cO, hs_I_pI, hs_I_pA, hs_A_pI, hs_A_pA, and_true, true_and, and_false, false_and, and_self, eq_self, Nat.reduceEqDiff, ↓reduceIte]
      refine ⟨Or.inr ⟨q, by omega, rfl, congrArg nI eq.symm⟩, o2, o3, fun a ha hh => ?_⟩
      rw [nI_eq (by omega) (by omega)] at hh
      subst hh
      exact Nat.le_of_eq eq
    · simp only [mO, mM, cO, hs_I_pI, hs_I_pA, hs_A_pI, hs_A_pA, and_true, true_and, and_false, false_and, and_self, eq_self, Nat.reduceEqDiff, ↓reduceIte, c]
      refine ⟨ec _ _ o1, o2, o3, fun a ha hh => ?_⟩
      by_cases ca : a = q
      · subst ca
        exfalso
        rcases o1 with ⟨_, g⟩ | ⟨b, g1, g2, _⟩
        · rw [hh, z_em (by omega)] at g; exact g
        · rw [hh, nI_eq (by omega) (by omega)] at g2; omega
      · have h9 := o4 a (by omega) hh
        rw [← e a (by omega)] at h9
        exact h9
/-- the first name that means nothing -/
def un (s m : hp_S) (q : Nat) : Prop := (hs_I s 7 8 = nM ∧ ∀ j, j < q → hs_A m 6 j = nI 1 → hs_A s 13 (fj m j) ≠ nM) ∨ ∃ u, u < q ∧ hs_I s 7 8 = nI (fj m u) ∧ hs_A m 6 u = nI 1 ∧ hs_A s 13 (fj m u) = nM ∧ ∀ j, j < q → hs_A m 6 j = nI 1 → hs_A s 13 (fj m j) = nM → fj m u ≤ fj m j
theorem un_fr {s m s' m' : hp_S} {q q' : Nat} (h : un s m q) (hq : q ≤ q') (h8 : hs_I s' 7 8 = hs_I s 7 8) (h10 : ∀ j, j < q → hs_A m' 10 j = hs_A m 10 j ∧ hs_A m' 6 j = hs_A m 6 j ∧ hs_A s' 13 (fj m j) = hs_A s 13 (fj m j)) (hn : ∀ j, q ≤ j → j < q' → hs_A m' 6 j ≠ nI 1) : un s' m' q' := by
  have e : ∀ j, j < q → fj m' j = fj m j := fun j hj => by simp only [fj, (h10 j hj).1]
  have g : ∀ j, j < q' → hs_A m' 6 j = nI 1 → j < q := fun j hj hk => by
    by_cases c : j < q
    · exact c
    · exact absurd hk (hn j (by omega) hj)
  rcases h with ⟨h1, h2⟩ | ⟨u, h1, h2, h3, h4, h5⟩
  · refine Or.inl ⟨by rw [h8]; exact h1, fun j hj hk => ?_⟩
    have hj' := g j hj hk
    obtain ⟨a1, a2, a3⟩ := h10 j hj'
    rw [e j hj', a3]
    exact h2 j hj' (by rw [← a2]; exact hk)
  · obtain ⟨a1, a2, a3⟩ := h10 u h1
    refine Or.inr ⟨u, by omega, by rw [h8, e u h1]; exact h2, by rw [a2]; exact h3, by rw [e u h1, a3]; exact h4, fun j hj hk hm => ?_⟩
    have hj' := g j hj hk
    obtain ⟨b1, b2, b3⟩ := h10 j hj'
    rw [e u h1, e j hj']
    exact h5 j hj' (by rw [← b2]; exact hk) (by rw [e j hj', b3] at hm; exact hm)
/-- a name: q the new node, p its token -/
theorem un_name {s m s' m' : hp_S} {p q : Nat} {y : Int32} (h : un s m q) (hp : p < 501) (hf : ∀ j, j < q → fj m j < p) (h10 : ∀ j, j < q → hs_A m' 10 j = hs_A m 10 j ∧ hs_A m' 6 j = hs_A m 6 j ∧ hs_A s' 13 (fj m j) = hs_A s 13 (fj m j)) (hq : hs_A m' 10 q = nI p) (h6 : hs_A m' 6 q = nI 1) (h13 : hs_A s' 13 p = y) (h8 : hs_I s' 7 8 = if y = nM ∧ hs_I s 7 8 = nM then nI p else hs_I s 7 8) : un s' m' (q + 1) := by
  have e : ∀ j, j < q → fj m' j = fj m j := fun j hj => by simp only [fj, (h10 j hj).1]
  have eq : fj m' q = p := fj_of hq (by omega)
  rcases h with ⟨h1, h2⟩ | ⟨u, h1, h2, h3, h4, h5⟩
  · by_cases c : y = nM
    · refine Or.inr ⟨q, by omega, by rw [h8, if_pos ⟨c, h1⟩, eq], h6, by rw [eq, h13]; exact c, fun j hj hk hm => ?_⟩
      by_cases c2 : j = q
      · rw [c2]; exact Nat.le_refl _
      · exfalso
        have hj' : j < q := by omega
        obtain ⟨b1, b2, b3⟩ := h10 j hj'
        rw [e j hj', b3] at hm
        exact h2 j hj' (by rw [← b2]; exact hk) hm
    · refine Or.inl ⟨by rw [h8, if_neg (fun q => c q.1)]; exact h1, fun j hj hk => ?_⟩
      by_cases c2 : j = q
      · rw [c2, eq, h13]; exact c
      · have hj' : j < q := by omega
        obtain ⟨b1, b2, b3⟩ := h10 j hj'
        rw [e j hj', b3]
        exact h2 j hj' (by rw [← b2]; exact hk)
  · have hu := hf u h1
    obtain ⟨a1, a2, a3⟩ := h10 u h1
    refine Or.inr ⟨u, by omega, ?_, by rw [a2]; exact h3, by rw [e u h1, a3]; exact h4, fun j hj hk hm => ?_⟩
    · rw [h8, if_neg (fun q => by rw [h2, z_em (by omega)] at q; exact q.2), e u h1]
      exact h2
    · by_cases c2 : j = q
      · rw [c2, eq, e u h1]; omega
      · have hj' : j < q := by omega
        obtain ⟨b1, b2, b3⟩ := h10 j hj'
        rw [e u h1, e j hj']
        exact h5 j hj' (by rw [← b2]; exact hk) (by rw [e j hj', b3] at hm; exact hm)
/-- the names in scope -/
def SCp (s : hp_S) (z : Nat) (sc : Nat → Nat) (p : Nat) : Prop := z ≤ 20 ∧ hs_I s 7 4 = nI z ∧ ∀ i, i < z → hs_A s 15 i = nI (sc i) ∧ sc i + 1 < p
theorem SCp_fr {s s' : hp_S} {z p p' : Nat} {sc : Nat → Nat} {P : List (Nat × Nat)} {A : List Nat} (h : SCp s z sc p) (f : hs_fr P A s s') (g : (7, 4) ∉ P ∧ 15 ∉ A) (hp : p ≤ p') : SCp s' z sc p' :=
  ⟨h.1, by rw [f.1 _ _ g.1]; exact h.2.1, fun i hi => ⟨by rw [f.2 _ g.2]; exact (h.2.2 i hi).1, by have := (h.2.2 i hi).2; omega⟩⟩
