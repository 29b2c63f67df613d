/-! the state of both readers between two steps -/
def ST (T : Nat → Nat) (n K : Nat) (s m : hp_S) (p q z : Nat) (sc : Nat → Nat) : Prop := PQ T n K s m p q ∧ un s m q ∧ SCp s z sc p
theorem un_id {s m s' m' : hp_S} {q : Nat} (h : un s m q) (h8 : hs_I s' 7 8 = hs_I s 7 8) (h6 : ∀ j, hs_A m' 6 j = hs_A m 6 j) (h10 : ∀ j, hs_A m' 10 j = hs_A m 10 j) (h13 : ∀ t, hs_A s' 13 t = hs_A s 13 t) : un s' m' q :=
  un_fr h (Nat.le_refl _) h8 (fun j _ => ⟨h10 j, h6 j, h13 _⟩) (fun j h1 h2 => by omega)
theorem ST_take {T : Nat → Nat} {n K : Nat} {s m : hp_S} {p q z c : Nat} {sc : Nat → Nat} {a b : Int32} (h : ST T n K s m p q z sc) (hk : tk_K T n K p = c) (hc : 2 ≤ c) (hr : cr m q a b) : p < K ∧ f_C_X4_expect_7 (nI c) a s = some (cT s p a) ∧ ∃ x, (∀ k, 1100 ≤ k → f_M_X11_take_0 k (nI (k_M c)) b m = some (nI p, mP T n K m p b x)) ∧ (∀ k, 1100 ≤ k → f_M_X11_pass_0 k b m = some (nI p, mP T n K m p b x)) ∧ ST T n K (cT s p a) (mP T n K m p b x) (p + 1) q z sc := by
  obtain ⟨h1, h2, x, h3, h4, h5⟩ := PQ_take h.1 hk hc hr
  refine ⟨h1, h2, x, h3, h4, h5, ?_, ?_⟩
  · exact un_id h.2.1 (by simp only [cT, hs_I_pI, hs_I_pA, hs_A_pI, hs_A_pA, and_true, true_and, and_false, false_and, and_self, eq_self, Nat.reduceEqDiff, ↓reduceIte]) (fun j => by simp only [mP_A, hs_I_pI, hs_I_pA, hs_A_pI, hs_A_pA, and_true, true_and, and_false, false_and, and_self, eq_self, Nat.reduceEqDiff, ↓reduceIte]) (fun j => by simp only [mP_A, hs_I_pI, hs_I_pA, hs_A_pI, hs_A_pA, and_true, true_and, and_false, false_and, and_self, eq_self, Nat.reduceEqDiff, ↓reduceIte]) (fun t => by simp only [cT, hs_I_pI, hs_I_pA, hs_A_pI, hs_A_pA, and_true, true_and, and_false, false_and, and_self, eq_self, Nat.reduceEqDiff, ↓reduceIte])
  · exact SCp_fr (P := [(7, 5)]) (A := [14]) h.2.2 ((hs_fr_pA (by decide)).cons (hs_fr_pI (by decide))) (by decide) (by omega)
/-- what matters to neither -/
theorem ST_fr {T : Nat → Nat} {n K : Nat} {s m s' m' : hp_S} {p q z : Nat} {sc : Nat → Nat} {P P' : List (Nat × Nat)} {A A' : List Nat} (h : ST T n K s m p q z sc) (f : hs_fr P A s s') (f' : hs_fr P' A' m m')
    (g : ((1, 1) ∉ P ∧ (3, 4) ∉ P ∧ (7, 5) ∉ P ∧ (7, 6) ∉ P ∧ (7, 7) ∉ P) ∧ 2 ∉ A ∧ 4 ∉ A ∧ 5 ∉ A ∧ 6 ∉ A ∧ 9 ∉ A ∧ 10 ∉ A ∧ 11 ∉ A ∧ 12 ∉ A ∧ 14 ∉ A)
    (g2 : (7, 4) ∉ P ∧ (7, 8) ∉ P ∧ 13 ∉ A ∧ 15 ∉ A)
    (g' : ((0, 3) ∉ P' ∧ (0, 5) ∉ P' ∧ (0, 6) ∉ P' ∧ (0, 7) ∉ P' ∧ (0, 11) ∉ P' ∧ (0, 12) ∉ P' ∧ (0, 50) ∉ P') ∧ 2 ∉ A' ∧ 3 ∉ A' ∧ 4 ∉ A' ∧ 5 ∉ A' ∧ 6 ∉ A' ∧ 7 ∉ A' ∧ 8 ∉ A' ∧ 9 ∉ A' ∧ 10 ∉ A') : ST T n K s' m' p q z sc :=
  ⟨PQ_fr h.1 f f' g g', un_id h.2.1 (f.1 _ _ g2.2.1) (fun j => f'.2 _ g'.2.2.2.2.2.1 j) (fun j => f'.2 _ g'.2.2.2.2.2.2.2.2.2 j) (fun t => f.2 _ g2.2.2.1 t), SCp_fr h.2.2 f ⟨g2.1, g2.2.2.2⟩ (Nat.le_refl _)⟩
theorem ST_m {T : Nat → Nat} {n K : Nat} {s m m' : hp_S} {p q z : Nat} {sc : Nat → Nat} (h : ST T n K s m p q z sc) (f' : hs_fr [(0, 4), (0, 23), (0, 55), (0, 56)] [11, 12, 13, 14, 15, 34, 35, 36, 37] m m') : ST T n K s m' p q z sc :=
  ST_fr (P := []) (A := []) h hs_fr.rf f' (by simp) (by simp) (by simp)
theorem ST_set {T : Nat → Nat} {n K : Nat} {s m : hp_S} {p q z j d : Nat} {sc : Nat → Nat} {x y : Int32} (h : ST T n K s m p q z sc) (hj : j < q) (hd : d < 3) (hc : cr m q x y) : ST T n K (hs_pA s (10 + d) (fj m j) x) (hs_pA m (7 + d) j y) p q z sc := by
  refine ⟨PQ_set h.1 hj hd hc, un_id h.2.1 rfl (fun i => ?_) (fun i => ?_) (fun t => ?_), SCp_fr (P := []) (A := [10 + d]) h.2.2 (hs_fr_pA (by simp)) ⟨by simp, by simp; omega⟩ (Nat.le_refl _)⟩
  · have : ¬ 6 = 7 + d := by omega
    simp only [hs_I_pI, hs_I_pA, hs_A_pI, hs_A_pA, and_true, true_and, and_false, false_and, and_self, eq_self, Nat.reduceEqDiff, ↓reduceIte, this]
  · have : ¬ 10 = 7 + d := by omega
    simp only [hs_I_pI, hs_I_pA, hs_A_pI, hs_A_pA, and_true, true_and, and_false, false_and, and_self, eq_self, Nat.reduceEqDiff, ↓reduceIte, this]
  · have : ¬ 13 = 10 + d := by omega
    simp only [hs_I_pI, hs_I_pA, hs_A_pI, hs_A_pA, and_true, true_and, and_false, false_and, and_self, eq_self, Nat.reduceEqDiff, ↓reduceIte, this]
theorem SCp_cN {s : hp_S} {p q z : Nat} {k f : Int32} {sc : Nat → Nat} (h : SCp s z sc p) : SCp (cN s p q k f) z sc (p + 1) :=
  SCp_fr (P := [(7, 5), (7, 6)]) (A := [9, 10, 11, 12, 13, 14]) (p' := p + 1) h (by
      unfold cN cT
      exact (((hs_fr_pI (by decide)).cons (hs_fr_pA (by decide))).cons ((hs_fr_pA (by decide)).cons (hs_fr_pA (by decide)))).cons (((hs_fr_pA (by decide)).cons (hs_fr_pA (by decide))).cons ((hs_fr_pA (by decide)).cons ((hs_fr_pA (by decide)).cons (hs_fr_pI (by decide)))))) (by decide) (by omega)
/-- the reference behind a node's first token -/
def mN (T : Nat → Nat) (n K : Nat) (m : hp_S) (p q : Nat) (k x : Int32) : hp_S := hs_pA (mP T n K (mM m q k) p (nI q) x) 10 q (nI p)
theorem mN_A (T : Nat → Nat) (n K : Nat) (m : hp_S) (p q : Nat) (k x : Int32) (b i : Nat) : hs_A (mN T n K m p q k x) b i = if b = 10 ∧ i = q then nI p else if b = 5 ∧ i = p then nI q else if b = 4 ∧ i = p then nI (tk_e T n p) else if b = 3 ∧ i = p then nI (tk_p T n p) else if (b = 11 ∨ b = 9 ∨ b = 8 ∨ b = 7) ∧ i = q then nM else if b = 6 ∧ i = q then k else hs_A m b i := by
  simp only [mN, hs_A_pA, mP_A, mM, hs_A_pI]
  by_cases c : i = q
  · subst c
    by_cases c1 : b = 11
    · simp [c1]
    by_cases c2 : b = 9
    · simp [c2]
    by_cases c3 : b = 8
    · simp [c3]
    by_cases c4 : b = 7
    · simp [c4]
    simp [c1, c2, c3, c4]
  · simp [c]
theorem mN_I (T : Nat → Nat) (n K : Nat) (m : hp_S) (p q : Nat) (k x : Int32) (j : Nat) : hs_I (mN T n K m p q k x) 0 j = if j = 7 then nI (tk_p T n (p + 1)) else if j = 6 then nI (k_M (tk_K T n K (p + 1))) else if j = 5 then x else if j = 11 then nI (p + 1) else if j = 12 then nI (q + 1) else hs_I m 0 j := by
  simp only [mN, hs_I_pA, mP_I, mM, hs_I_pI, true_and]
theorem mN_7 {T : Nat → Nat} {n K : Nat} {m : hp_S} {p q : Nat} {k x : Int32} : hs_pA (mN T n K m p q k x) 7 q nM = mN T n K m p q k x := by
  refine hs_ext (fun b k => rfl) (fun b i => ?_)
  rw [hs_A_pA]
  by_cases c : b = 7 ∧ i = q
  · rw [if_pos c, c.1, c.2, mN_A]
    simp
  · rw [if_neg c]
/-- both make a node, no name -/
theorem ST_mk {T : Nat → Nat} {n K : Nat} {s m : hp_S} {p q k z : Nat} {sc : Nat → Nat} {f v : Int32} (h : ST T n K s m p q z sc) (hp : p < K) (h1' : tk_K T n K p ≠ 1) (hq : q < 100) (hk : nk k) (h2 : k ≠ 2) (hr : cr m q f v) : f_C_X4_beginNode_7 (nI k) f s = some (nI p, cN s p q (nI k) f) ∧ f_M_X11_make_0 (nI (kn k)) m = some (nI q, mM m q (nI (kn k))) ∧ ∃ x, (∀ F, 1100 ≤ F → f_M_X11_pass_0 F (nI q) (mM m q (nI (kn k))) = some (nI p, mP T n K (mM m q (nI (kn k))) p (nI q) x)) ∧ (∀ F, 1100 ≤ F → f_M_X11_single_0 F (nI (kn k)) m = some (nI q, mS T n K m p q (nI (kn k)) x)) ∧ ST T n K (cN s p q (nI k) f) (hs_pA (mN T n K m p q (nI (kn k)) x) 7 q v) (p + 1) (q + 1) z sc := by
  obtain ⟨h3, h4, x, h5, h6, h7⟩ := PQ_mk h.1 hp h1' hq hk hr
  have k1 : kn k ≠ 1 ∧ kn k < 40 := by
    simp only [nk, List.mem_cons, List.not_mem_nil, or_false] at hk
    rcases hk with rfl | rfl | rfl | rfl | rfl | rfl | rfl | rfl | rfl | rfl | rfl | rfl | rfl | rfl <;> first | exact absurd rfl h2 | decide
  refine ⟨h3, h4, x, h5, h6, h7, ?_, SCp_cN h.2.2⟩
  refine un_fr h.2.1 (by omega) (by simp only [cN, cT, hs_I_pI, hs_I_pA, hs_A_pI, hs_A_pA, and_true, true_and, and_false, false_and, and_self, eq_self, Nat.reduceEqDiff, ↓reduceIte]) (fun j hj => ?_) (fun j j1 j2 => ?_)
  · have e1 : ¬ j = q := by omega
    have e2 : ¬ fj m j = p := by have := (h.1.2.2.2.2.2.2.1 j hj).2.1; omega
    refine ⟨?_, ?_, ?_⟩
    · simp only [mN, mP_A, mM, hs_I_pI, hs_I_pA, hs_A_pI, hs_A_pA, and_true, true_and, and_false, false_and, and_self, eq_self, Nat.reduceEqDiff, ↓reduceIte, e1]
    · simp only [mN, mP_A, mM, hs_I_pI, hs_I_pA, hs_A_pI, hs_A_pA, and_true, true_and, and_false, false_and, and_self, eq_self, Nat.reduceEqDiff, ↓reduceIte, e1]
    · simp only [cN, cT, hs_I_pI, hs_I_pA, hs_A_pI, hs_A_pA, and_true, true_and, and_false, false_and, and_self, eq_self, Nat.reduceEqDiff, ↓reduceIte, e2]
  · obtain rfl : j = q := by omega
    simp only [mN, mP_A, mM, hs_I_pI, hs_I_pA, hs_A_pI, hs_A_pA, and_true, true_and, and_false, false_and, and_self, eq_self, Nat.reduceEqDiff, ↓reduceIte]
    rw [ne_eq, nI_eq (by omega) (by omega)]
    exact k1.1
theorem un_pair {s m : hp_S} {o q : Nat} {f v : Int32} (h : un s m q) (hf : ∀ j, j < q → fj m j ≠ o) : un (cO s o q f) (mO m o q v) (q + 1) := by
  refine un_fr h (by omega) (by simp only [cO, hs_I_pI, hs_I_pA, hs_A_pI, hs_A_pA, and_true, true_and, and_false, false_and, and_self, eq_self, Nat.reduceEqDiff, ↓reduceIte]) (fun j hj => ?_) (fun j j1 j2 => ?_)
  · have e1 : ¬ j = q := by omega
    have e2 := hf j hj
    refine ⟨?_, ?_, ?_⟩
    · simp only [mO, mM, hs_I_pI, hs_I_pA, hs_A_pI, hs_A_pA, and_true, true_and, and_false, false_and, and_self, eq_self, Nat.reduceEqDiff, ↓reduceIte, e1]
    · simp only [mO, mM, hs_I_pI, hs_I_pA, hs_A_pI, hs_A_pA, and_true, true_and, and_false, false_and, and_self, eq_self, Nat.reduceEqDiff, ↓reduceIte, e1]
    · simp only [cO, hs_I_pI, hs_I_pA, hs_A_pI, hs_A_pA, and_true, true_and, and_false, false_and, and_self, eq_self, Nat.reduceEqDiff, ↓reduceIte, e2]
  · obtain rfl : j = q := by omega
    simp only [mO, mM, hs_I_pI, hs_I_pA, hs_A_pI, hs_A_pA, and_true, true_and, and_false, false_and, and_self, eq_self, Nat.reduceEqDiff, ↓reduceIte]
    decide
theorem ST_pair {T : Nat → Nat} {n K : Nat} {s m : hp_S} {p q o z : Nat} {sc : Nat → Nat} {f v : Int32} (h : ST T n K s m p q z sc) (ho : o < p) (hq : q < 100) (hu : hs_A m 5 o = nM) (hc : cr m q f v) : ST T n K (cO s o q f) (mO m o q v) p (q + 1) z sc := by
  refine ⟨PQ_pair h.1 ho hq hu hc, un_pair h.2.1 (fun j hj g => ?_), ?_⟩
  · have := (h.1.2.2.2.2.2.2.1 j hj).2.2.1
    rw [g, hu, z_me (by omega)] at this
    exact this
  · refine SCp_fr (P := [(7, 6)]) (A := [9, 10, 11, 12, 13, 14]) h.2.2 ?_ (by decide) (Nat.le_refl _)
    unfold cO
    exact (((hs_fr_pI (by decide)).cons (hs_fr_pA (by decide))).cons ((hs_fr_pA (by decide)).cons (hs_fr_pA (by decide)))).cons (((hs_fr_pA (by decide)).cons (hs_fr_pA (by decide))).cons ((hs_fr_pA (by decide)).cons (hs_fr_pA (by decide))))
theorem ST.f {T : Nat → Nat} {n K : Nat} {s m : hp_S} {p q z j : Nat} {sc : Nat → Nat} (h : ST T n K s m p q z sc) (hj : j < q) : fj m j < p ∧ hs_A m 10 j = nI (fj m j) ∧ hs_A m 5 (fj m j) = nI j := by
  obtain ⟨h1, h2, h3, -⟩ := h.1.2.2.2.2.2.2.1 j hj
  exact ⟨h2, h1, h3⟩
