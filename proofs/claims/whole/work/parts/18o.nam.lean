/-! NAMES of a segment: each means the innermost binder of the segment that has its name, or what the scope around says -/
def sf (m : hp_S) (b : Nat) : Nat := (hs_A m 12 b).toNatClampNeg
def st (m : hp_S) (b : Nat) : Nat := (hs_A m 13 b).toNatClampNeg
def bnd (T : Nat → Nat) (n : Nat) (m : hp_S) (b t : Nat) : Prop := isB m b ∧ sf m b ≤ t ∧ t < st m b ∧ tk_sm T n (fj m b + 1) t = true
def nmT (T : Nat → Nat) (n : Nat) (s m : hp_S) (q0 q1 z : Nat) (sc : Nat → Nat) (j : Nat) : Prop := hs_A m 6 j = nI 1 →
  (∃ b, q0 ≤ b ∧ b < q1 ∧ bnd T n m b (fj m j) ∧ hs_A s 13 (fj m j) = nI (fj m b) ∧ ∀ c, q0 ≤ c → c < q1 → bnd T n m c (fj m j) → sf m c ≤ sf m b) ∨
  ((∀ c, q0 ≤ c → c < q1 → ¬ bnd T n m c (fj m j)) ∧ hs_A s 13 (fj m j) = lkp T n sc (fj m j) z)
def NM (T : Nat → Nat) (n : Nat) (s m : hp_S) (q0 q1 z : Nat) (sc : Nat → Nat) : Prop := ∀ j, q0 ≤ j → j < q1 → nmT T n s m q0 q1 z sc j
theorem lkp_congr (T : Nat → Nat) (n : Nat) {sc sc' : Nat → Nat} (t : Nat) : ∀ z, (∀ i, i < z → sc i = sc' i) → lkp T n sc t z = lkp T n sc' t z
  | 0, _ => rfl
  | z + 1, h => by
    simp only [lkp, h z (by omega), lkp_congr T n t z (fun i hi => h i (by omega))]
/-- a binder's scope lies in its segment -/
theorem bnd_in {T : Nat → Nat} {n K : Nat} {m : hp_S} {p0 q0 p1 q1 b t : Nat} (A : SG T n K m p0 q0 p1 q1) (h1 : q0 ≤ b) (h2 : b < q1) (h : bnd T n m b t) : p0 ≤ t ∧ t < p1 := by
  obtain ⟨x1, x2, x3, x4, x5⟩ := A.2.2.2.2.1 b h1 h2
  have := A.2.2.1
  obtain ⟨a, c, a1, a2, a3, a4, a5, a6, a7⟩ := x5 h.1
  have e1 : sf m b = a := by simp only [sf, a1]; exact nI_clamp (by omega)
  have e2 : st m b = c := by simp only [st, a2]; exact nI_clamp (by omega)
  have := h.2.1
  have := h.2.2.1
  omega
theorem nmT.wide {T : Nat → Nat} {n : Nat} {s m : hp_S} {q0 q1 r0 r1 z j : Nat} {sc : Nat → Nat} (h : nmT T n s m q0 q1 z sc j) (h0 : r0 ≤ q0) (h1 : q1 ≤ r1) (ho : ∀ c, r0 ≤ c → c < r1 → bnd T n m c (fj m j) → q0 ≤ c ∧ c < q1) : nmT T n s m r0 r1 z sc j := by
  intro hj
  rcases h hj with ⟨b, b1, b2, b3, b4, b5⟩ | ⟨g1, g2⟩
  · refine Or.inl ⟨b, by omega, by omega, b3, b4, fun c c1 c2 c3 => ?_⟩
    obtain ⟨d1, d2⟩ := ho c c1 c2 c3
    exact b5 c d1 d2 c3
  · refine Or.inr ⟨fun c c1 c2 c3 => ?_, g2⟩
    obtain ⟨d1, d2⟩ := ho c c1 c2 c3
    exact g1 c d1 d2 c3
/-- a node that binds nothing and is no name joins segments -/
theorem NM_join {T : Nat → Nat} {n K : Nat} {s m : hp_S} {pa0 pa1 pb0 pb1 pc0 pc1 q0 qa qb q2 z : Nat} {sc : Nat → Nat} (A : SG T n K m pa0 q0 pa1 qa) (B : SG T n K m pb0 (qa + 1) pb1 qb) (C : SG T n K m pc0 qb pc1 q2) (o2 : pa1 ≤ pb0) (o3 : pb1 ≤ pc0)
    (NA : NM T n s m q0 qa z sc) (NB : NM T n s m (qa + 1) qb z sc) (NC : NM T n s m qb q2 z sc) (h6 : hs_A m 6 qa ≠ nI 1) (hb : ¬ isB m qa) : NM T n s m q0 q2 z sc := by
  have A1 := A.1
  have B1 := B.1
  have C1 := C.1
  have A2 := A.2.1
  have B2 := B.2.1
  have C2 := C.2.1
  have lb : ∀ c t, q0 ≤ c → c < q2 → bnd T n m c t → (q0 ≤ c ∧ c < qa ∧ pa0 ≤ t ∧ t < pa1) ∨ (qa + 1 ≤ c ∧ c < qb ∧ pb0 ≤ t ∧ t < pb1) ∨ (qb ≤ c ∧ c < q2 ∧ pc0 ≤ t ∧ t < pc1) := by
    intro c t c1 c2 c3
    by_cases d1 : c < qa
    · exact Or.inl ⟨c1, d1, bnd_in A c1 d1 c3⟩
    by_cases d2 : c = qa
    · exact absurd c3.1 (by rw [d2]; exact hb)
    by_cases d3 : c < qb
    · exact Or.inr (Or.inl ⟨by omega, d3, bnd_in B (by omega) d3 c3⟩)
    · exact Or.inr (Or.inr ⟨by omega, c2, bnd_in C (by omega) c2 c3⟩)
  intro j j1 j2
  by_cases d1 : j < qa
  · obtain ⟨x1, x2, -⟩ := A.2.2.2.2.1 j j1 d1
    refine (NA j j1 d1).wide (by omega) (by omega) (fun c c1 c2 c3 => ?_)
    rcases lb c _ c1 c2 c3 with g | g | g <;> omega
  by_cases d2 : j = qa
  · intro q; rw [d2] at q; exact absurd q h6
  by_cases d3 : j < qb
  · obtain ⟨x1, x2, -⟩ := B.2.2.2.2.1 j (by omega) d3
    refine (NB j (by omega) d3).wide (by omega) (by omega) (fun c c1 c2 c3 => ?_)
    rcases lb c _ c1 c2 c3 with g | g | g <;> omega
  · obtain ⟨x1, x2, -⟩ := C.2.2.2.2.1 j (by omega) j2
    refine (NC j (by omega) j2).wide (by omega) (by omega) (fun c c1 c2 c3 => ?_)
    rcases lb c _ c1 c2 c3 with g | g | g <;> omega
theorem NM_app {T : Nat → Nat} {n K : Nat} {s m : hp_S} {pb0 pb1 pc0 pc1 q0 qb q2 z : Nat} {sc : Nat → Nat} (B : SG T n K m pb0 q0 pb1 qb) (C : SG T n K m pc0 qb pc1 q2) (o3 : pb1 ≤ pc0)
    (NB : NM T n s m q0 qb z sc) (NC : NM T n s m qb q2 z sc) : NM T n s m q0 q2 z sc := by
  have B1 := B.1
  have C1 := C.1
  have lb : ∀ c t, q0 ≤ c → c < q2 → bnd T n m c t → (q0 ≤ c ∧ c < qb ∧ pb0 ≤ t ∧ t < pb1) ∨ (qb ≤ c ∧ c < q2 ∧ pc0 ≤ t ∧ t < pc1) := by
    intro c t c1 c2 c3
    by_cases d3 : c < qb
    · exact Or.inl ⟨by omega, d3, bnd_in B (by omega) d3 c3⟩
    · exact Or.inr ⟨by omega, c2, bnd_in C (by omega) c2 c3⟩
  intro j j1 j2
  by_cases d3 : j < qb
  · obtain ⟨x1, x2, -⟩ := B.2.2.2.2.1 j (by omega) d3
    refine (NB j (by omega) d3).wide (by omega) (by omega) (fun c c1 c2 c3 => ?_)
    rcases lb c _ c1 c2 c3 with g | g <;> omega
  · obtain ⟨x1, x2, -⟩ := C.2.2.2.2.1 j (by omega) j2
    refine (NC j (by omega) j2).wide (by omega) (by omega) (fun c c1 c2 c3 => ?_)
    rcases lb c _ c1 c2 c3 with g | g <;> omega
/-- a binder: its scope is the last part -/
theorem NM_bind {T : Nat → Nat} {n K : Nat} {s m : hp_S} {pb0 pb1 pc0 pc1 q0 qb q2 z : Nat} {sc : Nat → Nat} (B : SG T n K m pb0 (q0 + 1) pb1 qb) (C : SG T n K m pc0 qb pc1 q2) (o3 : pb1 ≤ pc0)
    (NB : NM T n s m (q0 + 1) qb z sc) (NC : NM T n s m qb q2 (z + 1) (fun i => if i = z then fj m q0 else sc i)) (hb : isB m q0) (h12 : hs_A m 12 q0 = nI pc0) (h13 : hs_A m 13 q0 = nI pc1) : NM T n s m q0 q2 z sc := by
  have B1 := B.1
  have C1 := C.1
  have C2 := C.2.1
  have C3 := C.2.2.1
  have e1 : sf m q0 = pc0 := by simp only [sf, h12]; exact nI_clamp (by omega)
  have e2 : st m q0 = pc1 := by simp only [st, h13]; exact nI_clamp (by omega)
  have lb : ∀ c t, q0 ≤ c → c < q2 → bnd T n m c t → (c = q0 ∧ pc0 ≤ t ∧ t < pc1) ∨ (q0 + 1 ≤ c ∧ c < qb ∧ pb0 ≤ t ∧ t < pb1) ∨ (qb ≤ c ∧ c < q2 ∧ pc0 ≤ t ∧ t < pc1) := by
    intro c t c1 c2 c3
    by_cases d2 : c = q0
    · subst d2
      have := c3.2.1
      have := c3.2.2.1
      exact Or.inl ⟨rfl, by omega, by omega⟩
    by_cases d3 : c < qb
    · exact Or.inr (Or.inl ⟨by omega, d3, bnd_in B (by omega) d3 c3⟩)
    · exact Or.inr (Or.inr ⟨by omega, c2, bnd_in C (by omega) c2 c3⟩)
  intro j j1 j2
  by_cases d2 : j = q0
  · intro q
    rw [d2] at q
    rcases hb with g | g
    · rw [q] at g; exact absurd g (by decide)
    · rw [q] at g; exact absurd g (by decide)
  by_cases d3 : j < qb
  · obtain ⟨x1, x2, -⟩ := B.2.2.2.2.1 j (by omega) d3
    refine (NB j (by omega) d3).wide (by omega) (by omega) (fun c c1 c2 c3 => ?_)
    rcases lb c _ c1 c2 c3 with g | g | g <;> omega
  · obtain ⟨x1, x2, -⟩ := C.2.2.2.2.1 j (by omega) j2
    intro hj
    rcases NC j (by omega) j2 hj with ⟨b, b1, b2, b3, b4, b5⟩ | ⟨g1, g2⟩
    · refine Or.inl ⟨b, by omega, by omega, b3, b4, fun c c1 c2 c3 => ?_⟩
      rcases lb c _ c1 c2 c3 with ⟨rfl, -, -⟩ | g | g
      · obtain ⟨y1, y2, y3, y4, y5⟩ := C.2.2.2.2.1 b b1 b2
        obtain ⟨a, a', a1, a2, a3, a4, a5, -⟩ := y5 b3.1
        have e3 : sf m b = a := by simp only [sf, a1]; exact nI_clamp (by omega)
        omega
      · omega
      · exact b5 c g.1 g.2.1 c3
    · simp only [lkp, if_true] at g2
      by_cases cs : tk_sm T n (fj m q0 + 1) (fj m j) = true
      · rw [if_pos cs] at g2
        refine Or.inl ⟨q0, by omega, by omega, ⟨hb, by omega, by omega, cs⟩, g2, fun c c1 c2 c3 => ?_⟩
        rcases lb c _ c1 c2 c3 with ⟨rfl, -, -⟩ | g | g
        · exact Nat.le_refl _
        · omega
        · exact absurd c3 (g1 c g.1 g.2.1)
      · rw [if_neg cs] at g2
        refine Or.inr ⟨fun c c1 c2 c3 => ?_, ?_⟩
        · rcases lb c _ c1 c2 c3 with ⟨rfl, -, -⟩ | g | g
          · exact cs c3.2.2.2
          · omega
          · exact g1 c g.1 g.2.1 c3
        · rw [g2]
          exact lkp_congr T n _ z (fun i hi => by rw [if_neg (by omega)])
/-- names depend on their own nodes and tokens alone -/
theorem NM_fr {T : Nat → Nat} {n K : Nat} {s m s' m' : hp_S} {p0 q0 p1 q1 z : Nat} {sc : Nat → Nat} (S : SG T n K m p0 q0 p1 q1) (h : NM T n s m q0 q1 z sc) (h1 : ∀ a j, 6 ≤ a → a ≤ 15 → q0 ≤ j → j < q1 → hs_A m' a j = hs_A m a j) (h2 : ∀ t, p0 ≤ t → t < p1 → hs_A s' 13 t = hs_A s 13 t) : NM T n s' m' q0 q1 z sc := by
  have e : ∀ j, q0 ≤ j → j < q1 → fj m' j = fj m j := fun j j1 j2 => by simp only [fj, h1 10 j (by omega) (by omega) j1 j2]
  have e12 : ∀ j, q0 ≤ j → j < q1 → sf m' j = sf m j := fun j j1 j2 => by simp only [sf, h1 12 j (by omega) (by omega) j1 j2]
  have e13 : ∀ j, q0 ≤ j → j < q1 → st m' j = st m j := fun j j1 j2 => by simp only [st, h1 13 j (by omega) (by omega) j1 j2]
  have eb : ∀ j t, q0 ≤ j → j < q1 → (bnd T n m' j t ↔ bnd T n m j t) := fun j t j1 j2 => by
    simp only [bnd, isB, e j j1 j2, e12 j j1 j2, e13 j j1 j2, h1 6 j (by omega) (by omega) j1 j2]
  intro j j1 j2 hj
  obtain ⟨x1, x2, -⟩ := S.2.2.2.2.1 j j1 j2
  rw [h1 6 j (by omega) (by omega) j1 j2] at hj
  rw [e j j1 j2, h2 _ x1 x2]
  rcases h j j1 j2 hj with ⟨b, b1, b2, b3, b4, b5⟩ | ⟨g1, g2⟩
  · refine Or.inl ⟨b, b1, b2, (eb b _ b1 b2).mpr b3, by rw [e b b1 b2]; exact b4, fun c c1 c2 c3 => ?_⟩
    rw [e12 c c1 c2, e12 b b1 b2]
    exact b5 c c1 c2 ((eb c _ c1 c2).mp c3)
  · exact Or.inr ⟨fun c c1 c2 c3 => g1 c c1 c2 ((eb c _ c1 c2).mp c3), g2⟩
