/-! SEGMENTS: tokens p0 up to p1 that are a whole expression, nodes q0 up to q1 -/
def isB (m : hp_S) (j : Nat) : Prop := hs_A m 6 j = nI 3 ∨ hs_A m 6 j = nI 4
def ar (k : Nat) : Nat := if k = 4 then 1 else if k = 7 then 3 else if k = 5 ∨ k = 17 ∨ k = 19 ∨ k = 20 ∨ k = 21 then 2 else 0
theorem ar_le (k : Nat) : ar k ≤ 3 := by
  unfold ar
  repeat' split
  all_goals omega
def kid (m : hp_S) (q0 q1 d j : Nat) : Prop := ∃ a, q0 ≤ a ∧ a < q1 ∧ hs_A m (7 + d) j = nI a
def sgK (m : hp_S) (q0 q1 j : Nat) : Prop := (∀ d, d < 3 → hs_A m (7 + d) j = nM ∨ kid m q0 q1 d j) ∧ ∃ k, nk k ∧ hs_A m 6 j = nI (kn k) ∧ ∀ d, d < ar k → kid m q0 q1 d j
def sgL (T : Nat → Nat) (n K : Nat) (m : hp_S) (q0 q1 p1 j : Nat) : Prop := hs_A m 6 j = nI 4 → ∃ e, hs_A m 14 j = nI (fj m j + 3) ∧ hs_A m 15 j = nI e ∧ fj m j + 3 ≤ e ∧ e < p1 ∧ tk_K T n K e = 6 ∧ hs_A m 5 e = nI j ∧ hs_A m 5 (fj m j + 1) = nI j ∧ hs_A m 5 (fj m j + 2) = nI j ∧ (∀ i, q0 ≤ i → i < q1 → fj m j + 3 ≤ fj m i → fj m i < e → ∀ d, d < 3 → ∀ a, a < 100 → hs_A m (7 + d) i = nI a → fj m j + 3 ≤ fj m a ∧ fj m a < e) ∧ ∃ a, q0 ≤ a ∧ a < q1 ∧ hs_A m 7 j = nI a ∧ fj m j + 3 ≤ fj m a ∧ fj m a < e
def sgB (m : hp_S) (p1 j : Nat) : Prop := isB m j → ∃ a b, hs_A m 12 j = nI a ∧ hs_A m 13 j = nI b ∧ fj m j + 3 ≤ a ∧ a ≤ b ∧ b ≤ p1 ∧ hs_A m 11 j = nI (fj m j + 1) ∧ hs_A m 5 (a - 1) = nI j
def SG (T : Nat → Nat) (n K : Nat) (m : hp_S) (p0 q0 p1 q1 : Nat) : Prop := q0 ≤ q1 ∧ p0 ≤ p1 ∧ p1 ≤ 500 ∧ q1 ≤ 100 ∧ (∀ j, q0 ≤ j → j < q1 → p0 ≤ fj m j ∧ fj m j < p1 ∧ sgK m q0 q1 j ∧ sgL T n K m q0 q1 p1 j ∧ sgB m p1 j) ∧ ∀ t, p0 ≤ t → t < p1 → tk_K T n K t = 6 → ∃ j, q0 ≤ j ∧ j < q1 ∧ hs_A m 6 j = nI 4 ∧ hs_A m 5 t = nI j ∧ hs_A m 15 j = nI t
theorem kid.mono {m : hp_S} {q0 q1 r0 r1 d j : Nat} (h : kid m q0 q1 d j) (h0 : r0 ≤ q0) (h1 : q1 ≤ r1) : kid m r0 r1 d j := by
  obtain ⟨a, a1, a2, a3⟩ := h
  exact ⟨a, by omega, by omega, a3⟩
theorem sgK.mono {m : hp_S} {q0 q1 r0 r1 j : Nat} (h : sgK m q0 q1 j) (h0 : r0 ≤ q0) (h1 : q1 ≤ r1) : sgK m r0 r1 j := by
  obtain ⟨h2, k, h3, h4, h5⟩ := h
  exact ⟨fun d hd => (h2 d hd).imp id (fun q => q.mono h0 h1), k, h3, h4, fun d hd => (h5 d hd).mono h0 h1⟩
theorem sgB.mono {m : hp_S} {p1 r1 j : Nat} (h : sgB m p1 j) (h1 : p1 ≤ r1) : sgB m r1 j := by
  intro hb
  obtain ⟨a, b, c1, c2, c3, c4, c5, c6⟩ := h hb
  exact ⟨a, b, c1, c2, c3, c4, by omega, c6⟩
/-- a let's own part stays closed if no further node stands in it -/
theorem sgL.mono {T : Nat → Nat} {n K : Nat} {m : hp_S} {q0 q1 r0 r1 p1 s1 j : Nat} (h : sgL T n K m q0 q1 p1 j) (h0 : r0 ≤ q0) (h1 : q1 ≤ r1) (hp : p1 ≤ s1) (ho : ∀ i, r0 ≤ i → i < r1 → fj m j ≤ fj m i → fj m i < p1 → q0 ≤ i ∧ i < q1) : sgL T n K m r0 r1 s1 j := by
  intro hl
  obtain ⟨e, a1, a2, a3, a4, a5, a6, a7, a8, a9, a, b1, b2, b3⟩ := h hl
  refine ⟨e, a1, a2, a3, by omega, a5, a6, a7, a8, fun i i1 i2 i3 i4 => ?_, a, by omega, by omega, b3⟩
  obtain ⟨c1, c2⟩ := ho i i1 i2 (by omega) (by omega)
  exact a9 i c1 c2 i3 i4
theorem SG_nil {T : Nat → Nat} {n K : Nat} {m : hp_S} {p q : Nat} (hp : p ≤ 500) (hq : q ≤ 100) : SG T n K m p q p q :=
  ⟨Nat.le_refl _, Nat.le_refl _, hp, hq, fun j h1 h2 => by omega, fun t h1 h2 => by omega⟩
theorem SG_join {T : Nat → Nat} {n K : Nat} {m : hp_S} {p0 pa0 pa1 pb0 pb1 pc0 pc1 p1 q0 qa qb q2 : Nat} (A : SG T n K m pa0 q0 pa1 qa) (B : SG T n K m pb0 (qa + 1) pb1 qb) (C : SG T n K m pc0 qb pc1 q2) (o1 : p0 ≤ pa0) (o2 : pa1 ≤ pb0) (o3 : pb1 ≤ pc0) (o4 : pc1 ≤ p1) (hp : p1 ≤ 500)
    (f1 : p0 ≤ fj m qa) (f2 : fj m qa < p1) (fa : fj m qa < pa0 ∨ pa1 ≤ fj m qa) (fb : fj m qa < pb0 ∨ pb1 ≤ fj m qa) (fc : fj m qa < pc0 ∨ pc1 ≤ fj m qa) (hK : sgK m q0 q2 qa)
    (hL : hs_A m 6 qa = nI 4 → pb0 = fj m qa + 3 ∧ hs_A m 14 qa = nI (fj m qa + 3) ∧ hs_A m 15 qa = nI pb1 ∧ pb1 < p1 ∧ tk_K T n K pb1 = 6 ∧ hs_A m 5 pb1 = nI qa ∧ hs_A m 5 (fj m qa + 1) = nI qa ∧ hs_A m 5 (fj m qa + 2) = nI qa ∧ ∃ a, qa + 1 ≤ a ∧ a < qb ∧ hs_A m 7 qa = nI a)
    (hB : sgB m p1 qa) (hI : ∀ t, p0 ≤ t → t < p1 → tk_K T n K t = 6 → (pa0 ≤ t ∧ t < pa1) ∨ (pb0 ≤ t ∧ t < pb1) ∨ (pc0 ≤ t ∧ t < pc1) ∨ (hs_A m 6 qa = nI 4 ∧ hs_A m 5 t = nI qa ∧ hs_A m 15 qa = nI t)) : SG T n K m p0 q0 p1 q2 := by
  obtain ⟨A1, A2, A3, A4, A5, A6⟩ := A
  obtain ⟨B1, B2, B3, B4, B5, B6⟩ := B
  obtain ⟨C1, C2, C3, C4, C5, C6⟩ := C
  have loc : ∀ i, q0 ≤ i → i < q2 → (q0 ≤ i ∧ i < qa ∧ pa0 ≤ fj m i ∧ fj m i < pa1) ∨ i = qa ∨ (qa + 1 ≤ i ∧ i < qb ∧ pb0 ≤ fj m i ∧ fj m i < pb1) ∨ (qb ≤ i ∧ i < q2 ∧ pc0 ≤ fj m i ∧ fj m i < pc1) := by
    intro i i1 i2
    by_cases c : i < qa
    · exact Or.inl ⟨i1, c, (A5 i i1 c).1, (A5 i i1 c).2.1⟩
    by_cases c2 : i = qa
    · exact Or.inr (Or.inl c2)
    by_cases c3 : i < qb
    · exact Or.inr (Or.inr (Or.inl ⟨by omega, c3, (B5 i (by omega) c3).1, (B5 i (by omega) c3).2.1⟩))
    · exact Or.inr (Or.inr (Or.inr ⟨by omega, i2, (C5 i (by omega) i2).1, (C5 i (by omega) i2).2.1⟩))
  refine ⟨by omega, by omega, hp, C4, fun j j1 j2 => ?_, fun t t1 t2 t3 => ?_⟩
  · rcases loc j j1 j2 with ⟨g1, g2, g3, g4⟩ | rfl | ⟨g1, g2, g3, g4⟩ | ⟨g1, g2, g3, g4⟩
    · obtain ⟨x1, x2, x3, x4, x5⟩ := A5 j g1 g2
      refine ⟨by omega, by omega, x3.mono (by omega) (by omega), x4.mono (by omega) (by omega) (by omega) (fun i i1 i2 i3 i4 => ?_), x5.mono (by omega)⟩
      rcases loc i i1 i2 with ⟨k1, k2, k3, k4⟩ | rfl | ⟨k1, k2, k3, k4⟩ | ⟨k1, k2, k3, k4⟩ <;> omega
    · refine ⟨f1, f2, hK, fun hl => ?_, hB⟩
      obtain ⟨l1, l2, l3, l4, l5, l6, l7, l8, a, l9, l10, l11⟩ := hL hl
      refine ⟨pb1, l2, l3, by omega, l4, l5, l6, l7, l8, fun i i1 i2 i3 i4 d hd a ha hia => ?_, a, by omega, by omega, l11, ?_⟩
      · rcases loc i i1 i2 with ⟨k1, k2, k3, k4⟩ | rfl | ⟨k1, k2, k3, k4⟩ | ⟨k1, k2, k3, k4⟩
        · omega
        · omega
        · rcases (B5 i k1 k2).2.2.1.1 d hd with z | ⟨a', z1, z2, z3⟩
          · rw [hia, z_em (by omega)] at z; exact z.elim
          · rw [hia, nI_eq (by omega) (by omega)] at z3
            subst z3
            have := B5 a z1 z2
            omega
        · omega
      · have := B5 a l9 l10
        omega
    · obtain ⟨x1, x2, x3, x4, x5⟩ := B5 j g1 g2
      refine ⟨by omega, by omega, x3.mono (by omega) (by omega), x4.mono (by omega) (by omega) (by omega) (fun i i1 i2 i3 i4 => ?_), x5.mono (by omega)⟩
      rcases loc i i1 i2 with ⟨k1, k2, k3, k4⟩ | rfl | ⟨k1, k2, k3, k4⟩ | ⟨k1, k2, k3, k4⟩ <;> omega
    · obtain ⟨x1, x2, x3, x4, x5⟩ := C5 j g1 g2
      refine ⟨by omega, by omega, x3.mono (by omega) (by omega), x4.mono (by omega) (by omega) (by omega) (fun i i1 i2 i3 i4 => ?_), x5.mono (by omega)⟩
      rcases loc i i1 i2 with ⟨k1, k2, k3, k4⟩ | rfl | ⟨k1, k2, k3, k4⟩ | ⟨k1, k2, k3, k4⟩ <;> omega
  · rcases hI t t1 t2 t3 with ⟨g1, g2⟩ | ⟨g1, g2⟩ | ⟨g1, g2⟩ | g
    · obtain ⟨j, a1, a2, a3⟩ := A6 t g1 g2 t3
      exact ⟨j, by omega, by omega, a3⟩
    · obtain ⟨j, a1, a2, a3⟩ := B6 t g1 g2 t3
      exact ⟨j, by omega, by omega, a3⟩
    · obtain ⟨j, a1, a2, a3⟩ := C6 t g1 g2 t3
      exact ⟨j, by omega, by omega, a3⟩
    · exact ⟨qa, by omega, by omega, g⟩
/-- two after another, with tokens between and around them -/
theorem SG_app {T : Nat → Nat} {n K : Nat} {m : hp_S} {p0 pa0 pa1 pb0 pb1 p1 q0 q1 q2 : Nat} (A : SG T n K m pa0 q0 pa1 q1) (B : SG T n K m pb0 q1 pb1 q2) (o1 : p0 ≤ pa0) (o2 : pa1 ≤ pb0) (o3 : pb1 ≤ p1) (hp : p1 ≤ 500) (hI : ∀ t, p0 ≤ t → t < p1 → tk_K T n K t = 6 → (pa0 ≤ t ∧ t < pa1) ∨ (pb0 ≤ t ∧ t < pb1)) : SG T n K m p0 q0 p1 q2 := by
  obtain ⟨A1, A2, A3, A4, A5, A6⟩ := A
  obtain ⟨B1, B2, B3, B4, B5, B6⟩ := B
  have loc : ∀ i, q0 ≤ i → i < q2 → (q0 ≤ i ∧ i < q1 ∧ pa0 ≤ fj m i ∧ fj m i < pa1) ∨ (q1 ≤ i ∧ i < q2 ∧ pb0 ≤ fj m i ∧ fj m i < pb1) := by
    intro i i1 i2
    by_cases c : i < q1
    · exact Or.inl ⟨i1, c, (A5 i i1 c).1, (A5 i i1 c).2.1⟩
    · exact Or.inr ⟨by omega, i2, (B5 i (by omega) i2).1, (B5 i (by omega) i2).2.1⟩
  refine ⟨by omega, by omega, hp, B4, fun j j1 j2 => ?_, fun t t1 t2 t3 => ?_⟩
  · rcases loc j j1 j2 with ⟨g1, g2, g3, g4⟩ | ⟨g1, g2, g3, g4⟩
    · obtain ⟨x1, x2, x3, x4, x5⟩ := A5 j g1 g2
      refine ⟨by omega, by omega, x3.mono (by omega) (by omega), x4.mono (by omega) (by omega) (by omega) (fun i i1 i2 i3 i4 => ?_), x5.mono (by omega)⟩
      rcases loc i i1 i2 with ⟨k1, k2, k3, k4⟩ | ⟨k1, k2, k3, k4⟩ <;> omega
    · obtain ⟨x1, x2, x3, x4, x5⟩ := B5 j g1 g2
      refine ⟨by omega, by omega, x3.mono (by omega) (by omega), x4.mono (by omega) (by omega) (by omega) (fun i i1 i2 i3 i4 => ?_), x5.mono (by omega)⟩
      rcases loc i i1 i2 with ⟨k1, k2, k3, k4⟩ | ⟨k1, k2, k3, k4⟩ <;> omega
  · rcases hI t t1 t2 t3 with ⟨g1, g2⟩ | ⟨g1, g2⟩
    · obtain ⟨j, a1, a2, a3⟩ := A6 t g1 g2 t3
      exact ⟨j, by omega, by omega, a3⟩
    · obtain ⟨j, a1, a2, a3⟩ := B6 t g1 g2 t3
      exact ⟨j, by omega, by omega, a3⟩
/-- a segment speaks only of its own nodes and tokens -/
theorem SG_fr {T : Nat → Nat} {n K : Nat} {m m' : hp_S} {p0 q0 p1 q1 : Nat} (h : SG T n K m p0 q0 p1 q1) (h1 : ∀ a j, 6 ≤ a → a ≤ 15 → q0 ≤ j → j < q1 → hs_A m' a j = hs_A m a j) (h2 : ∀ t, p0 ≤ t → t < p1 → hs_A m' 5 t = hs_A m 5 t) : SG T n K m' p0 q0 p1 q1 := by
  obtain ⟨A1, A2, A3, A4, A5, A6⟩ := h
  have e : ∀ j, q0 ≤ j → j < q1 → fj m' j = fj m j := fun j j1 j2 => by simp only [fj, h1 10 j (by omega) (by omega) j1 j2]
  have ek : ∀ d j, d < 3 → q0 ≤ j → j < q1 → kid m q0 q1 d j → kid m' q0 q1 d j := fun d j hd j1 j2 ⟨a, a1, a2, a3⟩ => ⟨a, a1, a2, by rw [h1 (7 + d) j (by omega) (by omega) j1 j2]; exact a3⟩
  refine ⟨A1, A2, A3, A4, fun j j1 j2 => ?_, fun t t1 t2 t3 => ?_⟩
  · obtain ⟨x1, x2, ⟨x3, k, x4, x5, x6⟩, x7, x8⟩ := A5 j j1 j2
    have ej := e j j1 j2
    have e6 := h1 6 j (by omega) (by omega) j1 j2
    refine ⟨by rw [ej]; exact x1, by rw [ej]; exact x2, ⟨fun d hd => ?_, k, x4, by rw [e6]; exact x5, fun d hd => ek d j (Nat.lt_of_lt_of_le hd (ar_le k)) j1 j2 (x6 d hd)⟩, fun hl => ?_, fun hb => ?_⟩
    · rcases x3 d hd with z | z
      · exact Or.inl (by rw [h1 (7 + d) j (by omega) (by omega) j1 j2]; exact z)
      · exact Or.inr (ek d j hd j1 j2 z)
    · obtain ⟨e', a1, a2, a3, a4, a5, a6, a7, a8, a9, a, b1, b2, b3, b4, b5⟩ := x7 (by rw [← e6]; exact hl)
      rw [ej]
      refine ⟨e', by rw [h1 14 j (by omega) (by omega) j1 j2]; exact a1, by rw [h1 15 j (by omega) (by omega) j1 j2]; exact a2, a3, a4, a5, by rw [h2 e' (by omega) a4]; exact a6, by rw [h2 _ (by omega) (by omega)]; exact a7, by rw [h2 _ (by omega) (by omega)]; exact a8, fun i i1 i2 i3 i4 d hd a ha hia => ?_, a, b1, b2, by rw [h1 7 j (by omega) (by omega) j1 j2]; exact b3, by rw [e a b1 b2]; exact b4, by rw [e a b1 b2]; exact b5⟩
      rw [e i i1 i2] at i3 i4
      rw [h1 (7 + d) i (by omega) (by omega) i1 i2] at hia
      have hr := a9 i i1 i2 i3 i4 d hd a ha hia
      rcases (A5 i i1 i2).2.2.1.1 d hd with z | ⟨a', z1, z2, z3⟩
      · rw [hia, z_em (by omega)] at z; exact z.elim
      · rw [hia, nI_eq (by omega) (by omega)] at z3
        subst z3
        rw [e a z1 z2]
        exact hr
    · obtain ⟨a, b, a1, a2, a3, a4, a5, a6, a7⟩ := x8 (by simpa only [isB, e6] using hb)
      rw [ej]
      exact ⟨a, b, by rw [h1 12 j (by omega) (by omega) j1 j2]; exact a1, by rw [h1 13 j (by omega) (by omega) j1 j2]; exact a2, a3, a4, a5, by rw [h1 11 j (by omega) (by omega) j1 j2]; exact a6, by rw [h2 _ (by omega) (by omega)]; exact a7⟩
  · obtain ⟨j, a1, a2, a3, a4, a5⟩ := A6 t t1 t2 t3
    exact ⟨j, a1, a2, by rw [h1 6 j (by omega) (by omega) a1 a2]; exact a3, by rw [h2 t t1 t2]; exact a4, by rw [h1 15 j (by omega) (by omega) a1 a2]; exact a5⟩
