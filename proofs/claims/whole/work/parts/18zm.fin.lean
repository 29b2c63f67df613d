/-! ARE THEY FINITE, in the class -/
def FIN (A : AA) (R : Nat) (ρ : Nat → Nat) : Prop := ∃ rk : Nat → Nat, ∀ x, x < R → ρ x = x → 3 ≤ ash A x → rk (ρ (alf A x)) < rk x ∧ rk (ρ (art A x)) < rk x
theorem FIN_tr {A : AA} {R : Nat} {ρ ρ' : Nat → Nat} (hW : WF A R) (D : DN A R ρ) (D' : DN A R ρ') (e : ∀ x y, x < R → y < R → (ρ x = ρ y ↔ ρ' x = ρ' y)) (h : FIN A R ρ) : FIN A R ρ' := by
  obtain ⟨rk, h⟩ := h
  refine ⟨fun y => rk (ρ y), fun y hy ey g => ?_⟩
  obtain ⟨l1, l2⟩ := (hW y hy).2 g
  have s1 := D.2.1 y hy (by omega)
  have r1 := D.1 y hy
  obtain ⟨a1, a2⟩ := h (ρ y) r1.1 r1.2 (by omega)
  obtain ⟨b1, b2⟩ := D.2.2 (ρ y) y r1.1 hy r1.2 (by omega) s1
  have k : ∀ w, w < R → ρ (ρ' w) = ρ w := fun w hw => (e _ _ (D'.1 w hw).1 hw).mpr (D'.1 w hw).2
  simp only [k _ l1, k _ l2]
  rw [← b1, ← b2]
  exact ⟨a1, a2⟩
def use (A : AA) (ρ : Nat → Nat) (c x : Nat) : Nat := (if ρ (alf A c) = x then 1 else 0) + (if ρ (art A c) = x then 1 else 0)
def us (A : AA) (ρ rm : Nat → Nat) (x n : Nat) : Nat := cn (fun c => if (ρ c = c ∧ 3 ≤ ash A c) ∧ rm c = 0 then use A ρ c x else 0) n
theorem use_le (A : AA) (ρ : Nat → Nat) (c x : Nat) : use A ρ c x ≤ 2 := by
  unfold use
  split <;> split <;> omega
theorem us_le (A : AA) (ρ rm : Nat → Nat) (x : Nat) : ∀ n, us A ρ rm x n ≤ 2 * n
  | 0 => Nat.le_refl _
  | n + 1 => by
    have h1 := us_le A ρ rm x n
    have h2 := use_le A ρ n x
    unfold us at h1 ⊢
    simp only [cn]
    split <;> omega
theorem C_mk31 {s : hp_S} {R x : Nat} (h5 : hs_I s 31 5 = nI R) (hR : R ≤ 10002) (hx : x < R) : f_C_X9_mark_31 (nI x) s = some (hs_A s 35 x, s) := by
  unfold f_C_X9_mark_31
  have c : ¬ R ≤ x := by omega
  simp (disch := omega) only [↓reduceIte, z_lit, z_m1, z_gd, z_le, z_lt, z_eq, z_em, z_me, z_ml, z_mle, z_lm, z_lem, z_pos, z_sub, nI_add, nI_clamp, ib_nI, pm_let, pm_bd, pm_b1, if_true, if_false, ite_true, ite_false, Nat.not_lt_zero, Nat.zero_le, h5, c]
theorem C_sm31 {s : hp_S} {R x : Nat} {v : Int32} (h5 : hs_I s 31 5 = nI R) (hR : R ≤ 10002) (hx : x < R) : f_C_X9_setMark_31 (nI x) v s = some (hs_pA s 35 x v) := by
  unfold f_C_X9_setMark_31
  have c : ¬ R ≤ x := by omega
  simp (disch := omega) only [↓reduceIte, z_lit, z_m1, z_gd, z_le, z_lt, z_eq, z_em, z_me, z_ml, z_mle, z_lm, z_lem, z_pos, z_sub, nI_add, nI_clamp, ib_nI, pm_let, pm_bd, pm_b1, if_true, if_false, ite_true, ite_false, Nat.not_lt_zero, Nat.zero_le, h5, c]
theorem C_hp {s : hp_S} {A : AA} {R x : Nat} {ρ dp : Nat → Nat} (hU : UC s A R ρ dp) (hx : x < R) (s' : hp_S) : f_C_X9_hasParts (hs_A s 32 x) s' = some (if ρ x = x ∧ 3 ≤ ash A x then nI 1 else nI 0, s') := by
  have w := (hU.2.2.2.2.1 x hx).1
  unfold f_C_X9_hasParts
  obtain ⟨-, ⟨e, -, k, -⟩ | ⟨e, k, -⟩⟩ := hU.2.2.2.2.2 x hx
  · rw [k]
    rcases (show ash A x = 0 ∨ ash A x = 1 ∨ ash A x = 2 ∨ ash A x = 3 ∨ ash A x = 4 by omega) with q | q | q | q | q
    · rw [q, if_neg (show ¬ (ρ x = x ∧ 3 ≤ 0) by omega), if_neg (by decide), if_neg (by decide)]; rfl
    · rw [q, if_neg (show ¬ (ρ x = x ∧ 3 ≤ 1) by omega), if_neg (by decide), if_neg (by decide)]; rfl
    · rw [q, if_neg (show ¬ (ρ x = x ∧ 3 ≤ 2) by omega), if_neg (by decide), if_neg (by decide)]; rfl
    · rw [q, if_pos (show (ρ x = x ∧ 3 ≤ 3) from ⟨e, by omega⟩), if_pos (by decide)]; rfl
    · rw [q, if_pos (show (ρ x = x ∧ 3 ≤ 4) from ⟨e, by omega⟩), if_neg (by decide), if_pos (by decide)]; rfl
  · rw [k, if_neg (show ¬ (ρ x = x ∧ 3 ≤ ash A x) from fun q => e q.1), if_neg (by decide), if_neg (by decide)]; rfl
theorem UC_fr {s s' : hp_S} {A : AA} {R : Nat} {ρ dp : Nat → Nat} {P : List (Nat × Nat)} {L : List Nat} (hU : UC s A R ρ dp) (f : hs_fr P L s s') (g : (31, 5) ∉ P ∧ 32 ∉ L ∧ 33 ∉ L ∧ 34 ∉ L) : UC s' A R ρ dp := by
  obtain ⟨u1, u2, u3, u4, u5, u6⟩ := hU
  refine ⟨by rw [f.1 _ _ g.1]; exact u1, u2, u3, u4, u5, fun z hz => ?_⟩
  rw [f.2 32 g.2.1, f.2 33 g.2.2.1, f.2 34 g.2.2.2]
  exact u6 z hz
theorem C_clear {A : AA} {R : Nat} {ρ dp : Nat → Nat} : ∀ (d y : Nat) (s : hp_S), y + d = R → UC s A R ρ dp → (∀ x, x < y → hs_A s 35 x = nI 0) → ∃ s', (∀ G, d + 1 ≤ G → l_C_X9_clearMarks_31_2 G (nI y) s = some s') ∧ UC s' A R ρ dp ∧ hs_fr [] [35] s s' ∧ ∀ x, x < R → hs_A s' 35 x = nI 0 := by
  intro d
  induction d with
  | zero =>
    intro y s e hU h
    obtain rfl : y = R := by omega
    refine ⟨s, fun G hG => ?_, hU, hs_fr.rf, h⟩
    obtain ⟨G, rfl⟩ : ∃ z, G = z + 1 := ⟨G - 1, by omega⟩
    rw [l_C_X9_clearMarks_31_2.eq_2, hU.1, if_pos (Int32.le_refl _)]
  | succ d ih =>
    intro y s e hU h
    have hR := hU.2.1
    obtain ⟨s', g1, g2, g3, g4⟩ := ih (y + 1) (hs_pA s 35 y (nI 0)) (by omega) (UC_fr (P := []) (L := [35]) hU (hs_fr_pA (by decide)) (by decide)) (fun x hx => by
      by_cases c : x = y
      · subst c; simp only [hs_I_pI, hs_I_pA, hs_A_pI, hs_A_pA, and_true, true_and, and_false, false_and, and_self, eq_self, Nat.reduceEqDiff, ↓reduceIte]
      · simp only [hs_I_pI, hs_I_pA, hs_A_pI, hs_A_pA, and_true, true_and, and_false, false_and, and_self, eq_self, Nat.reduceEqDiff, ↓reduceIte, c]; exact h x (by omega))
    refine ⟨s', fun G hG => ?_, g2, (hs_fr_pA (by decide)).cons g3, g4⟩
    obtain ⟨G, rfl⟩ : ∃ z, G = z + 1 := ⟨G - 1, by omega⟩
    have c1 : ¬ R ≤ y := by omega
    have c2 : ¬ 10002 ≤ y := by omega
    rw [← g1 G (by omega), l_C_X9_clearMarks_31_2.eq_2]
    simp (disch := omega) only [↓reduceIte, z_lit, z_m1, z_gd, z_le, z_lt, z_eq, z_em, z_me, z_ml, z_mle, z_lm, z_lem, z_pos, z_sub, nI_add, nI_clamp, ib_nI, pm_let, pm_bd, pm_b1, if_true, if_false, ite_true, ite_false, Nat.not_lt_zero, Nat.zero_le, hU.1, c1, c2]
def r0 : Nat → Nat := fun _ => 0
theorem us_s (A : AA) (ρ rm : Nat → Nat) (x n : Nat) : us A ρ rm x (n + 1) = us A ρ rm x n + if (ρ n = n ∧ 3 ≤ ash A n) ∧ rm n = 0 then use A ρ n x else 0 := rfl
theorem C_count {A : AA} {R : Nat} {ρ dp : Nat → Nat} : ∀ (d y w : Nat) (s : hp_S) (G : Nat), y + d = R → UC s A R ρ dp → (∀ x, x < R → hs_A s 35 x = nI (us A ρ r0 x y)) → w = cn (fun x => if ρ x = x ∧ 3 ≤ ash A x then 1 else 0) y → 10100 + d ≤ G → ∃ s', l_C_X9_countUses_31_8 G (nI w) (nI y) s = some (nI (tc A R ρ), s') ∧ UC s' A R ρ dp ∧ hs_fr [] [33, 35] s s' ∧ ∀ x, x < R → hs_A s' 35 x = nI (us A ρ r0 x R) := by
  intro d
  induction d with
  | zero =>
    intro y w s G e hU h hw hG
    obtain rfl : y = R := by omega
    refine ⟨s, ?_, hU, hs_fr.rf, h⟩
    obtain ⟨G, rfl⟩ : ∃ z, G = z + 1 := ⟨G - 1, by omega⟩
    rw [l_C_X9_countUses_31_8.eq_2, hU.1, if_pos (Int32.le_refl _), hw]
    rfl
  | succ d ih =>
    intro y w s G e hU h hw hG
    have hR := hU.2.1
    have hy : y < R := by omega
    obtain ⟨G, rfl⟩ : ∃ z, G = z + 1 := ⟨G - 1, by omega⟩
    have c1 : ¬ R ≤ y := by omega
    have c2 : ¬ 10002 ≤ y := by omega
    have hwb : w ≤ y := by rw [hw]; exact cn_le y (fun x _ => by split <;> omega)
    by_cases tr : ρ y = y ∧ 3 ≤ ash A y
    · obtain ⟨wl, wr⟩ := (hU.2.2.2.2.1 y hy).2 tr.2
      obtain ⟨-, ⟨-, -, ky, ly⟩ | ⟨q, -⟩⟩ := hU.2.2.2.2.2 y hy
      case inr => exact absurd tr.1 q
      obtain ⟨l1, l2⟩ := ly tr.2
      obtain ⟨s1, a1, a2, a3⟩ := C_rootOf (F := G) hU wl (by omega)
      have rl := (hU.2.2.2.1 _ wl).1
      have rr := (hU.2.2.2.1 _ wr).1
      have b0 := us_le A ρ r0 (ρ (alf A y)) y
      have m1 : hs_A s1 35 (ρ (alf A y)) = nI (us A ρ r0 (ρ (alf A y)) y) := by rw [a3.2 35 (by decide)]; exact h _ rl
      obtain ⟨s2, hs2⟩ : ∃ s2, s2 = hs_pA s1 35 (ρ (alf A y)) (nI (us A ρ r0 (ρ (alf A y)) y + 1)) := ⟨_, rfl⟩
      have U2 : UC s2 A R ρ dp := by rw [hs2]; exact UC_fr (P := []) (L := [35]) a2 (hs_fr_pA (by decide)) (by decide)
      have r34 : hs_A s2 34 y = nI (art A y) := by rw [hs2]; simp only [hs_I_pI, hs_I_pA, hs_A_pI, hs_A_pA, and_true, true_and, and_false, false_and, and_self, eq_self, Nat.reduceEqDiff, ↓reduceIte]; rw [a3.2 34 (by decide)]; exact l2
      obtain ⟨s3, d1, d2, d3⟩ := C_rootOf (F := G) U2 wr (by omega)
      have m3 : ∀ x, x < R → hs_A s3 35 x = nI (us A ρ r0 x y + if ρ (alf A y) = x then 1 else 0) := by
        intro x hx
        rw [d3.2 35 (by decide), hs2]
        by_cases c : x = ρ (alf A y)
        · subst c; simp only [hs_I_pI, hs_I_pA, hs_A_pI, hs_A_pA, and_true, true_and, and_false, false_and, and_self, eq_self, Nat.reduceEqDiff, ↓reduceIte]
        · have c' : ¬ ρ (alf A y) = x := fun q => c q.symm
          simp only [hs_I_pI, hs_I_pA, hs_A_pI, hs_A_pA, and_true, true_and, and_false, false_and, and_self, eq_self, Nat.reduceEqDiff, ↓reduceIte, c, c']
          rw [a3.2 35 (by decide)]
          exact h x hx
      have b1 := us_le A ρ r0 (ρ (art A y)) y
      obtain ⟨v, hv⟩ : ∃ v, v = us A ρ r0 (ρ (art A y)) y + if ρ (alf A y) = ρ (art A y) then 1 else 0 := ⟨_, rfl⟩
      have vb : v ≤ 2 * y + 1 := by rw [hv]; split <;> omega
      obtain ⟨s4, hs4⟩ : ∃ s4, s4 = hs_pA s3 35 (ρ (art A y)) (nI (v + 1)) := ⟨_, rfl⟩
      have U4 : UC s4 A R ρ dp := by rw [hs4]; exact UC_fr (P := []) (L := [35]) d2 (hs_fr_pA (by decide)) (by decide)
      have m3' := m3 _ rr
      rw [← hv] at m3'
      obtain ⟨s', g1, g2, g3, g4⟩ := ih (y + 1) (w + 1) s4 G (by omega) U4 (fun x hx => by
        rw [us_s, if_pos ⟨tr, rfl⟩, hs4]
        unfold use
        by_cases c : x = ρ (art A y)
        · subst c
          simp only [hs_I_pI, hs_I_pA, hs_A_pI, hs_A_pA, and_true, true_and, and_false, false_and, and_self, eq_self, Nat.reduceEqDiff, ↓reduceIte]
          rw [hv, Nat.add_assoc]
        · have c' : ¬ ρ (art A y) = x := fun q => c q.symm
          simp only [hs_I_pI, hs_I_pA, hs_A_pI, hs_A_pA, and_true, true_and, and_false, false_and, and_self, eq_self, Nat.reduceEqDiff, ↓reduceIte, c, c', Nat.add_zero]
          exact m3 x hx) (by simp only [cn, if_pos tr]; omega) (by omega)
      refine ⟨s', ?_, g2, ?_, g4⟩
      · have hp := C_hp hU hy s
        rw [if_pos tr] at hp
        rw [← g1, l_C_X9_countUses_31_8.eq_2]
        simp (disch := omega) only [↓reduceIte, z_lit, z_m1, z_gd, z_le, z_lt, z_eq, z_em, z_me, z_ml, z_mle, z_lm, z_lem, z_pos, z_sub, nI_add, nI_clamp, ib_nI, pm_let, pm_bd, pm_b1, if_true, if_false, ite_true, ite_false, Nat.not_lt_zero, Nat.zero_le, hU.1, c1, c2, hp, l1, a1, C_mk31 a2.1 hR rl, m1, C_sm31 a2.1 hR rl, ← hs2, r34, d1, C_mk31 d2.1 hR rr, m3', C_sm31 d2.1 hR rr, ← hs4]
        simp
      · rw [hs2] at d3
        rw [hs4] at g3
        exact ((a3.mono (by simp) (by decide)).cons (hs_fr_pA (by decide))).cons ((d3.mono (by simp) (by decide)).cons ((hs_fr_pA (by decide)).cons g3))
    · obtain ⟨s', g1, g2, g3, g4⟩ := ih (y + 1) w s G (by omega) hU (fun x hx => by
        rw [us_s, if_neg (fun q => tr q.1)]
        exact h x hx) (by simp only [cn, if_neg tr]; omega) (by omega)
      refine ⟨s', ?_, g2, g3, g4⟩
      have hp := C_hp hU hy s
      rw [if_neg tr] at hp
      rw [← g1, l_C_X9_countUses_31_8.eq_2]
      simp (disch := omega) only [↓reduceIte, z_lit, z_m1, z_gd, z_le, z_lt, z_eq, z_em, z_me, z_ml, z_mle, z_lm, z_lem, z_pos, z_sub, nI_add, nI_clamp, ib_nI, pm_let, pm_bd, pm_b1, if_true, if_false, ite_true, ite_false, Nat.not_lt_zero, Nat.zero_le, hU.1, c1, c2, hp]
/-! the queue -/
def trq (A : AA) (ρ : Nat → Nat) (x : Nat) : Prop := ρ x = x ∧ 3 ≤ ash A x
/-- w wait, g of them are gone; mk the marks, ps the places in the queue -/
def KQ (s : hp_S) (A : AA) (R : Nat) (ρ : Nat → Nat) (g w : Nat) (mk rm iq qf ps : Nat → Nat) : Prop :=
  (∀ x, x < R → hs_A s 35 x = nI (mk x) ∧ mk x ≤ 30000 ∧ iq x ≤ 1 ∧ rm x ≤ 1 ∧ (iq x = 1 ↔ trq A ρ x ∧ mk x = 0) ∧ (iq x = 1 → ps x < w ∧ qf (ps x) = x) ∧ (rm x = 1 ↔ iq x = 1 ∧ ps x < g)) ∧
  (∀ i, i < w → qf i < R ∧ hs_A s 36 i = nI (qf i) ∧ iq (qf i) = 1 ∧ ps (qf i) = i) ∧ g ≤ w ∧ w = cn iq R ∧
  ∀ x, x < R → iq x = 1 → ∀ c, c < R → trq A ρ c → 0 < use A ρ c x → rm c = 1 ∧ ps c < ps x
theorem KQ_w {s : hp_S} {A : AA} {R : Nat} {ρ : Nat → Nat} {g w : Nat} {mk rm iq qf ps : Nat → Nat} (h : KQ s A R ρ g w mk rm iq qf ps) : w ≤ tc A R ρ := by
  rw [h.2.2.2.1]
  refine cn_mono R (fun x hx => ?_)
  obtain ⟨-, -, a1, -, a2, -⟩ := h.1 x hx
  by_cases c : ρ x = x ∧ 3 ≤ ash A x
  · rw [if_pos c]; exact a1
  · rw [if_neg c]
    by_cases d : iq x = 1
    · exact absurd (a2.mp d).1 c
    · omega
/-- a cell loses a use -/
theorem KQ_lose {s : hp_S} {A : AA} {R : Nat} {ρ dp : Nat → Nat} {g w x v : Nat} {mk rm iq qf ps : Nat → Nat} (hU : UC s A R ρ dp) (h : KQ s A R ρ g w mk rm iq qf ps) (hx : x < R) (hv : mk x = v + 1) (ht : tc A R ρ ≤ 10000) (hall : v = 0 → trq A ρ x → ∀ c, c < R → trq A ρ c → 0 < use A ρ c x → rm c = 1) :
    ∃ s' w' iq' qf' ps', f_C_X9_loseUse_31 (nI x) (nI w) s = some (nI w', s') ∧ hs_fr [] [35, 36] s s' ∧ KQ s' A R ρ g w' (fup mk x v) rm iq' qf' ps' ∧ w ≤ w' ∧ (∀ i, i < w → qf' i = qf i) ∧ (∀ y, y < R → iq y = 1 → iq' y = 1 ∧ ps' y = ps y) := by
  have hw := KQ_w h
  obtain ⟨k1, k2, k3, k4, k5⟩ := h
  obtain ⟨u1, u2, -⟩ := id hU
  obtain ⟨a1, a2, a3, a4, a5, a6, a7⟩ := k1 x hx
  have nq : iq x = 0 := by
    by_cases c : iq x = 1
    · have := (a5.mp c).2; omega
    · omega
  obtain ⟨s1, hs1⟩ : ∃ s1, s1 = hs_pA s 35 x (nI v) := ⟨_, rfl⟩
  have e1 : hs_I s1 31 5 = nI R := by rw [hs1]; simp only [hs_I_pI, hs_I_pA, hs_A_pI, hs_A_pA, and_true, true_and, and_false, false_and, and_self, eq_self, Nat.reduceEqDiff, ↓reduceIte]; exact u1
  have U1 : UC s1 A R ρ dp := by rw [hs1]; exact UC_fr (P := []) (L := [35]) hU (hs_fr_pA (by decide)) (by decide)
  have f1 : hs_fr [] [35, 36] s s1 := by rw [hs1]; exact hs_fr_pA (by decide)
  have hp := C_hp U1 hx s1
  have m1 : hs_A s1 35 x = nI v := by rw [hs1]; simp only [hs_I_pI, hs_I_pA, hs_A_pI, hs_A_pA, and_true, true_and, and_false, false_and, and_self, eq_self, Nat.reduceEqDiff, ↓reduceIte]
  have old : ∀ y, y ≠ x → hs_A s1 35 y = hs_A s 35 y := fun y hy => by rw [hs1]; simp only [hs_I_pI, hs_I_pA, hs_A_pI, hs_A_pA, and_true, true_and, and_false, false_and, and_self, eq_self, Nat.reduceEqDiff, ↓reduceIte, hy]
  have o36 : ∀ i, hs_A s1 36 i = hs_A s 36 i := fun i => by rw [hs1]; simp only [hs_I_pI, hs_I_pA, hs_A_pI, hs_A_pA, and_true, true_and, and_false, false_and, and_self, eq_self, Nat.reduceEqDiff, ↓reduceIte]
  rw [hv] at a1 a2
  -- without another one in the queue
  have stay : ¬ (trq A ρ x ∧ v = 0) → KQ s1 A R ρ g w (fup mk x v) rm iq qf ps := by
    intro hn
    refine ⟨fun y hy => ?_, fun i hi => by rw [o36]; exact k2 i hi, k3, k4, k5⟩
    by_cases c : y = x
    · subst c
      rw [fup_eq]
      exact ⟨m1, by omega, a3, a4, ⟨fun q => by omega, fun q => absurd q hn⟩, a6, a7⟩
    · rw [fup_ne c, old y c]; exact k1 y hy
  by_cases tr : trq A ρ x
  · have tr0 : ρ x = x ∧ 3 ≤ ash A x := tr
    rw [if_pos tr0] at hp
    by_cases v0 : v = 0
    · subst v0
      obtain ⟨s2, hs2⟩ : ∃ s2, s2 = hs_pA s1 36 w (nI x) := ⟨_, rfl⟩
      have wl : w < 10002 := by omega
      refine ⟨s2, w + 1, fup iq x 1, fup qf w x, fup ps x w, ?_, ?_, ⟨fun y hy => ?_, fun i hi => ?_, by omega, ?_, fun y hy h1 c hc htc hu => ?_⟩, by omega, fun i hi => fup_ne (by omega), fun y hy h1 => ?_⟩
      · unfold f_C_X9_loseUse_31
        simp (disch := omega) only [↓reduceIte, z_lit, z_m1, z_gd, z_le, z_lt, z_eq, z_em, z_me, z_ml, z_mle, z_lm, z_lem, z_pos, z_sub, nI_add, nI_clamp, ib_nI, pm_let, pm_bd, pm_b1, if_true, if_false, ite_true, ite_false, Nat.not_lt_zero, Nat.zero_le, C_mk31 u1 u2 hx, a1, C_sm31 u1 u2 hx, Nat.zero_add, Nat.add_sub_cancel]
        rw [← hs1]
        simp (disch := omega) only [↓reduceIte, z_lit, z_m1, z_gd, z_le, z_lt, z_eq, z_em, z_me, z_ml, z_mle, z_lm, z_lem, z_pos, z_sub, nI_add, nI_clamp, ib_nI, pm_let, pm_bd, pm_b1, if_true, if_false, ite_true, ite_false, Nat.not_lt_zero, Nat.zero_le, C_k31 e1 u2 hx, hp, C_mk31 e1 u2 hx, m1, wl]
        rw [← hs2]
        simp
      · rw [hs2]; exact f1.cons (hs_fr_pA (by decide))
      · have e35 : ∀ z, hs_A s2 35 z = hs_A s1 35 z := fun z => by rw [hs2]; simp only [hs_I_pI, hs_I_pA, hs_A_pI, hs_A_pA, and_true, true_and, and_false, false_and, and_self, eq_self, Nat.reduceEqDiff, ↓reduceIte]
        by_cases c : y = x
        · subst c
          rw [fup_eq, fup_eq, fup_eq, fup_eq, e35]
          refine ⟨m1, by omega, by omega, a4, ⟨fun _ => ⟨tr, rfl⟩, fun _ => rfl⟩, fun _ => ⟨by omega, rfl⟩, ⟨fun q => ?_, fun q => by omega⟩⟩
          have := a7.mp q
          omega
        · obtain ⟨b1, b2, b3, b4, b5, b6, b7⟩ := k1 y hy
          rw [fup_ne c, fup_ne c, fup_ne c, e35, old y c]
          refine ⟨b1, b2, b3, b4, b5, fun q => ?_, b7⟩
          obtain ⟨d1, d2⟩ := b6 q
          exact ⟨by omega, by rw [fup_ne (by omega)]; exact d2⟩
      · rw [hs2]
        by_cases c : i = w
        · subst c
          rw [fup_eq, fup_eq, fup_eq]
          refine ⟨hx, by simp only [hs_I_pI, hs_I_pA, hs_A_pI, hs_A_pA, and_true, true_and, and_false, false_and, and_self, eq_self, Nat.reduceEqDiff, ↓reduceIte], rfl, rfl⟩
        · obtain ⟨d1, d2, d3, d4⟩ := k2 i (by omega)
          have ne : qf i ≠ x := fun q => by rw [q] at d3; omega
          rw [fup_ne c, fup_ne ne, fup_ne ne]
          simp only [hs_I_pI, hs_I_pA, hs_A_pI, hs_A_pA, and_true, true_and, and_false, false_and, and_self, eq_self, Nat.reduceEqDiff, ↓reduceIte, c]
          rw [o36]
          exact ⟨d1, d2, d3, d4⟩
      · rw [k4]
        refine (cn_up (x := x) R hx nq ?_ (fun y hy hy2 => ?_)).symm
        · exact fup_eq
        · exact (fup_ne hy2).symm
      · by_cases c2 : y = x
        · subst c2
          have r1 := hall rfl tr c hc htc hu
          obtain ⟨-, -, -, -, -, b6, b7⟩ := k1 c hc
          obtain ⟨q1, q2⟩ := b7.mp r1
          have ne : c ≠ y := fun q => by rw [q] at q1; omega
          rw [fup_eq, fup_ne ne]
          exact ⟨r1, by omega⟩
        · rw [fup_ne c2] at h1
          obtain ⟨q1, q2⟩ := k5 y hy h1 c hc htc hu
          have i1 := ((k1 c hc).2.2.2.2.2.2.mp q1).1
          have ne : c ≠ x := fun q => by rw [q] at i1; omega
          rw [fup_ne c2, fup_ne ne]
          exact ⟨q1, q2⟩
      · have ne : y ≠ x := fun q => by rw [q] at h1; omega
        rw [fup_ne ne, fup_ne ne]
        exact ⟨h1, rfl⟩
    · refine ⟨s1, w, iq, qf, ps, ?_, f1, stay (fun q => v0 q.2), Nat.le_refl _, fun _ _ => rfl, fun _ _ q => ⟨q, rfl⟩⟩
      unfold f_C_X9_loseUse_31
      simp (disch := omega) only [↓reduceIte, z_lit, z_m1, z_gd, z_le, z_lt, z_eq, z_em, z_me, z_ml, z_mle, z_lm, z_lem, z_pos, z_sub, nI_add, nI_clamp, ib_nI, pm_let, pm_bd, pm_b1, if_true, if_false, ite_true, ite_false, Nat.not_lt_zero, Nat.zero_le, C_mk31 u1 u2 hx, a1, C_sm31 u1 u2 hx, Nat.add_sub_cancel]
      rw [← hs1]
      simp (disch := omega) only [↓reduceIte, z_lit, z_m1, z_gd, z_le, z_lt, z_eq, z_em, z_me, z_ml, z_mle, z_lm, z_lem, z_pos, z_sub, nI_add, nI_clamp, ib_nI, pm_let, pm_bd, pm_b1, if_true, if_false, ite_true, ite_false, Nat.not_lt_zero, Nat.zero_le, C_k31 e1 u2 hx, hp, C_mk31 e1 u2 hx, m1, v0]
      simp
  · have tr' : ¬ (ρ x = x ∧ 3 ≤ ash A x) := tr
    rw [if_neg tr'] at hp
    refine ⟨s1, w, iq, qf, ps, ?_, f1, stay (fun q => tr q.1), Nat.le_refl _, fun _ _ => rfl, fun _ _ q => ⟨q, rfl⟩⟩
    unfold f_C_X9_loseUse_31
    simp (disch := omega) only [↓reduceIte, z_lit, z_m1, z_gd, z_le, z_lt, z_eq, z_em, z_me, z_ml, z_mle, z_lm, z_lem, z_pos, z_sub, nI_add, nI_clamp, ib_nI, pm_let, pm_bd, pm_b1, if_true, if_false, ite_true, ite_false, Nat.not_lt_zero, Nat.zero_le, C_mk31 u1 u2 hx, a1, C_sm31 u1 u2 hx, Nat.add_sub_cancel]
    rw [← hs1]
    simp (disch := omega) only [↓reduceIte, z_lit, z_m1, z_gd, z_le, z_lt, z_eq, z_em, z_me, z_ml, z_mle, z_lm, z_lem, z_pos, z_sub, nI_add, nI_clamp, ib_nI, pm_let, pm_bd, pm_b1, if_true, if_false, ite_true, ite_false, Nat.not_lt_zero, Nat.zero_le, C_k31 e1 u2 hx, hp]
