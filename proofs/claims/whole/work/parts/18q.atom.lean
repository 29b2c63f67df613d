/-! ATOMS -/
theorem mS_A (T : Nat → Nat) (n K : Nat) (m : hp_S) (p q : Nat) (k x : Int32) (b i : Nat) : hs_A (mS T n K m p q k x) b i = if b = 11 ∧ i = q then nI p else if b = 10 ∧ i = q then nI p else if b = 5 ∧ i = p then nI q else if b = 4 ∧ i = p then nI (tk_e T n p) else if b = 3 ∧ i = p then nI (tk_p T n p) else if (b = 9 ∨ b = 8 ∨ b = 7) ∧ i = q then nM else if b = 6 ∧ i = q then k else hs_A m b i := by
  simp only [mS, hs_A_pA, mP_A, mM, hs_A_pI]
  by_cases c : i = q
  · subst c
    by_cases c1 : b = 11
    · simp [c1]
    by_cases c2 : b = 9
    · simp [c2]
    by_cases c3 : b = 8
    · simp [c3]
    by_cases c4 : b = 7
    · simp [c4]
    simp [c1, c2, c3, c4]
  · simp [c]
theorem mS_I (T : Nat → Nat) (n K : Nat) (m : hp_S) (p q : Nat) (k x : Int32) (j : Nat) : hs_I (mS T n K m p q k x) 0 j = if j = 7 then nI (tk_p T n (p + 1)) else if j = 6 then nI (k_M (tk_K T n K (p + 1))) else if j = 5 then x else if j = 11 then nI (p + 1) else if j = 12 then nI (q + 1) else hs_I m 0 j := by
  simp only [mS, hs_I_pA, mP_I, mM, hs_I_pI, true_and]
theorem mS_fr {T : Nat → Nat} {n K : Nat} {m : hp_S} {p q : Nat} {k x v : Int32} : hs_fr [] [11] (hs_pA (hs_pA (mP T n K (mM m q k) p (nI q) x) 10 q (nI p)) 7 q v) (hs_pA (mS T n K m p q k x) 7 q v) := by
  refine ⟨fun a j _ => by simp only [mS, hs_I_pI, hs_I_pA, hs_A_pI, hs_A_pA, and_true, true_and, and_false, false_and, and_self, eq_self, Nat.reduceEqDiff, ↓reduceIte], fun a ha i => ?_⟩
  have : ¬ a = 11 := by simpa using ha
  simp only [mS, hs_A_pA, this, false_and, if_false]
theorem mS_fr0 {T : Nat → Nat} {n K : Nat} {m : hp_S} {p q : Nat} {k x : Int32} : hs_fr [] [11] (hs_pA (hs_pA (mP T n K (mM m q k) p (nI q) x) 10 q (nI p)) 7 q nM) (mS T n K m p q k x) := by
  refine ⟨fun a j _ => by simp only [mS, hs_I_pI, hs_I_pA, hs_A_pI, hs_A_pA, and_true, true_and, and_false, false_and, and_self, eq_self, Nat.reduceEqDiff, ↓reduceIte], fun a ha i => ?_⟩
  have : ¬ a = 11 := by simpa using ha
  simp only [mS, hs_A_pA, this, false_and, if_false, mP_A, mM, hs_A_pI]
  by_cases c : a = 7
  · subst c
    by_cases c2 : i = q <;> simp [c2]
  · simp [c]
def sgl (c : Nat) : Prop := c = 2 ∨ c = 3 ∨ c = 10 ∨ c = 11 ∨ c = 12 ∨ c = 13 ∨ c = 14
theorem sgl_k {c : Nat} (h : sgl c) : nk c ∧ kn c = k_M c ∧ ar c = 0 ∧ c ≠ 1 ∧ c ≠ 0 ∧ c ≠ 6 ∧ kn c ≠ 4 ∧ kn c ≠ 3 ∧ (c ≠ 2 → kn c ≠ 1) ∧ kn c < 40 ∧ c < 22 := by
  rcases h with rfl | rfl | rfl | rfl | rfl | rfl | rfl <;> exact ⟨by simp [nk], by decide⟩
/-- the reference behind a single token -/
def mV (T : Nat → Nat) (n K : Nat) (m : hp_S) (p q : Nat) (k x : Int32) : hp_S := hs_pI (hs_pI (mS T n K m p q k x) 0 56 (nI q)) 0 55 (nI 2)
theorem AL_single {T : Nat → Nat} {n K : Nat} {s m s' : hp_S} {p q z c d : Nat} {sc : Nat → Nat} {x : Int32} (h : PQ T n K s m p q) (hS : SCp s z sc p) (hc : sgl c) (hk : tk_K T n K p = c) (hq : q < 100)
    (hP : PQ T n K (cN s p q (nI c) nM) (hs_pA (hs_pA (mP T n K (mM m q (nI (kn c))) p (nI q) x) 10 q (nI p)) 7 q nM) (p + 1) (q + 1)) (hs : hs_fr [(7, 8)] [13] (cN s p q (nI c) nM) s') (h13 : ∀ t, t ≠ p → hs_A s' 13 t = hs_A s 13 t) (hu : un s' (mV T n K m p q (nI (kn c)) x) (q + 1)) (hn : c = 2 → hs_A s' 13 p = lkp T n sc p z) (hd : hs_I m 0 23 = nI d) :
    AL T n K s m s' (mV T n K m p q (nI (kn c)) x) p q z sc d 2 (nI p) ∧ SF m (mV T n K m p q (nI (kn c)) x) d d := by
  obtain ⟨k1, k2, k3, k4, k5, k6, k7, k8, k9, k10, k11⟩ := sgl_k hc
  have hp : p < K := tk_K_p (T := T) (n := n) (by omega)
  have hK := h.1.2.2.1
  have fq : fj (mV T n K m p q (nI (kn c)) x) q = p := fj_of (by simp only [mV, hs_A_pI, mS_A, hs_I_pI, hs_I_pA, hs_A_pI, hs_A_pA, and_true, true_and, and_false, false_and, and_self, eq_self, Nat.reduceEqDiff, ↓reduceIte]) (by omega)
  have e6 : hs_A (mV T n K m p q (nI (kn c)) x) 6 q = nI (kn c) := by simp only [mV, hs_A_pI, mS_A, hs_I_pI, hs_I_pA, hs_A_pI, hs_A_pA, and_true, true_and, and_false, false_and, and_self, eq_self, Nat.reduceEqDiff, ↓reduceIte]; simp
  have hB : ¬ isB (mV T n K m p q (nI (kn c)) x) q := by
    rintro (g | g)
    · rw [e6, nI_eq (by omega) (by omega)] at g; omega
    · rw [e6, nI_eq (by omega) (by omega)] at g; omega
  have S : SG T n K (mV T n K m p q (nI (kn c)) x) p q (p + 1) (q + 1) := by
    refine SG_join (SG_nil (p := p) (q := q) (by omega) (by omega)) (SG_nil (p := p + 1) (q := q + 1) (by omega) (by omega)) (SG_nil (p := p + 1) (q := q + 1) (by omega) (by omega)) (by omega) (by omega) (by omega) (by omega) (by omega) (by omega) (by omega) (by omega) (by omega) (by omega) ⟨fun e he => Or.inl ?_, c, k1, e6, fun e he => by omega⟩ (fun g => ?_) (fun g => absurd g hB) (fun t t1 t2 t3 => ?_)
    · simp only [mV, hs_A_pI, mS_A]
      have g1 : ¬ 7 + e = 11 := by omega
      have g2 : ¬ 7 + e = 10 := by omega
      have g3 : ¬ 7 + e = 5 := by omega
      have g4 : ¬ 7 + e = 4 := by omega
      have g5 : ¬ 7 + e = 3 := by omega
      have g6 : (7 + e = 9 ∨ 7 + e = 8 ∨ 7 + e = 7) := by omega
      simp only [g1, g2, g3, g4, g5, g6, false_and, if_false, and_self, if_true]
    · rw [e6, nI_eq (by omega) (by omega)] at g; omega
    · obtain rfl : t = p := by omega
      omega
  refine ⟨⟨p + 1, q + 1, q, by omega, ?_, hu, ?_, fun t ht => h13 t (by omega), ?_, ?_, ?_, ?_, ?_, by rw [fq], Nat.le_refl _, by omega, S, ?_⟩, ?_⟩
  · refine PQ_fr (P := [(7, 8)]) (A := [13]) (P' := [(0, 55), (0, 56)]) (A' := [11]) hP hs ?_ (by simp) (by simp)
    exact (mS_fr0.mono (by decide) (by decide)).cons ((hs_fr_pI (by decide)).cons (hs_fr_pI (by decide)))
  · exact SCp_fr (SCp_fr (P := [(7, 5), (7, 6)]) (A := [9, 10, 11, 12, 13, 14]) (p' := p + 1) hS (by
      unfold cN cT
      exact (((hs_fr_pI (by decide)).cons (hs_fr_pA (by decide))).cons ((hs_fr_pA (by decide)).cons (hs_fr_pA (by decide)))).cons (((hs_fr_pA (by decide)).cons (hs_fr_pA (by decide))).cons ((hs_fr_pA (by decide)).cons ((hs_fr_pA (by decide)).cons (hs_fr_pI (by decide)))))) (by decide) (by omega)) hs (by decide) (Nat.le_refl _)
  · exact CF_cN.cons (hs.mono (by decide) (by decide))
  · refine ⟨fun a j a1 a2 hj => ?_, fun t ht => ?_⟩
    · have : ¬ j = q := by omega
      have g3 : ¬ a = 5 := by omega
      have g4 : ¬ a = 4 := by omega
      have g5 : ¬ a = 3 := by omega
      simp only [mV, hs_A_pI, mS_A, this, and_false, if_false, g3, g4, g5, false_and]
    · have : ¬ t = p := by omega
      simp only [mV, hs_A_pI, mS_A, hs_I_pI, hs_I_pA, hs_A_pI, hs_A_pA, and_true, true_and, and_false, false_and, and_self, eq_self, Nat.reduceEqDiff, ↓reduceIte, this]
      simp
  · simp only [mV, hs_I_pI, mS_I, hs_I_pI, hs_I_pA, hs_A_pI, hs_A_pA, and_true, true_and, and_false, false_and, and_self, eq_self, Nat.reduceEqDiff, ↓reduceIte]; exact hd
  · simp only [mV, hs_I_pI, hs_I_pA, hs_A_pI, hs_A_pA, and_true, true_and, and_false, false_and, and_self, eq_self, Nat.reduceEqDiff, ↓reduceIte]
  · simp only [mV, hs_I_pI, hs_I_pA, hs_A_pI, hs_A_pA, and_true, true_and, and_false, false_and, and_self, eq_self, Nat.reduceEqDiff, ↓reduceIte]
  · by_cases c2 : c = 2
    · intro j j1 j2 hj
      obtain rfl : j = q := by omega
      refine Or.inr ⟨fun b b1 b2 b3 => ?_, ?_⟩
      · obtain rfl : b = j := by omega
        exact hB b3.1
      · rw [fq]; exact hn c2
    · exact NM_join (K := K) (SG_nil (p := p) (q := q) (by omega) (by omega)) (SG_nil (p := p + 1) (q := q + 1) (by omega) (by omega)) (SG_nil (p := p + 1) (q := q + 1) (by omega) (by omega)) (by omega) (by omega) (fun j j1 j2 => by omega) (fun j j1 j2 => by omega) (fun j j1 j2 => by omega) (by rw [e6]; intro g; rw [nI_eq (by omega) (by omega)] at g; exact k9 c2 g) hB
  · refine ⟨fun i _ => ?_, fun i _ => ?_⟩
    · simp only [mV, hs_A_pI, mS_A, hs_I_pI, hs_I_pA, hs_A_pI, hs_A_pA, and_true, true_and, and_false, false_and, and_self, eq_self, Nat.reduceEqDiff, ↓reduceIte]; simp
    · simp only [mV, hs_A_pI, mS_A, hs_I_pI, hs_I_pA, hs_A_pI, hs_A_pA, and_true, true_and, and_false, false_and, and_self, eq_self, Nat.reduceEqDiff, ↓reduceIte]; simp
theorem mB_F {T : Nat → Nat} {n K : Nat} {s m : hp_S} {u m' : hp_S} (h : DE T n K s u (mB m)) (f : hs_fr [(0, 55), (0, 56), (0, 12)] [7, 8, 12] (mB m) m') : DE T n K s u m' := by
  obtain ⟨h1, h2, t, h3, h4, h5, h6⟩ := h
  exact ⟨h1, h2, t, h3, h4, by rw [f.1 _ _ (by decide)]; exact h5, by rw [f.1 _ _ (by decide)]; exact h6⟩
/-- the reference's atom of a single token -/
theorem M_atom1 {F c : Nat} {m m1 : hp_S} {x : Int32} (hc : sgl c) (h6 : hs_I m 0 6 = nI (k_M c)) (h : f_M_X11_single_0 F (nI (k_M c)) m = some (x, m1)) : f_M_X11_atom_0 F m = some (hs_pI (hs_pI m1 0 56 x) 0 55 (nI 2)) := by
  unfold f_M_X11_atom_0
  rcases hc with rfl | rfl | rfl | rfl | rfl | rfl | rfl
  all_goals (simp only [show k_M 2 = 1 from rfl, show k_M 3 = 2 from rfl, show k_M 10 = 9 from rfl, show k_M 11 = 10 from rfl, show k_M 12 = 11 from rfl, show k_M 13 = 12 from rfl, show k_M 14 = 13 from rfl] at h6 h; simp (disch := omega) only [↓reduceIte, z_lit, z_m1, z_gd, z_le, z_lt, z_eq, z_em, z_me, z_ml, z_mle, z_lm, z_lem, z_pos, z_sub, nI_add, nI_clamp, ib_nI, pm_let, pm_bd, pm_b1, if_true, if_false, ite_true, ite_false, Nat.not_lt_zero, Nat.zero_le, h6, M_need1, h]; all_goals simp)
theorem C_atom1 {s : hp_S} {k c : Nat} {R : Nat → Int32 → Int32 → Int32 → hp_S → Option (Int32 × hp_S)} {a x : Int32} {s1 : hp_S} (hc : sgl c) (h2 : c ≠ 2) (hk : f_C_X4_current_7 s = some (nI c, s)) (h : f_C_X4_beginNode_7 (nI c) nM s = some (x, s1)) : f_C_X4_atom_7 R k a s = some (x, s1) := by
  unfold f_C_X4_atom_7
  rcases hc with rfl | rfl | rfl | rfl | rfl | rfl | rfl
  · exact absurd rfl h2
  all_goals (simp (disch := omega) only [↓reduceIte, z_lit, z_m1, z_gd, z_le, z_lt, z_eq, z_em, z_me, z_ml, z_mle, z_lm, z_lem, z_pos, z_sub, nI_add, nI_clamp, ib_nI, pm_let, pm_bd, pm_b1, if_true, if_false, ite_true, ite_false, Nat.not_lt_zero, Nat.zero_le, hk, h]; all_goals simp)
theorem C_atom2 {s : hp_S} {k : Nat} {R : Nat → Int32 → Int32 → Int32 → hp_S → Option (Int32 × hp_S)} {a x : Int32} {s1 : hp_S} (hk : f_C_X4_current_7 s = some (nI 2, s)) (h : f_C_X4_name_7 k s = some (x, s1)) : f_C_X4_atom_7 R k a s = some (x, s1) := by
  unfold f_C_X4_atom_7
  simp (disch := omega) only [↓reduceIte, z_lit, z_m1, z_gd, z_le, z_lt, z_eq, z_em, z_me, z_ml, z_mle, z_lm, z_lem, z_pos, z_sub, nI_add, nI_clamp, ib_nI, pm_let, pm_bd, pm_b1, if_true, if_false, ite_true, ite_false, Nat.not_lt_zero, Nat.zero_le, hk, h]
