def sU (t : TT) (s : hp_S) : hp_S := hs_pI (hs_pI (hs_pA (hs_pA (hs_pA (hs_pI (hs_pI s 26 6 (nI 0)) 26 7 (nI 0)) 27 0 nM) 28 0 (nI 0)) 29 0 nM) 26 6 (nI 1)) 26 7 (nI (sl t (tq t)))
def mU (t : TT) (m : hp_S) : hp_S := hs_pI (hs_pA (hs_pA (hs_pI (hs_pI m 0 32 (nI 0)) 0 28 (nI 1)) 20 0 nM) 22 0 (nI 0)) 0 32 (nI (sl t (tq t)))
theorem C_addG {s m s1 : hp_S} {t : TT} {i v : Nat} (h : TRt s m t) (f : hs_fr uP uA s s1) (h6 : hs_I s1 26 6 = nI i) (hi : i < 2000) (h7 : hs_I s1 26 7 = nI v) (hv : v < 100) : f_C_X1_add_26 nM nM s1 = some (nI 1, hs_pI (hs_pI (hs_pA (hs_pA (hs_pA s1 27 i nM) 28 i (nI v)) 29 i nM) 26 6 (nI (i + 1))) 26 7 (nI (v + sl t (tq t)))) := by
  have q1 := h.1
  have f1 := sl_b h (Nat.le_refl (tq t))
  have f0 : tfb t 0 = 0 := h.2.2.2.2.2.2.1.1
  have s0 : sl t 0 = 0 := by unfold sl; rw [f0]
  obtain ⟨s4, hs4⟩ : ∃ s4, s4 = hs_pI (hs_pA (hs_pA (hs_pA s1 27 i nM) 28 i (nI v)) 29 i nM) 26 6 (nI (i + 1)) := ⟨_, rfl⟩
  have e6 : hs_I s4 26 6 = nI (i + 1) := by rw [hs4]; simp only [hs_I_pI, hs_I_pA, hs_A_pI, hs_A_pA, and_true, true_and, and_false, false_and, and_self, eq_self, Nat.reduceEqDiff, ↓reduceIte]
  have e27 : hs_A s4 27 i = nM := by rw [hs4]; simp only [hs_I_pI, hs_I_pA, hs_A_pI, hs_A_pA, and_true, true_and, and_false, false_and, and_self, eq_self, Nat.reduceEqDiff, ↓reduceIte]
  have e24 : ∀ k, k ≤ tq t → hs_A s4 24 k = nI (sl t k) := fun k hk => by rw [hs4]; simp only [hs_I_pI, hs_I_pA, hs_A_pI, hs_A_pA, and_true, true_and, and_false, false_and, and_self, eq_self, Nat.reduceEqDiff, ↓reduceIte]; rw [f.2 24 (by decide)]; exact TR_sl h hk
  have e16 : hs_I s4 16 4 = nI (tq t) := by rw [hs4]; simp only [hs_I_pI, hs_I_pA, hs_A_pI, hs_A_pA, and_true, true_and, and_false, false_and, and_self, eq_self, Nat.reduceEqDiff, ↓reduceIte]; rw [f.1 16 4 (by decide)]; exact h.2.1
  have ec := C_isCopy e6 (show i < i + 1 by omega) (by omega)
  have ee : f_C_X1_endNode_26 (nI i) s4 = some (nI (tq t), s4) := by
    unfold f_C_X1_endNode_26 f_C_X7_size_16
    simp (disch := omega) only [↓reduceIte, z_lit, z_m1, z_gd, z_le, z_lt, z_eq, z_em, z_me, z_ml, z_mle, z_lm, z_lem, z_pos, z_sub, nI_add, nI_clamp, ib_nI, pm_let, pm_bd, pm_b1, if_true, if_false, ite_true, ite_false, Nat.not_lt_zero, Nat.zero_le, ec, e27, e16]
    all_goals simp
  have em : nM + nI 1 = nI 0 := by decide
  have ef : f_C_X1_firstNode_26 (nI i) s4 = some (nI 0, s4) := by
    unfold f_C_X1_firstNode_26
    simp (disch := omega) only [↓reduceIte, z_lit, z_m1, z_gd, z_le, z_lt, z_eq, z_em, z_me, z_ml, z_mle, z_lm, z_lem, z_pos, z_sub, nI_add, nI_clamp, ib_nI, pm_let, pm_bd, pm_b1, if_true, if_false, ite_true, ite_false, Nat.not_lt_zero, Nat.zero_le, ec, e27, em]
    all_goals simp
  have es1 := C_slot (s := s4) (show tq t ≤ 100 by omega)
  have es2 := C_slot (s := s4) (show 0 ≤ 100 by omega)
  rw [e24 _ (Nat.le_refl _)] at es1
  rw [e24 0 (by omega), s0] at es2
  have e7 : hs_I s4 26 7 = nI v := by rw [hs4]; simp only [hs_I_pI, hs_I_pA, hs_A_pI, hs_A_pA, and_true, true_and, and_false, false_and, and_self, eq_self, Nat.reduceEqDiff, ↓reduceIte]; exact h7
  have c2 : ¬ 2000 < v + sl t (tq t) := by omega
  have es : nI (sl t (tq t)) - nI 0 = nI (sl t (tq t)) := z_sub (by omega) (by omega)
  unfold f_C_X1_add_26
  simp (disch := omega) only [↓reduceIte, z_lit, z_m1, z_gd, z_le, z_lt, z_eq, z_em, z_me, z_ml, z_mle, z_lm, z_lem, z_pos, z_sub, nI_add, nI_clamp, ib_nI, pm_let, pm_bd, pm_b1, if_true, if_false, ite_true, ite_false, Nat.not_lt_zero, Nat.zero_le, hs_I_pI, hs_I_pA, hs_A_pI, hs_A_pA, and_true, true_and, and_false, false_and, and_self, eq_self, Nat.reduceEqDiff, ↓reduceIte, h6, h7, hi, Nat.add_sub_cancel]
  rw [← hs4]
  simp (disch := omega) only [↓reduceIte, z_lit, z_m1, z_gd, z_le, z_lt, z_eq, z_em, z_me, z_ml, z_mle, z_lm, z_lem, z_pos, z_sub, nI_add, nI_clamp, ib_nI, pm_let, pm_bd, pm_b1, if_true, if_false, ite_true, ite_false, Nat.not_lt_zero, Nat.zero_le, hs_I_pI, hs_I_pA, hs_A_pI, hs_A_pA, and_true, true_and, and_false, false_and, and_self, eq_self, Nat.reduceEqDiff, ↓reduceIte, ee, es1, ef, es2, e7, e6, es, Nat.add_sub_cancel, Nat.sub_zero, c2]
theorem M_openG {s m m3 : hp_S} {t : TT} {i v F : Nat} (h : TRt s m t) (f : hs_fr vP vA m m3) (hi : i < 2001) (hi0 : (i = 0) = True) (h32 : hs_I m3 0 32 = nI v) (hv : v < 100) : f_M_X11_open_0 F (nI i) m3 = some (hs_pI (hs_pA m3 22 i (nI v)) 0 32 (nI (v + sl t (tq t)))) := by
  have q1 := h.1
  have f1 := sl_b h (Nat.le_refl (tq t))
  have f0 : tfb t 0 = 0 := h.2.2.2.2.2.2.1.1
  have e12 : hs_I m3 0 12 = nI (tq t) := by rw [f.1 0 12 (by decide)]; exact h.2.2.1
  have e18 : ∀ k, k ≤ tq t → hs_A m3 18 k = nI (tfb t k) := fun k hk => by rw [f.2 18 (by decide)]; exact (h.2.2.2.2.2.2.1.2.2 k hk).2
  have f1' := e18 _ (Nat.le_refl _)
  have f2' := e18 0 (by omega)
  rw [f0] at f2'
  have el : f_M_X11_low_0 F (nI i) m3 = some (nI 0, m3) := by
    unfold f_M_X11_low_0
    simp (disch := omega) only [↓reduceIte, z_lit, z_m1, z_gd, z_le, z_lt, z_eq, z_em, z_me, z_ml, z_mle, z_lm, z_lem, z_pos, z_sub, nI_add, nI_clamp, ib_nI, pm_let, pm_bd, pm_b1, if_true, if_false, ite_true, ite_false, Nat.not_lt_zero, Nat.zero_le, hi0]
  have eh : f_M_X11_high_0 F (nI i) m3 = some (nI (tq t), m3) := by
    unfold f_M_X11_high_0
    simp (disch := omega) only [↓reduceIte, z_lit, z_m1, z_gd, z_le, z_lt, z_eq, z_em, z_me, z_ml, z_mle, z_lm, z_lem, z_pos, z_sub, nI_add, nI_clamp, ib_nI, pm_let, pm_bd, pm_b1, if_true, if_false, ite_true, ite_false, Nat.not_lt_zero, Nat.zero_le, e12, hi0]
  unfold f_M_X11_open_0
  simp (disch := omega) only [↓reduceIte, z_lit, z_m1, z_gd, z_le, z_lt, z_eq, z_em, z_me, z_ml, z_mle, z_lm, z_lem, z_pos, z_sub, nI_add, nI_clamp, ib_nI, pm_let, pm_bd, pm_b1, if_true, if_false, ite_true, ite_false, Nat.not_lt_zero, Nat.zero_le, hs_I_pI, hs_I_pA, hs_A_pI, hs_A_pA, and_true, true_and, and_false, false_and, and_self, eq_self, Nat.reduceEqDiff, ↓reduceIte, el, eh, h32, f1', f2']
  rw [show v + (tq t - 0 + tfb t (tq t) - 0) = v + sl t (tq t) by unfold sl; omega]
theorem UNFOLD {s m : hp_S} {t : TT} (h : TRt s m t) : ∃ b s' m', (∀ F, 8000 ≤ F → f_C_X1_unfold_26 F s = some (nI b, s')) ∧ (∀ F, 8000 ≤ F → f_M_X11_expand_0 F m = some (nI b, m')) ∧ hs_fr uP uA s s' ∧ hs_fr vP vA m m' ∧ (b = 0 ∨ (b = 1 ∧ ∃ g z V, UD s' m' t g z V)) := by
  have q1 := h.1
  have f1 := sl_b h (Nat.le_refl (tq t))
  have f0 : tfb t 0 = 0 := h.2.2.2.2.2.2.1.1
  have fs : hs_fr uP uA s (sU t s) := by
    unfold sU
    exact (((hs_fr_pI (by decide)).cons (hs_fr_pI (by decide))).cons ((hs_fr_pA (by decide)).cons (hs_fr_pA (by decide)))).cons ((hs_fr_pA (by decide)).cons ((hs_fr_pI (by decide)).cons (hs_fr_pI (by decide))))
  have fm : hs_fr vP vA m (mU t m) := by
    unfold mU
    exact ((hs_fr_pI (by decide)).cons (hs_fr_pI (by decide))).cons ((hs_fr_pA (by decide)).cons ((hs_fr_pA (by decide)).cons (hs_fr_pI (by decide))))
  have h1 : TRt (sU t s) (mU t m) t := TRt_u h fs fm
  obtain ⟨g, hg⟩ : ∃ g : GG, g = (fun _ => 0, fun _ => 0, fun c => if c = 0 then 0 else sl t (tq t), fun _ => 1) := ⟨_, rfl⟩
  have g0 : gb g 0 = 0 := by rw [hg]; rfl
  have g1 : gb g 1 = sl t (tq t) := by rw [hg]; rfl
  have gu0 : ∀ c, gu g c = 1 := fun c => by rw [hg]; rfl
  have e0 : fn g 0 = 0 := by simp [fn]
  have e1 : en t g 0 = tq t := by simp [en]
  have s0 : sl t 0 = 0 := by unfold sl; rw [f0]
  have c1 : CP (sU t s) (mU t m) t g 1 (sl t (tq t)) := by
    refine ⟨⟨by omega, by omega, by omega, by omega⟩, ⟨?_, ?_, ?_, ?_⟩, ?_, fun c h1 h2 => by omega, fun c h1 => ?_, g0, g1⟩
    · simp only [sU, hs_I_pI, hs_I_pA, hs_A_pI, hs_A_pA, and_true, true_and, and_false, false_and, and_self, eq_self, Nat.reduceEqDiff, ↓reduceIte]
    · simp only [sU, hs_I_pI, hs_I_pA, hs_A_pI, hs_A_pA, and_true, true_and, and_false, false_and, and_self, eq_self, Nat.reduceEqDiff, ↓reduceIte]
    · simp only [mU, hs_I_pI, hs_I_pA, hs_A_pI, hs_A_pA, and_true, true_and, and_false, false_and, and_self, eq_self, Nat.reduceEqDiff, ↓reduceIte]
    · simp only [mU, hs_I_pI, hs_I_pA, hs_A_pI, hs_A_pA, and_true, true_and, and_false, false_and, and_self, eq_self, Nat.reduceEqDiff, ↓reduceIte]
    · simp only [sU, hs_I_pI, hs_I_pA, hs_A_pI, hs_A_pA, and_true, true_and, and_false, false_and, and_self, eq_self, Nat.reduceEqDiff, ↓reduceIte]
    · obtain rfl : c = 0 := by omega
      rw [g0, e0, e1, s0]
      simp only [sU, mU, hs_I_pI, hs_I_pA, hs_A_pI, hs_A_pA, and_true, true_and, and_false, false_and, and_self, eq_self, Nat.reduceEqDiff, ↓reduceIte]
      rw [g1]
      omega
  have U : UL (sU t s) (mU t m) t g 1 (sl t (tq t)) 0 (fn g 0) := by
    refine ⟨h1, c1, by omega, gu0 0, fun i hi => by omega, ⟨Nat.le_refl _, by rw [e0, e1]; omega⟩, ?_, fun c' k' a1 a2 a3 a4 => ?_⟩
    · unfold ui
      rw [gu0]
      omega
    · exfalso
      rw [e0] at a4
      omega
  obtain ⟨D, hD⟩ : ∃ D, D = 2000 := ⟨_, rfl⟩
  obtain ⟨b, s', m', r1, r2, r3, r4, r5⟩ := UN_out D _ _ g 1 (sl t (tq t)) 0 U (by omega)
  refine ⟨b, s', m', fun F hF => ?_, fun F hF => ?_, fs.cons r3, fm.cons r4, r5⟩
  · have ea := C_addG (s1 := hs_pI (hs_pI s 26 6 (nI 0)) 26 7 (nI 0)) (i := 0) (v := 0) h ((hs_fr_pI (by decide)).cons (hs_fr_pI (by decide))) (by simp only [hs_I_pI, hs_I_pA, hs_A_pI, hs_A_pA, and_true, true_and, and_false, false_and, and_self, eq_self, Nat.reduceEqDiff, ↓reduceIte]) (by omega) (by simp only [hs_I_pI, hs_I_pA, hs_A_pI, hs_A_pA, and_true, true_and, and_false, false_and, and_self, eq_self, Nat.reduceEqDiff, ↓reduceIte]) (by omega)
    rw [Nat.zero_add, Nat.zero_add] at ea
    unfold f_C_X1_unfold_26
    simp only [z_lit, z_m1, pm_let, ea, pm_bd]
    exact r1 F (by omega)
  · have eo := M_openG (m3 := hs_pA (hs_pI (hs_pI m 0 32 (nI 0)) 0 28 (nI 1)) 20 0 nM) (i := 0) (v := 0) (F := F) h (((hs_fr_pI (by decide)).cons (hs_fr_pI (by decide))).cons (hs_fr_pA (by decide))) (by omega) (by simp) (by simp only [hs_I_pI, hs_I_pA, hs_A_pI, hs_A_pA, and_true, true_and, and_false, false_and, and_self, eq_self, Nat.reduceEqDiff, ↓reduceIte]) (by omega)
    rw [Nat.zero_add] at eo
    have e1 : pm_ib (0 : Int32) 2001 = true := ib_nI (k := 0) (by omega) (by omega)
    have e2 : (0 : Int32).toNatClampNeg = 0 := rfl
    unfold f_M_X11_expand_0
    rw [e1, e2]
    simp only [z_lit, z_m1, pm_let, z_gd, eo, pm_b1]
    exact r2 F (by omega)
/-! class variables and the reference's: a permutation -/
theorem PERM1 {s m : hp_S} {t : TT} (h : TRt s m t) {lo hi : Nat} (hhi : hi ≤ tq t) : ∀ d, lo + d ≤ hi → ∃ σ τ : Nat → Nat, (∀ i, lo ≤ i → i < lo + d → σ (sl t i - sl t lo) = i - lo ∧ (tkd t i = 4 → σ (sl t i - sl t lo + 1) = (hi - lo) + (tfb t i - tfb t lo))) ∧ (∀ x, x < sl t (lo + d) - sl t lo → (σ x < d ∨ (hi - lo ≤ σ x ∧ σ x < (hi - lo) + (tfb t (lo + d) - tfb t lo))) ∧ τ (σ x) = x) ∧ ∀ y, (y < d ∨ (hi - lo ≤ y ∧ y < (hi - lo) + (tfb t (lo + d) - tfb t lo))) → τ y < sl t (lo + d) - sl t lo ∧ σ (τ y) = y := by
  intro d
  induction d with
  | zero =>
    intro hd
    refine ⟨id, id, fun i h1 h2 => by omega, fun x hx => ?_, fun y hy => ?_⟩
    · rw [Nat.add_zero] at hx; omega
    · rw [Nat.add_zero] at hy; omega
  | succ d ih =>
    intro hd
    obtain ⟨σ, τ, p1, p2, p3⟩ := ih (by omega)
    obtain ⟨b1, b2⟩ := TR_fb h d lo (by omega)
    have e := h.2.2.2.2.2.2.1.2.1 (lo + d) (by omega)
    have s1 : sl t (lo + d) - sl t lo = d + (tfb t (lo + d) - tfb t lo) := by unfold sl; omega
    obtain ⟨x0, hx0⟩ : ∃ x0, x0 = sl t (lo + d) - sl t lo := ⟨_, rfl⟩
    have low : ∀ i, lo ≤ i → i < lo + d → sl t i - sl t lo < x0 ∧ (tkd t i = 4 → sl t i - sl t lo + 1 < x0) := by
      intro i i1 i2
      have l1 := sl_lt h i2 (by omega)
      have l2 := sl_le h i1 (by omega)
      refine ⟨by omega, fun h4 => ?_⟩
      have e' := h.2.2.2.2.2.2.1.2.1 i (by omega)
      rw [if_pos h4] at e'
      have l3 := sl_le h (show i + 1 ≤ lo + d by omega) (by omega)
      unfold sl at l1 l2 l3 hx0 ⊢
      omega
    by_cases h4 : tkd t (lo + d) = 4
    · rw [if_pos h4] at e
      obtain ⟨y1, hy1⟩ : ∃ y1, y1 = (hi - lo) + (tfb t (lo + d) - tfb t lo) := ⟨_, rfl⟩
      have s2 : sl t (lo + (d + 1)) - sl t lo = x0 + 2 := by rw [← Nat.add_assoc]; unfold sl at hx0 ⊢; omega
      have s3 : tfb t (lo + (d + 1)) - tfb t lo = (tfb t (lo + d) - tfb t lo) + 1 := by rw [← Nat.add_assoc]; omega
      have ny : y1 ≠ d := by omega
      refine ⟨fup (fup σ x0 d) (x0 + 1) y1, fup (fup τ d x0) y1 (x0 + 1), fun i i1 i2 => ?_, fun x hx => ?_, fun y hy => ?_⟩
      · by_cases c : i = lo + d
        · subst c
          rw [← hx0]
          refine ⟨?_, fun _ => ?_⟩
          · rw [fup_ne (by omega), fup_eq]; omega
          · rw [fup_eq, hy1]
        · obtain ⟨l1, l2⟩ := low i i1 (by omega)
          refine ⟨?_, fun h4' => ?_⟩
          · rw [fup_ne (by omega), fup_ne (by omega)]; exact (p1 i i1 (by omega)).1
          · have := l2 h4'
            rw [fup_ne (by omega), fup_ne (by omega)]; exact (p1 i i1 (by omega)).2 h4'
      · rw [s2] at hx
        rw [s3]
        by_cases c1 : x = x0 + 1
        · subst c1
          rw [fup_eq, fup_eq]
          exact ⟨Or.inr (by omega), rfl⟩
        by_cases c2 : x = x0
        · subst c2
          rw [fup_ne (by omega), fup_eq, fup_ne (fun q => ny q.symm), fup_eq]
          exact ⟨Or.inl (by omega), rfl⟩
        · obtain ⟨a1, a2⟩ := p2 x (by omega)
          rw [fup_ne c1, fup_ne c2, fup_ne (by omega), fup_ne (by omega)]
          exact ⟨by omega, a2⟩
      · rw [s3] at hy
        rw [s2]
        by_cases c1 : y = y1
        · subst c1
          rw [fup_eq, fup_eq]
          exact ⟨by omega, rfl⟩
        by_cases c2 : y = d
        · subst c2
          rw [fup_ne c1, fup_eq, fup_ne (by omega), fup_eq]
          exact ⟨by omega, rfl⟩
        · obtain ⟨a1, a2⟩ := p3 y (by omega)
          rw [fup_ne c1, fup_ne c2, fup_ne (by omega), fup_ne (by omega)]
          exact ⟨by omega, a2⟩
    · rw [if_neg h4] at e
      have s2 : sl t (lo + (d + 1)) - sl t lo = x0 + 1 := by rw [← Nat.add_assoc]; unfold sl at hx0 ⊢; omega
      have s3 : tfb t (lo + (d + 1)) - tfb t lo = tfb t (lo + d) - tfb t lo := by rw [← Nat.add_assoc]; omega
      refine ⟨fup σ x0 d, fup τ d x0, fun i i1 i2 => ?_, fun x hx => ?_, fun y hy => ?_⟩
      · by_cases c : i = lo + d
        · subst c
          rw [← hx0]
          exact ⟨by rw [fup_eq]; omega, fun q => absurd q h4⟩
        · obtain ⟨l1, l2⟩ := low i i1 (by omega)
          refine ⟨?_, fun h4' => ?_⟩
          · rw [fup_ne (by omega)]; exact (p1 i i1 (by omega)).1
          · have := l2 h4'
            rw [fup_ne (by omega)]; exact (p1 i i1 (by omega)).2 h4'
      · rw [s2] at hx
        rw [s3]
        by_cases c2 : x = x0
        · subst c2
          rw [fup_eq, fup_eq]
          exact ⟨Or.inl (by omega), rfl⟩
        · obtain ⟨a1, a2⟩ := p2 x (by omega)
          rw [fup_ne c2, fup_ne (by omega)]
          exact ⟨by omega, a2⟩
      · rw [s3] at hy
        rw [s2]
        by_cases c2 : y = d
        · subst c2
          rw [fup_eq, fup_eq]
          exact ⟨by omega, rfl⟩
        · obtain ⟨a1, a2⟩ := p3 y (by omega)
          rw [fup_ne c2, fup_ne (by omega)]
          exact ⟨by omega, a2⟩
theorem PERM2 {s m : hp_S} {t : TT} {g : GG} {z V : Nat} (h : TRt s m t) (hc : CP s m t g z V) : ∀ n, n ≤ z → ∃ σ τ : Nat → Nat, (∀ x, x < gb g n → σ x < gb g n ∧ τ (σ x) = x) ∧ (∀ y, y < gb g n → τ y < gb g n ∧ σ (τ y) = y) ∧ ∀ c k, c < n → fn g c ≤ k → k < en t g c → σ (cv t g c k) = rv g c k ∧ (tkd t k = 4 → σ (cv t g c k + 1) = rn' t g c k) := by
  intro n
  induction n with
  | zero =>
    intro hn
    have := hc.2.2.2.2.2.1
    exact ⟨id, id, fun x hx => by omega, fun y hy => by omega, fun c k h1 => by omega⟩
  | succ n ih =>
    intro hn
    obtain ⟨σ, τ, p1, p2, p3⟩ := ih (by omega)
    obtain ⟨r1, r2⟩ := CP_rng h hc (show n < z by omega)
    obtain ⟨b1, b2⟩ := CP_bs h hc (show n < z by omega)
    obtain ⟨σ', τ', q1, q2, q3⟩ := PERM1 h (lo := fn g n) r2 (en t g n - fn g n) (by omega)
    rw [show fn g n + (en t g n - fn g n) = en t g n by omega] at q1 q2 q3
    have f1 := TR_fb h (en t g n - fn g n) (fn g n) (by omega)
    rw [show fn g n + (en t g n - fn g n) = en t g n by omega] at f1
    have sz : sl t (en t g n) - sl t (fn g n) = (en t g n - fn g n) + (tfb t (en t g n) - tfb t (fn g n)) := by unfold sl; omega
    refine ⟨fun x => if x < gb g n then σ x else gb g n + σ' (x - gb g n), fun y => if y < gb g n then τ y else gb g n + τ' (y - gb g n), fun x hx => ?_, fun y hy => ?_, fun c k c1 c2 c3 => ?_⟩
    · by_cases c : x < gb g n
      · obtain ⟨a1, a2⟩ := p1 x c
        simp only [if_pos c, if_pos a1]
        exact ⟨by omega, a2⟩
      · obtain ⟨a1, a2⟩ := q2 (x - gb g n) (by omega)
        have n1 : ¬ gb g n + σ' (x - gb g n) < gb g n := by omega
        simp only [if_neg c, if_neg n1, Nat.add_sub_cancel_left, a2]
        exact ⟨by omega, by omega⟩
    · by_cases c : y < gb g n
      · obtain ⟨a1, a2⟩ := p2 y c
        simp only [if_pos c, if_pos a1]
        exact ⟨by omega, a2⟩
      · obtain ⟨a1, a2⟩ := q3 (y - gb g n) (by omega)
        have n1 : ¬ gb g n + τ' (y - gb g n) < gb g n := by omega
        simp only [if_neg c, if_neg n1, Nat.add_sub_cancel_left, a2]
        exact ⟨by omega, by omega⟩
    · obtain ⟨v1, v2, v3, v4, v5, v6⟩ := cv_in h hc (show c < z by omega) c2 c3
      by_cases cn : c = n
      · subst cn
        obtain ⟨a1, a2⟩ := q1 k c2 c3
        have n1 : ¬ cv t g c k < gb g c := by omega
        have n2 : ¬ cv t g c k + 1 < gb g c := by omega
        have fk := TR_fb h (k - fn g c) (fn g c) (by omega)
        rw [show fn g c + (k - fn g c) = k by omega] at fk
        refine ⟨?_, fun h4 => ?_⟩
        · simp only [if_neg n1]
          rw [v1, Nat.add_sub_cancel_left, a1]
          unfold rv
          omega
        · simp only [if_neg n2]
          rw [show cv t g c k + 1 - gb g c = sl t k - sl t (fn g c) + 1 by omega, a2 h4]
          unfold rn'
          omega
      · have mo := CP_mono h hc (n - (c + 1)) (c + 1) (by omega)
        rw [show c + 1 + (n - (c + 1)) = n by omega] at mo
        obtain ⟨a1, a2⟩ := p3 c k (by omega) c2 c3
        refine ⟨?_, fun h4 => ?_⟩
        · simp only [if_pos (show cv t g c k < gb g n by omega)]
          exact a1
        · have := v6 h4
          simp only [if_pos (show cv t g c k + 1 < gb g n by omega)]
          exact a2 h4
def PM (t : TT) (g : GG) (z V : Nat) (σ τ : Nat → Nat) : Prop := (∀ x, τ (σ x) = x ∧ σ (τ x) = x) ∧ (∀ x, (σ x < V ↔ x < V)) ∧ (∀ x, V ≤ x → σ x = x) ∧ ∀ c k, c < z → fn g c ≤ k → k < en t g c → σ (cv t g c k) = rv g c k ∧ (tkd t k = 4 → σ (cv t g c k + 1) = rn' t g c k)
theorem PERM {s m : hp_S} {t : TT} {g : GG} {z V : Nat} (h : TRt s m t) (hc : CP s m t g z V) : ∃ σ τ, PM t g z V σ τ := by
  obtain ⟨σ, τ, p1, p2, p3⟩ := PERM2 h hc z (Nat.le_refl _)
  rw [hc.2.2.2.2.2.2] at p1 p2
  refine ⟨fun x => if x < V then σ x else x, fun x => if x < V then τ x else x, fun x => ⟨?_, ?_⟩, fun x => ?_, fun x hx => ?_, fun c k c1 c2 c3 => ?_⟩
  · by_cases c : x < V
    · simp only [if_pos c, if_pos (p1 x c).1]; exact (p1 x c).2
    · simp only [if_neg c]
  · by_cases c : x < V
    · simp only [if_pos c, if_pos (p2 x c).1]; exact (p2 x c).2
    · simp only [if_neg c]
  · by_cases c : x < V
    · simp only [if_pos c]; exact ⟨fun _ => c, fun _ => (p1 x c).1⟩
    · simp only [if_neg c]
  · simp only [if_neg (show ¬ x < V by omega)]
  · obtain ⟨v1, v2, v3, v4, v5, v6⟩ := cv_in h hc c1 c2 c3
    obtain ⟨a1, a2⟩ := p3 c k c1 c2 c3
    refine ⟨?_, fun h4 => ?_⟩
    · simp only [if_pos (show cv t g c k < V by omega)]; exact a1
    · have := v6 h4
      simp only [if_pos (show cv t g c k + 1 < V by omega)]; exact a2 h4
