/-! ATOMS, all of them -/
theorem C_name {k : Nat} {T : Nat → Nat} {n K p q z : Nat} {sc : Nat → Nat} {s : hp_S} (hk : 600 ≤ k) (h1 : C_T s T n K) (hp : p < K) (hb : f_C_X4_beginNode_7 (nI 2) nM s = some (nI p, cN s p q (nI 2) nM)) (hS : SCp s z sc p) : f_C_X4_name_7 k s = some (nI p, if lkp T n sc p z = nM ∧ hs_I s 7 8 = nM then hs_pI (hs_pA (cN s p q (nI 2) nM) 13 p (lkp T n sc p z)) 7 8 (nI p) else hs_pA (cN s p q (nI 2) nM) 13 p (lkp T n sc p z)) := by
  have hK := h1.2.2.1
  have hC : C_T (cN s p q (nI 2) nM) T n K := C_T_fr h1 CF_cN (by decide)
  have hS2 : SCp (cN s p q (nI 2) nM) z sc (p + 1) := SCp_cN hS
  have e8 : hs_I (cN s p q (nI 2) nM) 7 8 = hs_I s 7 8 := by simp only [cN, cT, hs_I_pI, hs_I_pA, hs_A_pI, hs_A_pA, and_true, true_and, and_false, false_and, and_self, eq_self, Nat.reduceEqDiff, ↓reduceIte]
  have eb := C_binderOf (k := k) hC hp hS2.1 hS2.2.1 (fun i hi => ⟨(hS2.2.2 i hi).1, by have := (hS2.2.2 i hi).2; omega⟩) hk
  have hb' : f_C_X4_beginNode_7 2 (-1) s = some (nI p, cN s p q (nI 2) nM) := hb
  unfold f_C_X4_name_7
  rw [hb']
  simp only [pm_bd, eb, pm_b1, C_setMeaning (show p < 501 by omega), pm_let, hs_I_pA, e8]
  rw [show (-1 : Int32) = nM from rfl]
  by_cases c1 : lkp T n sc p z = nM
  · rw [if_pos c1]
    by_cases c2 : hs_I s 7 8 = nM
    · rw [if_pos c2, if_pos ⟨c1, c2⟩]
    · rw [if_neg c2, if_neg (fun g => c2 g.2)]
  · rw [if_neg c1, if_neg (fun g => c1 g.1)]
theorem C_name0 {k : Nat} {T : Nat → Nat} {n K p z : Nat} {sc : Nat → Nat} {s u : hp_S} (hk : 600 ≤ k) (h1 : C_T s T n K) (hp : p < K) (hb : f_C_X4_beginNode_7 (nI 2) nM s = some (nI p, u)) (hS : SCp s z sc p) (hu : hs_fr cP cA s u) (h4 : hs_I u 7 4 = hs_I s 7 4) (h15 : ∀ i, hs_A u 15 i = hs_A s 15 i) : ∃ u', f_C_X4_name_7 k s = some (nI p, u') ∧ Dr u u' := by
  have hK := h1.2.2.1
  have hC : C_T u T n K := C_T_fr h1 hu (by decide)
  have eb := C_binderOf (k := k) hC hp hS.1 (h4.trans hS.2.1) (fun i hi => ⟨(h15 i).trans (hS.2.2 i hi).1, by have := (hS.2.2 i hi).2; omega⟩) hk
  have hb' : f_C_X4_beginNode_7 2 (-1) s = some (nI p, u) := hb
  have d1 : Dr u (hs_pA u 13 p (lkp T n sc p z)) := ⟨hs_fr_pA (by decide), rfl, rfl⟩
  have d2 : Dr u (hs_pI (hs_pA u 13 p (lkp T n sc p z)) 7 8 (nI p)) := ⟨(hs_fr_pA (by decide)).cons (hs_fr_pI (by decide)), by simp only [hs_I_pI, hs_I_pA, hs_A_pI, hs_A_pA, and_true, true_and, and_false, false_and, and_self, eq_self, Nat.reduceEqDiff, ↓reduceIte], by simp only [hs_I_pI, hs_I_pA, hs_A_pI, hs_A_pA, and_true, true_and, and_false, false_and, and_self, eq_self, Nat.reduceEqDiff, ↓reduceIte]⟩
  unfold f_C_X4_name_7
  rw [hb']
  simp only [pm_bd, eb, pm_b1, C_setMeaning (show p < 501 by omega), pm_let]
  by_cases c1 : lkp T n sc p z = -1
  · rw [if_pos c1]
    by_cases c2 : hs_I (hs_pA u 13 p (lkp T n sc p z)) 7 8 = -1
    · rw [if_pos c2]; exact ⟨_, rfl, d2⟩
    · rw [if_neg c2]; exact ⟨_, rfl, d1⟩
  · rw [if_neg c1]; exact ⟨_, rfl, d1⟩
theorem GF_mV {T : Nat → Nat} {n K : Nat} {m : hp_S} {p q : Nat} {k x : Int32} : hs_fr rP rA m (mV T n K m p q k x) := by
  unfold mV mS
  exact ((GF_mM.cons GF_mP).cons ((hs_fr_pA (by decide)).cons (hs_fr_pA (by decide)))).cons ((hs_fr_pI (by decide)).cons (hs_fr_pI (by decide)))
theorem A8_single {k N : Nat} {T : Nat → Nat} {n K d : Nat} {s m : hp_S} {p q z c : Nat} {sc : Nat → Nat} (hk : 2000 ≤ k) (hc : sgl c) (h : ST T n K s m p q z sc) (h23 : hs_I m 0 23 = nI d) (h55 : hs_I m 0 55 = nI 1) (hkd : tk_K T n K p = c) (a b e : Int32) :
    ∃ x s' m', f_C_rec k (N + 1) 8 a b e s = some (x, s') ∧ rn m m' ∧ hs_fr rP rA m m' ∧ (DE T n K s s' m' ∨ (AL T n K s m s' m' p q z sc d 2 x ∧ SF m m' d d)) := by
  obtain ⟨k1, k2, k3, k4, k5, k6, k7, k8, k9, k10, k11⟩ := sgl_k hc
  have hK := h.1.1.2.2.1
  have hp : p < K := tk_K_p (T := T) (n := n) (by omega)
  have cur := C_curN h.1
  rw [hkd] at cur
  have h6 : hs_I m 0 6 = nI (k_M c) := by have := h.1.2.2.2.2.2.1.2.2.2.1; rw [hkd] at this; exact this
  have hb : hs_I m 0 50 = nI 0 := h.1.2.2.2.2.2.1.2.2.1
  rw [rec_8]
  by_cases hq : q < 100
  · obtain ⟨e1, -, x, -, e2, hP⟩ := PQ_mk (f := nM) (v := nM) h.1 hp (by omega) hq k1 (Or.inl ⟨rfl, rfl⟩)
    have r1 : rn m (mV T n K m p q (nI (kn c)) x) := rn_atom hb h55 (fun F hF => M_atom1 hc h6 (by rw [← k2]; exact e2 F hF))
    by_cases c2 : c = 2
    · subst c2
      have en := C_name (k := k) (by omega) h.1.1 hp e1 h.2.2
      obtain ⟨y, hy⟩ : ∃ y, y = lkp T n sc p z := ⟨_, rfl⟩
      obtain ⟨s', hs'⟩ : ∃ s', s' = if lkp T n sc p z = nM ∧ hs_I s 7 8 = nM then hs_pI (hs_pA (cN s p q (nI 2) nM) 13 p (lkp T n sc p z)) 7 8 (nI p) else hs_pA (cN s p q (nI 2) nM) 13 p (lkp T n sc p z) := ⟨_, rfl⟩
      rw [← hs'] at en
      have s13 : ∀ t, hs_A s' 13 t = if t = p then lkp T n sc p z else hs_A (cN s p q (nI 2) nM) 13 t := by
        intro t
        rw [hs']
        split <;> simp only [hs_I_pI, hs_I_pA, hs_A_pI, hs_A_pA, and_true, true_and, and_false, false_and, and_self, eq_self, Nat.reduceEqDiff, ↓reduceIte]
      have s8 : hs_I s' 7 8 = if lkp T n sc p z = nM ∧ hs_I s 7 8 = nM then nI p else hs_I s 7 8 := by
        rw [hs']
        split
        · simp only [hs_I_pI, hs_I_pA, hs_A_pI, hs_A_pA, and_true, true_and, and_false, false_and, and_self, eq_self, Nat.reduceEqDiff, ↓reduceIte]
        · simp only [hs_I_pI, hs_I_pA, hs_A_pI, hs_A_pA, and_true, true_and, and_false, false_and, and_self, eq_self, Nat.reduceEqDiff, ↓reduceIte, cN, cT]
      have s13' : ∀ t, t ≠ p → hs_A s' 13 t = hs_A s 13 t := by
        intro t ht
        rw [s13, if_neg ht]
        simp only [cN, cT, hs_I_pI, hs_I_pA, hs_A_pI, hs_A_pA, and_true, true_and, and_false, false_and, and_self, eq_self, Nat.reduceEqDiff, ↓reduceIte, ht]
      have hfr : hs_fr [(7, 8)] [13] (cN s p q (nI 2) nM) s' := by
        rw [hs']
        split
        · exact (hs_fr_pA (by decide)).cons (hs_fr_pI (by decide))
        · exact hs_fr_pA (by decide)
      have hu : un s' (mV T n K m p q (nI (kn 2)) x) (q + 1) := by
        refine un_name (y := lkp T n sc p z) h.2.1 (p := p) (by omega) (fun j hj => (h.f hj).1) (fun j hj => ?_) ?_ ?_ (by rw [s13, if_pos rfl]) s8
        · have e1 : ¬ j = q := by omega
          refine ⟨by simp [mV, mS_A, hs_A_pI, e1], by simp [mV, mS_A, hs_A_pI, e1], s13' _ ?_⟩
          have := (h.f hj).1
          omega
        · simp [mV, mS_A, hs_A_pI]
        · simp [mV, mS_A, hs_A_pI]; rfl
      refine ⟨nI p, s', _, C_atom2 cur en, r1, GF_mV, Or.inr ?_⟩
      exact AL_single h.1 h.2.2 hc hkd hq hP hfr s13' hu (fun _ => by rw [s13, if_pos rfl]) h23
    · refine ⟨nI p, _, _, C_atom1 hc c2 cur e1, r1, GF_mV, Or.inr ?_⟩
      have hS := ST_mk (f := nM) (v := nM) h hp (by omega) hq k1 c2 (Or.inl ⟨rfl, rfl⟩)
      obtain ⟨-, -, x2, -, -, hS⟩ := hS
      refine AL_single h.1 h.2.2 hc hkd hq hP hs_fr.rf (fun t ht => by simp only [cN, cT, hs_I_pI, hs_I_pA, hs_A_pI, hs_A_pA, and_true, true_and, and_false, false_and, and_self, eq_self, Nat.reduceEqDiff, ↓reduceIte, ht]) ?_ (fun g => absurd g c2) h23
      refine un_id hS.2.1 rfl (fun j => ?_) (fun j => ?_) (fun t => rfl)
      · simp [mV, mS_A, mN_A, hs_A_pA, hs_A_pI]
      · simp [mV, mS_A, mN_A, hs_A_pA, hs_A_pI]
  · obtain ⟨⟨u, e1, D, u15⟩, -, e2⟩ := PQ_mk0 (nI c) nM (nI (k_M c)) h.1 hq
    have r1 : rn m (hs_pI (hs_pI (mB m) 0 56 (nI 100)) 0 55 (nI 2)) := rn_atom hb h55 (fun F hF => M_atom1 hc h6 (e2 F))
    have G1 : hs_fr rP rA m (hs_pI (hs_pI (mB m) 0 56 (nI 100)) 0 55 (nI 2)) := GF_mB.cons ((hs_fr_pI (by decide)).cons (hs_fr_pI (by decide)))
    have D2 := mB_F D (m' := hs_pI (hs_pI (mB m) 0 56 (nI 100)) 0 55 (nI 2)) ((hs_fr_pI (by decide)).cons (hs_fr_pI (by decide)))
    by_cases c2 : c = 2
    · subst c2
      obtain ⟨u', e3, d3⟩ := C_name0 (k := k) (by omega) h.1.1 hp e1 h.2.2 D.1 D.2.1 u15
      exact ⟨nI p, u', _, C_atom2 cur e3, r1, G1, Or.inl (D2.post d3)⟩
    · exact ⟨nI p, u, _, C_atom1 hc c2 cur e1, r1, G1, Or.inl D2⟩
theorem C_atomX {s s1 : hp_S} {k c : Nat} {R : Nat → Int32 → Int32 → Int32 → hp_S → Option (Int32 × hp_S)} {a : Int32} (hc : c = 0 ∨ c = 1 ∨ c = 4 ∨ c = 5 ∨ c = 6 ∨ c = 7 ∨ c = 8 ∨ c = 9 ∨ c = 15 ∨ c = 16 ∨ c = 18 ∨ c = 19 ∨ c = 20 ∨ c = 21) (hk : f_C_X4_current_7 s = some (nI c, s)) (h : f_C_X4_refuse_7 s = some s1) : f_C_X4_atom_7 R k a s = some (nM, s1) := by
  unfold f_C_X4_atom_7
  rcases hc with rfl | rfl | rfl | rfl | rfl | rfl | rfl | rfl | rfl | rfl | rfl | rfl | rfl | rfl
  all_goals (simp only [hk, pm_bd]; repeat rw [if_neg (by decide)])
  all_goals (first | rw [if_pos (by decide)] | skip)
  all_goals (simp only [h, pm_b1]; rfl)
theorem A8_other {k N : Nat} {T : Nat → Nat} {n K : Nat} {s m : hp_S} {p q z c : Nat} {sc : Nat → Nat} (hc : ¬ sgl c ∧ c ≠ 17) (h : ST T n K s m p q z sc) (h55 : hs_I m 0 55 = nI 1) (hkd : tk_K T n K p = c) (a b e : Int32) :
    ∃ x s' m', f_C_rec k (N + 1) 8 a b e s = some (x, s') ∧ rn m m' ∧ hs_fr rP rA m m' ∧ DE T n K s s' m' := by
  have hl := tk_K_lt T n K p
  rw [hkd] at hl
  have cur := C_curN h.1
  rw [hkd] at cur
  have h6 : hs_I m 0 6 = nI (k_M c) := by have := h.1.2.2.2.2.2.1.2.2.2.1; rw [hkd] at this; exact this
  have hb : hs_I m 0 50 = nI 0 := h.1.2.2.2.2.2.1.2.2.1
  have hl2 := k_M_lt hl
  have er : f_C_X4_refuse_7 s = some (cR s p) := by rw [C_ref h.1.2.2.2.2.1.2.2, h.1.2.2.2.2.1.1]; rfl
  obtain ⟨hc, h17⟩ := hc
  unfold sgl at hc
  refine ⟨nM, cR s p, mB m, ?_, rn_atom hb h55 (fun F hF => M_atomX h6 ?_ (by omega) hb), GF_mB, mB_DE h.1.2.2.2.2.2.1.2.2.2.2.1 h.1.2.2.1⟩
  · rw [rec_8]
    exact C_atomX (c := c) (by omega) cur er
  · simp only [List.mem_cons, List.not_mem_nil, or_false, not_or]
    have g : ∀ x, x < 22 → k_M c = k_M x → c = x := fun x hx hh => k_M_inj hl hx hh
    refine ⟨fun q => ?_, fun q => ?_, fun q => ?_, fun q => ?_, fun q => ?_, fun q => ?_, fun q => ?_, fun q => ?_⟩
    · have := g 2 (by omega) q; omega
    · have := g 3 (by omega) q; omega
    · have := g 10 (by omega) q; omega
    · have := g 11 (by omega) q; omega
    · have := g 12 (by omega) q; omega
    · have := g 13 (by omega) q; omega
    · have := g 14 (by omega) q; omega
    · have := g 17 (by omega) q; omega
theorem A8 {k L N : Nat} {T : Nat → Nat} {n K d : Nat} {s m : hp_S} {p q z : Nat} {sc : Nat → Nat} (hk : 2000 ≤ k) (hL : 5 ≤ L) (H : ∀ N, L ≤ N → EE k N T n K d) (hN : L + 3 ≤ N) (h : ST T n K s m p q z sc) (hz : z + 1 ≤ d) (hd : d ≤ 20) (h23 : hs_I m 0 23 = nI d) (h55 : hs_I m 0 55 = nI 1) (b c : Int32) :
    ∃ x s' m', f_C_rec k N 8 (nI d) b c s = some (x, s') ∧ rn m m' ∧ hs_fr rP rA m m' ∧ (DE T n K s s' m' ∨ (AL T n K s m s' m' p q z sc d 2 x ∧ SF m m' d d)) := by
  by_cases c1 : tk_K T n K p = 17
  · exact A8_open hk hL H hN h hz hd h23 h55 c1 b c
  obtain ⟨N, rfl⟩ : ∃ y, N = y + 1 := ⟨N - 1, by omega⟩
  by_cases c2 : sgl (tk_K T n K p)
  · exact A8_single hk c2 h h23 h55 rfl _ b c
  · obtain ⟨x, s', m', e1, e2, e3, e4⟩ := A8_other (k := k) (N := N) ⟨c2, c1⟩ h h55 rfl (nI d) b c
    exact ⟨x, s', m', e1, e2, e3, Or.inl e4⟩
