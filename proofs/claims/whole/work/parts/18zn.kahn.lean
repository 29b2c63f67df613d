/-! the queue's run -/
theorem cn_pos {f : Nat → Nat} : ∀ n c, c < n → f c ≤ cn f n
  | 0, c, h => by omega
  | n + 1, c, h => by
    simp only [cn]
    by_cases e : c = n
    · subst e; omega
    · have := cn_pos (f := f) n c (by omega)
      omega
theorem cn_eq {f g : Nat → Nat} : ∀ n, (∀ x, x < n → f x ≤ g x) → cn f n = cn g n → ∀ x, x < n → f x = g x
  | 0, _, _, x, hx => by omega
  | n + 1, h, e, x, hx => by
    have h1 := cn_mono n (fun x hx => h x (by omega))
    have h2 := h n (by omega)
    simp only [cn] at e
    by_cases c : x = n
    · subst c; omega
    · exact cn_eq n (fun x hx => h x (by omega)) (by omega) x (by omega)
theorem cn_rm {f g : Nat → Nat} {c k : Nat} : ∀ n, c < n → f c = k → g c = 0 → (∀ x, x < n → x ≠ c → f x = g x) → cn f n = cn g n + k
  | 0, h, _, _, _ => by omega
  | n + 1, h, hf, hg, he => by
    simp only [cn]
    by_cases e : c = n
    · subst e
      rw [hf, hg, cn_congr c (fun x hx => he x (by omega) (by omega))]
      omega
    · rw [cn_rm n (by omega) hf hg (fun x hx hx2 => he x (by omega) hx2), he n (by omega) (fun q => e q.symm)]
      omega
theorem us_rm {A : AA} {R c : Nat} {ρ rm : Nat → Nat} (hc : c < R) (ht : trq A ρ c) (h0 : rm c = 0) (x : Nat) : us A ρ rm x R = us A ρ (fup rm c 1) x R + use A ρ c x := by
  refine cn_rm R hc ?_ ?_ (fun y hy hy2 => ?_)
  · rw [if_pos ⟨ht, h0⟩]
  · rw [if_neg (fun q => by have := q.2; rw [fup_eq] at this; omega)]
  · rw [fup_ne hy2]
theorem us_0 {A : AA} {R x : Nat} {ρ rm : Nat → Nat} (h : us A ρ rm x R = 0) : ∀ c, c < R → trq A ρ c → 0 < use A ρ c x → rm c ≠ 0 := by
  intro c hc ht hu h0
  have := cn_pos (f := fun c => if (ρ c = c ∧ 3 ≤ ash A c) ∧ rm c = 0 then use A ρ c x else 0) R c hc
  simp only [if_pos (show (ρ c = c ∧ 3 ≤ ash A c) ∧ rm c = 0 from ⟨ht, h0⟩)] at this
  unfold us at h
  omega
theorem us_1 {A : AA} {x : Nat} {ρ rm : Nat → Nat} : ∀ n, us A ρ rm x n ≠ 0 → ∃ c, c < n ∧ trq A ρ c ∧ rm c = 0 ∧ 0 < use A ρ c x
  | 0, h => by exact absurd rfl h
  | n + 1, h => by
    rw [us_s] at h
    by_cases c : us A ρ rm x n = 0
    · rw [c] at h
      by_cases d : (ρ n = n ∧ 3 ≤ ash A n) ∧ rm n = 0
      · rw [if_pos d] at h
        exact ⟨n, by omega, d.1, d.2, by omega⟩
      · rw [if_neg d] at h
        exact absurd rfl h
    · obtain ⟨c', a, b⟩ := us_1 n c
      exact ⟨c', by omega, b⟩
theorem KQ_fr {s s' : hp_S} {A : AA} {R : Nat} {ρ : Nat → Nat} {g w : Nat} {mk rm iq qf ps : Nat → Nat} {P : List (Nat × Nat)} {L : List Nat} (h : KQ s A R ρ g w mk rm iq qf ps) (f : hs_fr P L s s') (k : 35 ∉ L ∧ 36 ∉ L) : KQ s' A R ρ g w mk rm iq qf ps := by
  obtain ⟨k1, k2, k3⟩ := h
  refine ⟨fun x hx => by rw [f.2 35 k.1]; exact k1 x hx, fun i hi => by rw [f.2 36 k.2]; exact k2 i hi, k3⟩
theorem C_first {A : AA} {R : Nat} {ρ dp : Nat → Nat} {mk : Nat → Nat} (ht : tc A R ρ ≤ 10000) : ∀ (d y w : Nat) (s : hp_S) (iq qf ps : Nat → Nat), y + d = R → UC s A R ρ dp → (∀ x, x < R → hs_A s 35 x = nI (mk x) ∧ mk x ≤ 30000) → (∀ x, iq x ≤ 1 ∧ (iq x = 1 ↔ x < y ∧ trq A ρ x ∧ mk x = 0) ∧ (iq x = 1 → ps x < w ∧ qf (ps x) = x)) → (∀ i, i < w → qf i < y ∧ hs_A s 36 i = nI (qf i) ∧ iq (qf i) = 1 ∧ ps (qf i) = i) → w = cn iq R → ∃ (s' : hp_S) (w' : Nat) (iq' qf' ps' : Nat → Nat), (∀ G T, l_C_X9_areFinite_31_12 (G + 1 + d) T (nI 0) (nI w) (nI y) s = l_C_X9_areFinite_31_76 G T (nI 0) (nI w') s') ∧ UC s' A R ρ dp ∧ hs_fr [] [36] s s' ∧ (∀ x, iq' x ≤ 1 ∧ (iq' x = 1 ↔ x < R ∧ trq A ρ x ∧ mk x = 0) ∧ (iq' x = 1 → ps' x < w' ∧ qf' (ps' x) = x)) ∧ (∀ i, i < w' → qf' i < R ∧ hs_A s' 36 i = nI (qf' i) ∧ iq' (qf' i) = 1 ∧ ps' (qf' i) = i) ∧ w' = cn iq' R := by
  intro d
  induction d with
  | zero =>
    intro y w s iq qf ps e hU hm h1 h2 h3
    obtain rfl : y = R := by omega
    refine ⟨s, w, iq, qf, ps, fun G T => ?_, hU, hs_fr.rf, h1, h2, h3⟩
    rw [Nat.add_zero, l_C_X9_areFinite_31_12.eq_2, hU.1, if_pos (Int32.le_refl _)]
  | succ d ih =>
    intro y w s iq qf ps e hU hm h1 h2 h3
    have hR := hU.2.1
    have hy : y < R := by omega
    have c1 : ¬ R ≤ y := by omega
    have c2 : ¬ 10002 ≤ y := by omega
    have hp := C_hp hU hy s
    obtain ⟨m1, m2⟩ := hm y hy
    have wt : w ≤ tc A R ρ := by
      rw [h3]
      refine cn_mono R (fun x hx => ?_)
      obtain ⟨a1, a2, -⟩ := h1 x
      by_cases c : ρ x = x ∧ 3 ≤ ash A x
      · rw [if_pos c]; exact a1
      · rw [if_neg c]
        by_cases d : iq x = 1
        · exact absurd (a2.mp d).2.1 c
        · omega
    have ny : iq y = 0 := by
      obtain ⟨a1, a2, -⟩ := h1 y
      by_cases c : iq y = 1
      · have := (a2.mp c).1; omega
      · omega
    by_cases q : trq A ρ y ∧ mk y = 0
    · have tr0 : ρ y = y ∧ 3 ≤ ash A y := q.1
      rw [if_pos tr0] at hp
      rw [q.2] at m1
      have c3 : ¬ 10002 ≤ w := by omega
      obtain ⟨s', w', iq', qf', ps', g1, g2, g3, g4, g5, g6⟩ := ih (y + 1) (w + 1) (hs_pA s 36 w (nI y)) (fup iq y 1) (fup qf w y) (fup ps y w) (by omega) (UC_fr (P := []) (L := [36]) hU (hs_fr_pA (by decide)) (by decide)) (fun x hx => by simp only [hs_I_pI, hs_I_pA, hs_A_pI, hs_A_pA, and_true, true_and, and_false, false_and, and_self, eq_self, Nat.reduceEqDiff, ↓reduceIte]; exact hm x hx) (fun x => by
          by_cases c : x = y
          · subst c
            rw [fup_eq, fup_eq, fup_eq]
            exact ⟨by omega, ⟨fun _ => ⟨by omega, q⟩, fun _ => rfl⟩, fun _ => ⟨by omega, rfl⟩⟩
          · obtain ⟨a1, a2, a3⟩ := h1 x
            rw [fup_ne c, fup_ne c]
            refine ⟨a1, ⟨fun z => by have := a2.mp z; exact ⟨by omega, this.2⟩, fun z => a2.mpr ⟨by omega, z.2⟩⟩, fun z => ?_⟩
            obtain ⟨b1, b2⟩ := a3 z
            exact ⟨by omega, by rw [fup_ne (by omega)]; exact b2⟩) (fun i hi => by
          by_cases c : i = w
          · subst c
            rw [fup_eq, fup_eq, fup_eq]
            exact ⟨by omega, by simp only [hs_I_pI, hs_I_pA, hs_A_pI, hs_A_pA, and_true, true_and, and_false, false_and, and_self, eq_self, Nat.reduceEqDiff, ↓reduceIte], rfl, rfl⟩
          · obtain ⟨a1, a2, a3, a4⟩ := h2 i (by omega)
            have ne : qf i ≠ y := by omega
            rw [fup_ne c, fup_ne ne, fup_ne ne]
            simp only [hs_I_pI, hs_I_pA, hs_A_pI, hs_A_pA, and_true, true_and, and_false, false_and, and_self, eq_self, Nat.reduceEqDiff, ↓reduceIte, c]
            exact ⟨by omega, a2, a3, a4⟩) (by
          rw [h3]
          exact (cn_up (x := y) R hy ny fup_eq (fun z hz hz2 => (fup_ne hz2).symm)).symm)
      refine ⟨s', w', iq', qf', ps', fun G T => ?_, g2, (hs_fr_pA (by decide)).cons g3, g4, g5, g6⟩
      rw [← g1, ← Nat.add_assoc, l_C_X9_areFinite_31_12.eq_2]
      simp (disch := omega) only [↓reduceIte, z_lit, z_m1, z_gd, z_le, z_lt, z_eq, z_em, z_me, z_ml, z_mle, z_lm, z_lem, z_pos, z_sub, nI_add, nI_clamp, ib_nI, pm_let, pm_bd, pm_b1, if_true, if_false, ite_true, ite_false, Nat.not_lt_zero, Nat.zero_le, hU.1, c1, c2, hp, m1, c3]
      simp
    · obtain ⟨s', w', iq', qf', ps', g1, g2, g3, g4, g5, g6⟩ := ih (y + 1) w s iq qf ps (by omega) hU hm (fun x => by
          obtain ⟨a1, a2, a3⟩ := h1 x
          refine ⟨a1, ⟨fun z => by have := a2.mp z; exact ⟨by omega, this.2⟩, fun z => a2.mpr ⟨?_, z.2⟩⟩, a3⟩
          by_cases c : x = y
          · rw [c] at z; exact absurd z.2 q
          · omega) (fun i hi => by
          obtain ⟨a1, a2⟩ := h2 i hi
          exact ⟨by omega, a2⟩) h3
      refine ⟨s', w', iq', qf', ps', fun G T => ?_, g2, g3, g4, g5, g6⟩
      rw [← g1, ← Nat.add_assoc, l_C_X9_areFinite_31_12.eq_2]
      by_cases tr : ρ y = y ∧ 3 ≤ ash A y
      · rw [if_pos tr] at hp
        have m0 : ¬ mk y = 0 := fun z => q ⟨tr, z⟩
        simp (disch := omega) only [↓reduceIte, z_lit, z_m1, z_gd, z_le, z_lt, z_eq, z_em, z_me, z_ml, z_mle, z_lm, z_lem, z_pos, z_sub, nI_add, nI_clamp, ib_nI, pm_let, pm_bd, pm_b1, if_true, if_false, ite_true, ite_false, Nat.not_lt_zero, Nat.zero_le, hU.1, c1, c2, hp, m1, m0]
        simp
      · rw [if_neg tr] at hp
        simp (disch := omega) only [↓reduceIte, z_lit, z_m1, z_gd, z_le, z_lt, z_eq, z_em, z_me, z_ml, z_mle, z_lm, z_lem, z_pos, z_sub, nI_add, nI_clamp, ib_nI, pm_let, pm_bd, pm_b1, if_true, if_false, ite_true, ite_false, Nat.not_lt_zero, Nat.zero_le, hU.1, c1, c2, hp]
def FINB (A : AA) (R : Nat) (ρ : Nat → Nat) (B : Nat) : Prop := ∃ rk : Nat → Nat, (∀ x, rk x ≤ B) ∧ ∀ x, x < R → ρ x = x → 3 ≤ ash A x → rk (ρ (alf A x)) < rk x ∧ rk (ρ (art A x)) < rk x
theorem FINB.fin {A : AA} {R : Nat} {ρ : Nat → Nat} {B : Nat} (h : FINB A R ρ B) : FIN A R ρ := by
  obtain ⟨rk, -, h⟩ := h
  exact ⟨rk, h⟩
theorem FIN_all {s : hp_S} {A : AA} {R : Nat} {ρ : Nat → Nat} {w : Nat} {mk rm iq qf ps : Nat → Nat} (hW : WF A R) (hRT : RT R ρ) (h : KQ s A R ρ w w mk rm iq qf ps) (hw : w = tc A R ρ) : FINB A R ρ (tc A R ρ + 1) := by
  obtain ⟨k1, k2, k3, k4, k5⟩ := h
  have all : ∀ x, x < R → trq A ρ x → iq x = 1 := by
    have e := cn_eq (f := iq) (g := fun x => if ρ x = x ∧ 3 ≤ ash A x then 1 else 0) R (fun x hx => by
      obtain ⟨-, -, a1, -, a2, -⟩ := k1 x hx
      by_cases c : ρ x = x ∧ 3 ≤ ash A x
      · rw [if_pos c]; exact a1
      · rw [if_neg c]
        by_cases d : iq x = 1
        · exact absurd (a2.mp d).1 c
        · omega) (by rw [← k4]; exact hw)
    intro x hx ht
    have := e x hx
    rw [if_pos (show ρ x = x ∧ 3 ≤ ash A x from ht)] at this
    exact this
  refine ⟨fun x => if iq x = 1 then w + 1 - ps x else 0, fun x => by simp only []; split <;> omega, fun x hx ex g => ?_⟩
  have ix := all x hx ⟨ex, g⟩
  have px := ((k1 x hx).2.2.2.2.2.1 ix).1
  obtain ⟨l1, l2⟩ := (hW x hx).2 g
  have ch : ∀ y, y < R → 0 < use A ρ x y → (if iq y = 1 then w + 1 - ps y else 0) < w + 1 - ps x := by
    intro y hy hu
    by_cases c : iq y = 1
    · rw [if_pos c]
      have := (k5 y hy c x hx ⟨ex, g⟩ hu).2
      have := ((k1 y hy).2.2.2.2.2.1 c).1
      omega
    · rw [if_neg c]; omega
  simp only [if_pos ix]
  refine ⟨ch _ (hRT _ l1).1 ?_, ch _ (hRT _ l2).1 ?_⟩
  · unfold use
    rw [if_pos rfl]
    omega
  · unfold use
    rw [if_pos (show ρ (art A x) = ρ (art A x) from rfl)]
    omega
theorem FIN_none {s : hp_S} {A : AA} {R : Nat} {ρ : Nat → Nat} {w : Nat} {mk rm iq qf ps : Nat → Nat} (h : KQ s A R ρ w w mk rm iq qf ps) (hm : ∀ x, x < R → mk x = us A ρ rm x R) (hw : w < tc A R ρ) : ¬ FIN A R ρ := by
  rintro ⟨rk, hr⟩
  obtain ⟨k1, k2, k3, k4, k5⟩ := h
  -- one that never came into the queue
  have ex : ∃ x, x < R ∧ trq A ρ x ∧ iq x = 0 := by
    by_cases c : ∃ x, x < R ∧ trq A ρ x ∧ iq x = 0
    · exact c
    · exfalso
      have : tc A R ρ ≤ cn iq R := by
        refine cn_mono R (fun x hx => ?_)
        by_cases d : ρ x = x ∧ 3 ≤ ash A x
        · rw [if_pos d]
          have := (k1 x hx).2.2.1
          by_cases d2 : iq x = 0
          · exact absurd ⟨x, hx, d, d2⟩ c
          · omega
        · rw [if_neg d]; omega
      omega
  have up : ∀ x, x < R → trq A ρ x → iq x = 0 → ∃ y, y < R ∧ trq A ρ y ∧ iq y = 0 ∧ rk x < rk y := by
    intro x hx ht hq
    obtain ⟨-, -, -, -, a5, -, -⟩ := k1 x hx
    have m0 : mk x ≠ 0 := fun q => by have := a5.mpr ⟨ht, q⟩; omega
    rw [hm x hx] at m0
    obtain ⟨c, c1, c2, c3, c4⟩ := us_1 R m0
    obtain ⟨-, -, b3, -, -, b6, b7⟩ := k1 c c1
    have qc : iq c = 0 := by
      by_cases d : iq c = 1
      · have := b7.mpr ⟨d, (b6 d).1⟩
        omega
      · omega
    obtain ⟨h1, h2⟩ := hr c c1 c2.1 c2.2
    refine ⟨c, c1, c2, qc, ?_⟩
    unfold use at c4
    by_cases d1 : ρ (alf A c) = x
    · rw [d1] at h1; exact h1
    · by_cases d2 : ρ (art A c) = x
      · rw [d2] at h2; exact h2
      · rw [if_neg d1, if_neg d2] at c4; omega
  have chain : ∀ n, ∃ x, x < R ∧ trq A ρ x ∧ iq x = 0 ∧ n ≤ rk x := by
    intro n
    induction n with
    | zero =>
      obtain ⟨x, a, b, c⟩ := ex
      exact ⟨x, a, b, c, Nat.zero_le _⟩
    | succ n ih =>
      obtain ⟨x, a, b, c, d⟩ := ih
      obtain ⟨y, a', b', c', d'⟩ := up x a b c
      exact ⟨y, a', b', c', by omega⟩
  obtain ⟨x, hx, -, -, hn⟩ := chain (cn rk R + 1)
  have := cn_pos (f := rk) R x hx
  omega
theorem C_run {A : AA} {R : Nat} {ρ dp : Nat → Nat} (ht : tc A R ρ ≤ 10000) : ∀ (D g w : Nat) (s : hp_S) (rm iq qf ps mk : Nat → Nat) (G : Nat), tc A R ρ - g ≤ D → UC s A R ρ dp → KQ s A R ρ g w mk rm iq qf ps → (∀ x, x < R → mk x = us A ρ rm x R) → 10100 + D ≤ G → ∃ b s', l_C_X9_areFinite_31_76 G (nI (tc A R ρ)) (nI g) (nI w) s = some (nI b, s') ∧ b < 2 ∧ ((b = 1 ↔ FIN A R ρ) ∧ (b = 1 → FINB A R ρ (tc A R ρ + 1))) ∧ UC s' A R ρ dp ∧ hs_fr [] [33, 35, 36] s s' := by
  have fin : ∀ (w : Nat) (s : hp_S) (rm iq qf ps mk : Nat → Nat) (G : Nat), UC s A R ρ dp → KQ s A R ρ w w mk rm iq qf ps → (∀ x, x < R → mk x = us A ρ rm x R) → 1 ≤ G → ∃ b s', l_C_X9_areFinite_31_76 G (nI (tc A R ρ)) (nI w) (nI w) s = some (nI b, s') ∧ b < 2 ∧ ((b = 1 ↔ FIN A R ρ) ∧ (b = 1 → FINB A R ρ (tc A R ρ + 1))) ∧ UC s' A R ρ dp ∧ hs_fr [] [33, 35, 36] s s' := by
    intro w s rm iq qf ps mk G hU hQ hm hG
    have hw := KQ_w hQ
    obtain ⟨G, rfl⟩ : ∃ z, G = z + 1 := ⟨G - 1, by omega⟩
    have c1 : w ≤ w := Nat.le_refl _
    by_cases c : w = tc A R ρ
    · refine ⟨1, s, ?_, by omega, ⟨⟨fun _ => (FIN_all hU.2.2.2.2.1 hU.2.2.2.1 hQ c).fin, fun _ => rfl⟩, fun _ => FIN_all hU.2.2.2.2.1 hU.2.2.2.1 hQ c⟩, hU, hs_fr.rf⟩
      rw [l_C_X9_areFinite_31_76.eq_2, ← c]
      simp (disch := omega) only [↓reduceIte, z_lit, z_m1, z_gd, z_le, z_lt, z_eq, z_em, z_me, z_ml, z_mle, z_lm, z_lem, z_pos, z_sub, nI_add, nI_clamp, ib_nI, pm_let, pm_bd, pm_b1, if_true, if_false, ite_true, ite_false, Nat.not_lt_zero, Nat.zero_le, c1]
    · have nf := FIN_none hQ hm (by omega)
      refine ⟨0, s, ?_, by omega, ⟨⟨fun q => by omega, fun q => absurd q nf⟩, fun q => by omega⟩, hU, hs_fr.rf⟩
      rw [l_C_X9_areFinite_31_76.eq_2]
      simp (disch := omega) only [↓reduceIte, z_lit, z_m1, z_gd, z_le, z_lt, z_eq, z_em, z_me, z_ml, z_mle, z_lm, z_lem, z_pos, z_sub, nI_add, nI_clamp, ib_nI, pm_let, pm_bd, pm_b1, if_true, if_false, ite_true, ite_false, Nat.not_lt_zero, Nat.zero_le, c1, c]
  intro D
  induction D with
  | zero =>
    intro g w s rm iq qf ps mk G hD hU hQ hm hG
    have hw := KQ_w hQ
    have hg := hQ.2.2.1
    obtain rfl : g = w := by omega
    exact fin g s rm iq qf ps mk G hU hQ hm (by omega)
  | succ D ih =>
    intro g w s rm iq qf ps mk G hD hU hQ hm hG
    have hw := KQ_w hQ
    have hg := hQ.2.2.1
    by_cases gw : g = w
    · subst gw
      exact fin g s rm iq qf ps mk G hU hQ hm (by omega)
    obtain ⟨G, rfl⟩ : ∃ z, G = z + 1 := ⟨G - 1, by omega⟩
    obtain ⟨k1, k2, k3, k4, k5⟩ := id hQ
    obtain ⟨c, hc⟩ : ∃ c, c = qf g := ⟨_, rfl⟩
    obtain ⟨q1, q2, q3, q4⟩ := k2 g (by omega)
    rw [← hc] at q1 q2 q3 q4
    obtain ⟨a1, a2, a3, a4, a5, a6, a7⟩ := k1 c q1
    have tr := (a5.mp q3).1
    have rm0 : rm c = 0 := by
      by_cases d : rm c = 1
      · have := (a7.mp d).2; omega
      · omega
    have hR := hU.2.1
    obtain ⟨wl, wr⟩ := (hU.2.2.2.2.1 c q1).2 tr.2
    obtain ⟨-, ⟨-, -, -, ly⟩ | ⟨q, -⟩⟩ := hU.2.2.2.2.2 c q1
    case inr => exact absurd tr.1 q
    obtain ⟨l1, l2⟩ := ly tr.2
    have rl := (hU.2.2.2.1 _ wl).1
    have rr := (hU.2.2.2.1 _ wr).1
    -- it goes
    have Q1 : KQ s A R ρ (g + 1) w mk (fup rm c 1) iq qf ps := by
      refine ⟨fun x hx => ?_, k2, by omega, k4, fun x hx hq d hd htd hu => ?_⟩
      · obtain ⟨b1, b2, b3, b4, b5, b6, b7⟩ := k1 x hx
        by_cases e : x = c
        · subst e
          rw [fup_eq]
          exact ⟨b1, b2, b3, by omega, b5, b6, ⟨fun _ => ⟨q3, by omega⟩, fun _ => rfl⟩⟩
        · rw [fup_ne e]
          refine ⟨b1, b2, b3, b4, b5, b6, ⟨fun z => ?_, fun z => b7.mpr ⟨z.1, ?_⟩⟩⟩
          · have := b7.mp z
            exact ⟨this.1, by omega⟩
          · by_cases e2 : ps x = g
            · have := (b6 z.1).2
              rw [e2, ← hc] at this
              exact absurd this.symm e
            · omega
      · obtain ⟨b1, b2⟩ := k5 x hx hq d hd htd hu
        refine ⟨?_, b2⟩
        by_cases e : d = c
        · rw [e, fup_eq]
        · rw [fup_ne e]; exact b1
    have urm := us_rm q1 tr rm0
    obtain ⟨s1, e1, U1, f1⟩ := C_rootOf (F := G) hU wl (by omega)
    have Q1' := KQ_fr Q1 f1 (by decide)
    have rmle : ∀ d, d < R → (fup rm c 1) d ≠ 0 → (fup rm c 1) d = 1 := fun d hd hn => by
      have := (Q1.1 d hd).2.2.2.1
      omega
    have ul : 1 ≤ use A ρ c (ρ (alf A c)) := by unfold use; rw [if_pos rfl]; omega
    have ur : 1 ≤ use A ρ c (ρ (art A c)) := by unfold use; rw [if_pos (show ρ (art A c) = ρ (art A c) from rfl)]; omega
    have ml := hm _ rl
    have mlu := urm (ρ (alf A c))
    obtain ⟨v, hv⟩ : ∃ v, mk (ρ (alf A c)) = v + 1 := ⟨mk (ρ (alf A c)) - 1, by omega⟩
    obtain ⟨s2, w2, iq2, qf2, ps2, e2, f2, Q2, w2w, qe2, ie2⟩ := KQ_lose U1 Q1' rl hv ht (fun v0 _ d hd htd hu => rmle d hd (us_0 (by omega) d hd htd hu))
    have U2 : UC s2 A R ρ dp := UC_fr U1 f2 (by decide)
    have r34 : hs_A s2 34 c = nI (art A c) := by rw [f2.2 34 (by decide), f1.2 34 (by decide)]; exact l2
    obtain ⟨s3, e3, U3, f3⟩ := C_rootOf (F := G) U2 wr (by omega)
    have Q2' := KQ_fr Q2 f3 (by decide)
    have mr := hm _ rr
    have mru := urm (ρ (art A c))
    have mk2 : ∃ v2, fup mk (ρ (alf A c)) v (ρ (art A c)) = v2 + 1 ∧ v2 = us A ρ (fup rm c 1) (ρ (art A c)) R := by
      by_cases e : ρ (art A c) = ρ (alf A c)
      · have u2 : use A ρ c (ρ (art A c)) = 2 := by unfold use; rw [if_pos e.symm, if_pos (show ρ (art A c) = ρ (art A c) from rfl)]
        rw [e] at u2 mr mru ⊢
        exact ⟨us A ρ (fup rm c 1) (ρ (alf A c)) R, by rw [fup_eq]; omega, rfl⟩
      · have u2 : use A ρ c (ρ (art A c)) = 1 := by unfold use; rw [if_neg (fun q => e q.symm), if_pos (show ρ (art A c) = ρ (art A c) from rfl)]
        exact ⟨us A ρ (fup rm c 1) (ρ (art A c)) R, by rw [fup_ne e]; omega, rfl⟩
    obtain ⟨v2, hv2, hv2'⟩ := mk2
    obtain ⟨s4, w4, iq4, qf4, ps4, e4, f4, Q4, w4w, qe4, ie4⟩ := KQ_lose U3 Q2' rr hv2 ht (fun v0 _ d hd htd hu => rmle d hd (us_0 (by omega) d hd htd hu))
    have U4 : UC s4 A R ρ dp := UC_fr U3 f4 (by decide)
    have hw4 := KQ_w Q4
    have fin4 : ∀ x, x < R → fup (fup mk (ρ (alf A c)) v) (ρ (art A c)) v2 x = us A ρ (fup rm c 1) x R := by
      intro x hx
      by_cases e : x = ρ (art A c)
      · rw [e, fup_eq]; exact hv2'
      · rw [fup_ne e]
        have m0 := hm x hx
        have u0 := urm x
        by_cases e2 : x = ρ (alf A c)
        · have u2 : use A ρ c x = 1 := by unfold use; rw [if_pos e2.symm, if_neg (fun q => e q.symm)]
          rw [e2] at u2 m0 u0 ⊢
          rw [fup_eq]
          omega
        · have u2 : use A ρ c x = 0 := by unfold use; rw [if_neg (fun q => e2 q.symm), if_neg (fun q => e q.symm)]
          rw [fup_ne e2]
          omega
    obtain ⟨b, s', g1, g2, g3, g4, g5⟩ := ih (g + 1) w4 s4 (fup rm c 1) iq4 qf4 ps4 _ G (by omega) U4 Q4 fin4 (by omega)
    refine ⟨b, s', ?_, g2, g3, g4, ?_⟩
    · have c1 : ¬ w ≤ g := by omega
      have c2 : ¬ 10002 ≤ g := by omega
      rw [l_C_X9_areFinite_31_76.eq_2]
      simp (disch := omega) only [↓reduceIte, z_lit, z_m1, z_gd, z_le, z_lt, z_eq, z_em, z_me, z_ml, z_mle, z_lm, z_lem, z_pos, z_sub, nI_add, nI_clamp, ib_nI, pm_let, pm_bd, pm_b1, if_true, if_false, ite_true, ite_false, Nat.not_lt_zero, Nat.zero_le, c1, c2, q2, C_l31 hU.1 hR q1, l1, e1, e2, C_r31 U2.1 hR q1, r34, e3, e4]
      exact g1
    · exact ((f1.mono (by simp) (by decide)).cons (f2.mono (by simp) (by decide))).cons (((f3.mono (by simp) (by decide)).cons (f4.mono (by simp) (by decide))).cons g5)
theorem C_areFinite {s : hp_S} {A : AA} {R : Nat} {ρ dp : Nat → Nat} {G : Nat} (hU : UC s A R ρ dp) (ht : nt A R ≤ 4000) (hG : 40000 ≤ G) : ∃ b s', f_C_X9_areFinite_31 G s = some (nI b, s') ∧ b < 2 ∧ ((b = 1 ↔ FIN A R ρ) ∧ (b = 1 → FINB A R ρ (tc A R ρ + 1))) ∧ UC s' A R ρ dp ∧ hs_fr [] [33, 35, 36] s s' := by
  have hR := hU.2.1
  have t1 := tc_le A R ρ
  have r0n : ∀ x, ¬ r0 x = 1 := fun x q => by
    have : r0 x = 0 := rfl
    omega
  obtain ⟨s1, a1, a2, a3, a4⟩ := C_clear R 0 s (by omega) hU (fun x hx => by omega)
  obtain ⟨s2, b1, b2, b3, b4⟩ := C_count R 0 0 s1 G (by omega) a2 (fun x hx => by rw [a4 x hx]; rfl) rfl (by omega)
  obtain ⟨s3, w, iq, qf, ps, c1, c2, c3, c4, c5, c6⟩ := C_first (mk := fun x => us A ρ r0 x R) (by omega) R 0 0 s2 r0 r0 r0 (by omega) b2 (fun x hx => ⟨b4 x hx, by have := us_le A ρ r0 x R; omega⟩) (fun x => ⟨Nat.zero_le _, ⟨fun q => absurd q (r0n x), fun q => by omega⟩, fun q => absurd q (r0n x)⟩) (fun i hi => by omega) (by
    have : ∀ n, cn r0 n = 0 := by
      intro n
      induction n with
      | zero => rfl
      | succ n ih => simp only [cn, ih]; rfl
    exact (this R).symm)
  have Q : KQ s3 A R ρ 0 w (fun x => us A ρ r0 x R) r0 iq qf ps := by
    refine ⟨fun x hx => ?_, c5, by omega, c6, fun x hx hq d hd htd hu => ?_⟩
    · obtain ⟨d1, d2, d3⟩ := c4 x
      have ul := us_le A ρ r0 x R
      refine ⟨by rw [c3.2 35 (by decide)]; exact b4 x hx, by change us A ρ r0 x R ≤ 30000; omega, d1, Nat.zero_le _, ⟨fun q => (d2.mp q).2, fun q => d2.mpr ⟨hx, q⟩⟩, d3, ⟨fun q => absurd q (r0n x), fun q => by omega⟩⟩
    · have := ((c4 x).2.1.mp hq).2.2
      exact absurd rfl (us_0 this d hd htd hu)
  obtain ⟨b, s', d1, d2, d3, d4, d5⟩ := C_run (ρ := ρ) (by omega) (tc A R ρ) 0 w s3 r0 iq qf ps _ (G - 1 - R) (by omega) c2 Q (fun x hx => rfl) (by omega)
  refine ⟨b, s', ?_, d2, d3, d4, ?_⟩
  · unfold f_C_X9_areFinite_31 f_C_X9_countUses_31 f_C_X9_clearMarks_31
    have a1' := a1 G (by omega)
    have c1' := c1 (G - 1 - R) (nI (tc A R ρ))
    rw [show G - 1 - R + 1 + R = G by omega] at c1'
    simp only [z_lit, a1', pm_b1, b1, pm_bd]
    rw [c1', d1]
  · exact ((a3.mono (by simp) (by decide)).cons (b3.mono (by simp) (by decide))).cons ((c3.mono (by simp) (by decide)).cons d5)
