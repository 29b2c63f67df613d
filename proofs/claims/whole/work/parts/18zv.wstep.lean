theorem W_step {s m : hp_S} {A : AA} {R : Nat} {ρC dC ρM dM σ rk : Nat → Nat} {x g : Nat} {L : List (Nat × Nat)} {d n c w G G' : Nat} (hE : WE A R ρC ρM σ rk) (hD : WD s m A R ρC dC ρM dM σ rk ((x, g) :: L) d n c) (hO : OU s m w) (hw : w < 4000) (hc : c ≤ w) (hG : 20000 ≤ G) (hG' : 20000 ≤ G') : ∃ s' m' L' d' n' w' c', f_C_X8_writeNext_41 G s = some s' ∧ l_M_X11_writeType_0_40 (G' + 1) m = l_M_X11_writeType_0_40 G' m' ∧ WD s' m' A R ρC dC ρM dM σ rk L' d' n' c' ∧ OU s' m' w' ∧ c' ≤ w' ∧ hs_fr tP' tA' s s' ∧ hs_fr rP' rA' m m' ∧ (w' = 4000 ∨ 2 * w + d + 1 ≤ 2 * w' + d') := by
  have sb := SK_b _ _ _ hD.2.2.2.2.1
  obtain ⟨U, W, h3, h40, ⟨d0, n0, rfl, rfl, hx, ex, e36, hrk, GR, SKL⟩, LRR⟩ := hD
  obtain ⟨hσ, hR, hW, DC, DM, agr, rkb, rkd⟩ := id hE
  simp only at hx ex e36 hrk GR
  have wa := (hW x hx).1
  have gl : g < 3 := by rcases GR with ⟨q, -⟩ | ⟨q, -⟩ | ⟨q, -⟩ | ⟨q, -⟩ <;> omega
  obtain ⟨s1, hs1⟩ : ∃ s1, s1 = hs_pI s 41 3 (nI d0) := ⟨_, rfl⟩
  have pop : f_C_X8_pop_41 s = some (nI (x * 3 + g), s1) := by rw [hs1]; exact C_pop h3 (by omega) e36
  have f1 : hs_fr [(41, 3)] [] s s1 := by rw [hs1]; exact hs_fr_pI (by decide)
  have f1t : hs_fr tP' tA' s s1 := f1.mono (by decide) (by simp)
  have U1 : UC s1 A R ρC dC := UC_fr U f1 (by decide)
  have k31 : f_C_X9_kind_31 (nI x) s1 = some (nI (ck (ash A x)), s1) := by
    rw [C_k31 U1.1 hR hx]
    obtain ⟨-, ⟨-, -, k, -⟩ | ⟨q, -⟩⟩ := U1.2.2.2.2.2 x hx
    · rw [k]
    · exact absurd ex q
  have d31 : hs_I s1 41 3 = nI d0 := by rw [hs1]; simp only [hs_I_pI, hs_I_pA, hs_A_pI, hs_A_pA, and_true, true_and, and_false, false_and, and_self, eq_self, Nat.reduceEqDiff, ↓reduceIte]
  obtain ⟨O1, O2, O3, O4, O5⟩ := id hO
  -- when only a text is written
  have text : ∀ (k n1 i : Nat) (x5 : Int32) (wd : Int64) (L' : List (Nat × Nat)), i < 13 → 1 ≤ i → wdF wd 7 = tx_L i → 1 ≤ (tx_L i).length → k = n1 → ∃ s' m' w', f_C_X3_addText_39_str G i s1 = some s' ∧ f_M_X11_writeWord_0 G' wd (hs_pI m 0 40 (nI n1)) = some m' ∧ OU s' m' w' ∧ hs_fr oP oA s1 s' ∧ hs_fr pP pA' (hs_pI m 0 40 (nI n1)) m' ∧ (w' = 4000 ∨ w + (tx_L i).length ≤ w') := by
    intro k n1 i x5 wd L' i1 i2 hwd hl _
    obtain ⟨s', m', w', a1, a2, a3, a4, a5, a6⟩ := J_text (G := G) (G' := G') (OU_fr hO f1 (hs_fr_pI (P := [(0, 40)]) (As := []) (s := m) (a := 0) (k := 40) (v := nI n1) (by decide)) (by decide) (by decide)) i1 i2 hwd (by omega) (by omega)
    exact ⟨s', m', w', a1, a2, a3, a4, a5, by omega⟩
  have LR4 : ∀ n1, LR s1 (hs_pI m 0 40 (nI n1)) R ρC ρM σ c := by
    intro n1
    obtain ⟨l1, l2, l3⟩ := LRR
    refine ⟨by rw [hs1]; simp only [hs_I_pI, hs_I_pA, hs_A_pI, hs_A_pA, and_true, true_and, and_false, false_and, and_self, eq_self, Nat.reduceEqDiff, ↓reduceIte]; exact l1, by simp only [hs_I_pI, hs_I_pA, hs_A_pI, hs_A_pA, and_true, true_and, and_false, false_and, and_self, eq_self, Nat.reduceEqDiff, ↓reduceIte]; exact l2, fun y hy => ?_⟩
    rw [hs1]
    simp only [hs_I_pI, hs_I_pA, hs_A_pI, hs_A_pA, and_true, true_and, and_false, false_and, and_self, eq_self, Nat.reduceEqDiff, ↓reduceIte]
    exact l3 y hy
  have W4 : ∀ n1, UM (hs_pI m 0 40 (nI n1)) A R ρM dM σ := fun n1 => UM_fr (P := [(0, 40)]) (L := []) W (hs_fr_pI (by decide)) (by decide)
  have SK4 : ∀ n1, SK s1 (hs_pI m 0 40 (nI n1)) A R ρC σ rk L d0 n0 := fun n1 => SK_fr L d0 n0 SKL (fun i _ => by rw [hs1]; simp only [hs_I_pI, hs_I_pA, hs_A_pI, hs_A_pA, and_true, true_and, and_false, false_and, and_self, eq_self, Nat.reduceEqDiff, ↓reduceIte]) (fun i _ => by simp only [hs_I_pI, hs_I_pA, hs_A_pI, hs_A_pA, and_true, true_and, and_false, false_and, and_self, eq_self, Nat.reduceEqDiff, ↓reduceIte])
  have fm4 : ∀ n1, hs_fr rP' rA' m (hs_pI m 0 40 (nI n1)) := fun n1 => hs_fr_pI (by decide)
  -- the top is done with
  have done : ∀ (n1 i : Nat) (wd : Int64), n1 = n0 → i < 13 → 1 ≤ i → wdF wd 7 = tx_L i → 1 ≤ (tx_L i).length → (∀ s', f_C_X3_addText_39_str G i s1 = some s' → f_C_X8_writeNext_41 G s = some s') → (∀ m', f_M_X11_writeWord_0 G' wd (hs_pI m 0 40 (nI n0)) = some m' → l_M_X11_writeType_0_40 (G' + 1) m = l_M_X11_writeType_0_40 G' m') → ∃ s' m' L' d' n' w' c', f_C_X8_writeNext_41 G s = some s' ∧ l_M_X11_writeType_0_40 (G' + 1) m = l_M_X11_writeType_0_40 G' m' ∧ WD s' m' A R ρC dC ρM dM σ rk L' d' n' c' ∧ OU s' m' w' ∧ c' ≤ w' ∧ hs_fr tP' tA' s s' ∧ hs_fr rP' rA' m m' ∧ (w' = 4000 ∨ 2 * w + (d0 + 1) + 1 ≤ 2 * w' + d') := by
    intro n1 i wd hn1 i1 i2 hwd hl hc1 hm1
    obtain ⟨s', m', w', a1, a2, a3, a4, a5, a6⟩ := text n0 n0 i 0 wd L i1 i2 hwd hl rfl
    have WD0 : WD s1 (hs_pI m 0 40 (nI n0)) A R ρC dC ρM dM σ rk L d0 n0 c := ⟨U1, W4 n0, d31, by simp only [hs_I_pI, hs_I_pA, hs_A_pI, hs_A_pA, and_true, true_and, and_false, false_and, and_self, eq_self, Nat.reduceEqDiff, ↓reduceIte], SK4 n0, LR4 n0⟩
    refine ⟨s', m', L, d0, n0, w', c, hc1 s' a1, hm1 m' a2, WD_out WD0 a4 a5, a3, ?_, f1t.cons (a4.mono (by decide) (by decide)), (fm4 n0).cons (a5.mono (by decide) (by decide)), by omega⟩
    have := a3.1
    omega
  rcases GR with ⟨rfl, y, hy, ey, m27⟩ | ⟨rfl, a3', ⟨y, hy, ey, m27⟩, mk⟩ | ⟨rfl, a4', m27, ⟨y, hy, ey, m271⟩, m272⟩ | ⟨rfl, a4', m27⟩
  · -- a part that is begun
    have gn1 : gn A x 0 = 1 := by unfold gn; rw [if_neg (by omega)]
    simp only [gn1] at h40 sb ⊢
    have sy := hσ.2.1 y hy
    have rM := (DM.1 y hy).1
    have sq := hσ.2.1 _ rM
    have root := M_root (F := G') (W4 n0) hσ hy (by omega)
    obtain ⟨sh1, sh2⟩ := WE_sh hE hy
    rw [ey] at sh1 sh2
    have s24 : hs_A (hs_pI m 0 40 (nI n0)) 24 (σ (ρM y)) = nI (ash A x) := by
      have := ((W4 n0).2.2.2.2.2 (ρM y) rM).1.2.1
      rw [sh1] at this
      exact this
    have ge := nI_ge0 (show σ y < 2 ^ 31 by omega)
    rcases M_w0 (G := G') h40 (by omega) O4 hw m27 rfl with ⟨-, -, -, -, M0, M1, M2, M3, M4⟩ | q
    case inr => omega
    rcases (show ash A x = 0 ∨ ash A x = 1 ∨ ash A x = 2 ∨ ash A x = 3 ∨ ash A x = 4 by omega) with a | a | a | a | a
    · -- a letter
      rw [a] at s24 k31
      obtain ⟨l1, l2, l3⟩ := id (LR4 n0)
      obtain ⟨s2, m2, c2, l, hcl, e1, e2, f2, f2', U2, W2, LR2, lc, cc⟩ : ∃ s2 m2 c2 l, c2 ≤ c + 1 ∧ f_C_X8_writeLetter_41 G (nI x) s1 = cFd (letL l) s2 ∧ f_M_X11_letter_0 G' (nI (σ (ρM y))) (hs_pI m 0 40 (nI n0)) = mFd (letL l) m2 ∧ hs_fr [(41, 4)] [35] s1 s2 ∧ hs_fr [(0, 48)] [33] (hs_pI m 0 40 (nI n0)) m2 ∧ UC s2 A R ρC dC ∧ UM m2 A R ρM dM σ ∧ LR s2 m2 R ρC ρM σ c2 ∧ l < 10002 ∧ c ≤ c2 := by
        have o46 : hs_I (hs_pI m 0 40 (nI n0)) 0 46 = nI w := by simp only [hs_I_pI, hs_I_pA, hs_A_pI, hs_A_pA, and_true, true_and, and_false, false_and, and_self, eq_self, Nat.reduceEqDiff, ↓reduceIte]; exact O4
        rcases l3 y hy with ⟨q1, q2⟩ | ⟨l, ql, q1, q2⟩
        · rw [ey] at q1
          obtain ⟨s2, hs2⟩ : ∃ s2, s2 = hs_pA (hs_pI s1 41 4 (nI (c + 1))) 35 x (nI (c + 1)) := ⟨_, rfl⟩
          obtain ⟨m2, hm2⟩ : ∃ m2, m2 = hs_pI (hs_pA (hs_pI m 0 40 (nI n0)) 33 (σ (ρM y)) (nI c)) 0 48 (nI (c + 1)) := ⟨_, rfl⟩
          have f2 : hs_fr [(41, 4)] [35] s1 s2 := by rw [hs2]; exact (hs_fr_pI (by decide)).cons (hs_fr_pA (by decide))
          have f2' : hs_fr [(0, 48)] [33] (hs_pI m 0 40 (nI n0)) m2 := by rw [hm2]; exact (hs_fr_pA (by decide)).cons (hs_fr_pI (by decide))
          have U2 := UC_fr U1 f2 (by decide)
          have W2 := UM_fr (W4 n0) f2' (by decide)
          refine ⟨s2, m2, c + 1, c, Nat.le_refl _, ?_, ?_, f2, f2', U2, W2, ⟨?_, ?_, fun z hz => ?_⟩, by omega, by omega⟩
          · rw [C_let0 U1.1 hR hx q1 l1 (by omega) hs2]
            exact C_let1 U2.1 hR hx (by rw [hs2]; simp only [hs_I_pI, hs_I_pA, hs_A_pI, hs_A_pA, and_true, true_and, and_false, false_and, and_self, eq_self, Nat.reduceEqDiff, ↓reduceIte]) (by omega) (by omega)
          · rw [M_let0 (by omega) q2 l2 (by omega) hm2]
            exact M_let1 (by omega) (by rw [hm2]; simp only [hs_I_pI, hs_I_pA, hs_A_pI, hs_A_pA, and_true, true_and, and_false, false_and, and_self, eq_self, Nat.reduceEqDiff, ↓reduceIte]) (by omega) ⟨w, O1, by rw [f2'.1 _ _ (by decide)]; exact o46⟩ (by omega)
          · rw [hs2]; simp only [hs_I_pI, hs_I_pA, hs_A_pI, hs_A_pA, and_true, true_and, and_false, false_and, and_self, eq_self, Nat.reduceEqDiff, ↓reduceIte]
          · rw [hm2]; simp only [hs_I_pI, hs_I_pA, hs_A_pI, hs_A_pA, and_true, true_and, and_false, false_and, and_self, eq_self, Nat.reduceEqDiff, ↓reduceIte]
          · by_cases e : ρC z = x
            · have eM : ρM z = ρM y := (agr z y hz hy).mp (by rw [e, ey])
              refine Or.inr ⟨c, by omega, ?_, ?_⟩
              · rw [e, hs2]; simp only [hs_I_pI, hs_I_pA, hs_A_pI, hs_A_pA, and_true, true_and, and_false, false_and, and_self, eq_self, Nat.reduceEqDiff, ↓reduceIte]
              · rw [eM, hm2]; simp only [hs_I_pI, hs_I_pA, hs_A_pI, hs_A_pA, and_true, true_and, and_false, false_and, and_self, eq_self, Nat.reduceEqDiff, ↓reduceIte]
            · have eM : ¬ σ (ρM z) = σ (ρM y) := fun q => e (by rw [← ey]; exact (agr z y hz hy).mpr (hσ.1 _ _ q))
              have z1 : hs_A s2 35 (ρC z) = hs_A s1 35 (ρC z) := by rw [hs2]; simp only [hs_I_pI, hs_I_pA, hs_A_pI, hs_A_pA, and_true, true_and, and_false, false_and, and_self, eq_self, Nat.reduceEqDiff, ↓reduceIte, e]
              have z2 : hs_A m2 33 (σ (ρM z)) = hs_A (hs_pI m 0 40 (nI n0)) 33 (σ (ρM z)) := by rw [hm2]; simp only [hs_I_pI, hs_I_pA, hs_A_pI, hs_A_pA, and_true, true_and, and_false, false_and, and_self, eq_self, Nat.reduceEqDiff, ↓reduceIte, eM]
              rw [z1, z2]
              rcases l3 z hz with q | ⟨l, ql, q⟩
              · exact Or.inl q
              · exact Or.inr ⟨l, by omega, q⟩
        · rw [ey] at q1
          exact ⟨s1, hs_pI m 0 40 (nI n0), c, l, by omega, C_let1 U1.1 hR hx q1 (by omega) (by omega), M_let1 (by omega) q2 (by omega) ⟨w, O1, o46⟩ (by omega), hs_fr.rf, hs_fr.rf, U1, W4 n0, LR4 n0, by omega, Nat.le_refl _⟩
      have O2' := OU_fr (OU_fr hO f1 (hs_fr_pI (P := [(0, 40)]) (As := []) (s := m) (a := 0) (k := 40) (v := nI n0) (by decide)) (by decide) (by decide)) f2 f2' (by decide) (by decide)
      obtain ⟨s3, m3, w3, b1, b2, b3, b4, b5, b6⟩ := OU_fd (letL l) s2 m2 w O2'
      have WD2 : WD s2 m2 A R ρC dC ρM dM σ rk L d0 n0 c2 := by
        refine ⟨U2, W2, by rw [f2.1 _ _ (by decide)]; exact d31, by rw [f2'.1 _ _ (by decide)]; simp only [hs_I_pI, hs_I_pA, hs_A_pI, hs_A_pA, and_true, true_and, and_false, false_and, and_self, eq_self, Nat.reduceEqDiff, ↓reduceIte], SK_fr L d0 n0 (SK4 n0) (fun i _ => f2.2 36 (by decide) i) (fun i _ => f2'.2 27 (by decide) i), LR2⟩
      have ll : 1 ≤ (letL l).length := by unfold letL; simp
      have b31 := b3.1
      refine ⟨s3, m3, L, d0, n0, w3, c2, C_next pop (by omega) (by omega) k31 (by decide) ⟨fun q => absurd q (by decide), fun q => absurd q (by decide), fun q => absurd q (by decide), fun q => absurd q (by decide), fun _ => by rw [e1]; exact b1⟩ (Or.inl rfl), M0 _ _ ge root (by omega) s24 (by rw [e2]; exact b2), WD_out WD2 b4 b5, b3, by omega, (f1t.cons (f2.mono (by decide) (by decide))).cons (b4.mono (by decide) (by decide)), ((fm4 n0).cons (f2'.mono (by decide) (by decide))).cons (b5.mono (by decide) (by decide)), by omega⟩
    · rw [a] at s24 k31
      exact done n0 7 6909556 rfl (by omega) (by omega) wd_all.2.2.2.1 (by decide) (fun s' hs => C_next pop (by omega) (by omega) k31 (by decide) ⟨fun _ => hs, fun q => absurd q (by decide), fun q => absurd q (by decide), fun q => absurd q (by decide), fun q => absurd q (by decide)⟩ (Or.inr (Or.inl rfl))) (fun m' hm => M1 _ _ ge root (by omega) s24 hm)
    · rw [a] at s24 k31
      exact done n0 8 1651470188 rfl (by omega) (by omega) wd_all.2.2.2.2.1 (by decide) (fun s' hs => C_next pop (by omega) (by omega) k31 (by decide) ⟨fun q => absurd q (by decide), fun _ => hs, fun q => absurd q (by decide), fun q => absurd q (by decide), fun q => absurd q (by decide)⟩ (Or.inr (Or.inr (Or.inl rfl)))) (fun m' hm => M2 _ _ ge root (by omega) s24 hm)
    · -- a function
      rw [a] at s24 k31
      obtain ⟨sh3, sh4⟩ := sh2 (by omega)
      have wM := (hW _ rM).2 (by omega)
      obtain ⟨u1, u2⟩ := (((W4 n0).2.2.2.2.2 (ρM y) rM).1.2.2) (by omega)
      have rMl := (DM.1 _ wM.1).1
      have rootl := M_root (F := G') (W4 n0) hσ wM.1 (by omega)
      have shl := (WE_sh hE wM.1).1
      rw [sh3] at shl
      have s24l : hs_A (hs_pI m 0 40 (nI n0)) 24 (σ (ρM (alf A (ρM y)))) = nI (ash A (ρC (alf A x))) := by
        have := ((W4 n0).2.2.2.2.2 _ rMl).1.2.1
        rw [shl] at this
        exact this
      have wl := (hW _ (DC.1 _ ((hW x hx).2 (by omega)).1).1).1
      have sql := hσ.2.1 _ rMl
      have O1' := OU_fr hO f1 (hs_fr_pI (P := [(0, 40)]) (As := []) (s := m) (a := 0) (k := 40) (v := nI n0) (by decide)) (by decide) (by decide)
      obtain ⟨s', m5, m', w', b1, b2, b3, b4, b5, b6, b7, b8, b9⟩ := W_fun0 (G := G) hE U1 (W4 n0) d31 (by simp only [hs_I_pI, hs_I_pA, hs_A_pI, hs_A_pA, and_true, true_and, and_false, false_and, and_self, eq_self, Nat.reduceEqDiff, ↓reduceIte]) (SK4 n0) (LR4 n0) O1' hx ex hrk hy ey a hG
      have st := M3 _ _ _ m5 ge root (by omega) s24 (by rw [u1]; exact rootl) (by omega) s24l (by omega) b2 (by rw [b3.1 _ _ (by decide)]; simp only [hs_I_pI, hs_I_pA, hs_A_pI, hs_A_pA, and_true, true_and, and_false, false_and, and_self, eq_self, Nat.reduceEqDiff, ↓reduceIte]) (b3.2 25 (by decide) _) (b3.2 26 (by decide) _)
      rw [u1, u2, ← b4] at st
      exact ⟨s', m', _, d0 + 2, n0 + 3, w', c, C_next pop (by omega) (by omega) k31 (by decide) ⟨fun q => absurd q (by decide), fun q => absurd q (by decide), fun _ => b1, fun q => absurd q (by decide), fun q => absurd q (by decide)⟩ (by decide), st, b5, b6, by omega, f1t.cons b8, (fm4 n0).cons b9, by omega⟩
    · -- a pair
      rw [a] at s24 k31
      obtain ⟨u1, u2⟩ := (((W4 n0).2.2.2.2.2 (ρM y) rM).1.2.2) (by omega)
      have O1' := OU_fr hO f1 (hs_fr_pI (P := [(0, 40)]) (As := []) (s := m) (a := 0) (k := 40) (v := nI n0) (by decide)) (by decide) (by decide)
      obtain ⟨s', m5, m', w', b1, b2, b3, b4, b5, b6, b7, b8, b9⟩ := W_pr0 (G := G) hE U1 (W4 n0) d31 (by simp only [hs_I_pI, hs_I_pA, hs_A_pI, hs_A_pA, and_true, true_and, and_false, false_and, and_self, eq_self, Nat.reduceEqDiff, ↓reduceIte]) (SK4 n0) (LR4 n0) O1' hx ex hrk hy ey a hG
      have st := M4 _ m5 ge root (by omega) s24 b2 (by rw [b3.1 _ _ (by decide)]; simp only [hs_I_pI, hs_I_pA, hs_A_pI, hs_A_pA, and_true, true_and, and_false, false_and, and_self, eq_self, Nat.reduceEqDiff, ↓reduceIte]) (b3.2 25 (by decide) _) (b3.2 26 (by decide) _) (by omega)
      rw [u1, u2, ← b4] at st
      exact ⟨s', m', _, d0 + 2, n0 + 4, w', c, C_next pop (by omega) (by omega) k31 (by decide) ⟨fun q => absurd q (by decide), fun q => absurd q (by decide), fun q => absurd q (by decide), fun _ => b1, fun q => absurd q (by decide)⟩ (by decide), st, b5, b6, by omega, f1t.cons b8, (fm4 n0).cons b9, by omega⟩
  · -- a function, behind its first part
    have gn1 : gn A x 1 = 2 := by unfold gn; rw [if_pos rfl, if_pos a3']
    simp only [gn1] at h40 sb ⊢
    have O1' := OU_fr hO f1 (hs_fr_pI (P := [(0, 40)]) (As := []) (s := m) (a := 0) (k := 40) (v := nI (n0 + 1)) (by decide)) (by decide) (by decide)
    obtain ⟨s', m', w', b1, b2, b3, b4, b5, b6, b7, b8⟩ := W_fun1 (G := G) (G' := G') hE U1 (W4 (n0 + 1)) d31 (by simp only [hs_I_pI, hs_I_pA, hs_A_pI, hs_A_pA, and_true, true_and, and_false, false_and, and_self, eq_self, Nat.reduceEqDiff, ↓reduceIte]) (SK4 (n0 + 1)) (LR4 (n0 + 1)) O1' hx ex hrk hy ey (by simp only [hs_I_pI, hs_I_pA, hs_A_pI, hs_A_pA, and_true, true_and, and_false, false_and, and_self, eq_self, Nat.reduceEqDiff, ↓reduceIte]; exact m27) a3' hG hG'
    rw [a3'] at k31
    rcases M_w0 (G := G') (n := n0 + 1) h40 (by omega) O4 hw mk rfl with ⟨N1, N2, -⟩ | q
    case inr => omega
    have st : l_M_X11_writeType_0_40 (G' + 1) m = l_M_X11_writeType_0_40 G' m' := by
      by_cases e : ash A (ρC (alf A x)) = 3
      · rw [if_pos e] at b2 N1 N2
        exact N2 rfl m' b2
      · rw [if_neg e] at b2 N1 N2
        exact N1 rfl m' b2
    exact ⟨s', m', _, d0 + 1, n0 + 1, w', c, C_next pop (by omega) (by omega) k31 (by decide) ⟨fun q => absurd q (by decide), fun q => absurd q (by decide), fun _ => b1, fun q => absurd q (by decide), fun q => absurd q (by decide)⟩ (by decide), st, b3, b4, by omega, f1t.cons b7, (fm4 (n0 + 1)).cons b8, by omega⟩
  · -- a pair, between its parts
    have gn1 : gn A x 1 = 3 := by unfold gn; rw [if_pos rfl, if_neg (by omega)]
    simp only [gn1] at h40 sb ⊢
    have O1' := OU_fr hO f1 (hs_fr_pI (P := [(0, 40)]) (As := []) (s := m) (a := 0) (k := 40) (v := nI (n0 + 2)) (by decide)) (by decide) (by decide)
    obtain ⟨s', m', w', b1, b2, b3, b4, b5, b7, b8⟩ := W_pr1 (G := G) (G' := G') hE U1 (W4 (n0 + 2)) d31 (by simp only [hs_I_pI, hs_I_pA, hs_A_pI, hs_A_pA, and_true, true_and, and_false, false_and, and_self, eq_self, Nat.reduceEqDiff, ↓reduceIte]) (SK4 (n0 + 2)) (LR4 (n0 + 2)) O1' hx ex hrk hy ey (by simp only [hs_I_pI, hs_I_pA, hs_A_pI, hs_A_pA, and_true, true_and, and_false, false_and, and_self, eq_self, Nat.reduceEqDiff, ↓reduceIte]; exact m27) (by simp only [hs_I_pI, hs_I_pA, hs_A_pI, hs_A_pA, and_true, true_and, and_false, false_and, and_self, eq_self, Nat.reduceEqDiff, ↓reduceIte]; exact m271) a4' hG hG'
    rw [a4'] at k31
    rcases M_w0 (G := G') (n := n0 + 2) h40 (by omega) O4 hw m272 rfl with ⟨-, -, N3, -⟩ | q
    case inr => omega
    exact ⟨s', m', _, d0 + 2, n0 + 2, w', c, C_next pop (by omega) (by omega) k31 (by decide) ⟨fun q => absurd q (by decide), fun q => absurd q (by decide), fun q => absurd q (by decide), fun _ => b1, fun q => absurd q (by decide)⟩ (by decide), N3 rfl m' b2, b3, b4, by omega, f1t.cons b7, (fm4 (n0 + 2)).cons b8, by omega⟩
  · -- a pair's end
    have gn1 : gn A x 2 = 1 := by unfold gn; rw [if_neg (by omega)]
    simp only [gn1] at h40 sb ⊢
    rcases M_w0 (G := G') h40 (by omega) O4 hw m27 rfl with ⟨-, -, -, N4, -⟩ | q
    case inr => omega
    rw [a4'] at k31
    exact done n0 6 41 rfl (by omega) (by omega) wd_all.2.2.2.2.2.2.2.2 (by decide) (fun s' hs => C_next pop (by omega) (by omega) k31 (by decide) ⟨fun q => absurd q (by decide), fun q => absurd q (by decide), fun q => absurd q (by decide), fun _ => C_pr2 hs, fun q => absurd q (by decide)⟩ (by decide)) (fun m' hm => N4 rfl m' hm)
