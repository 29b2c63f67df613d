/-! THE FUNCTIONS: rows for states. -/
theorem hs_I_pI (s : hp_S) (a k : Nat) (v : Int32) (b j : Nat) : hs_I (hs_pI s a k v) b j = if b = a ∧ j = k then v else hs_I s b j := by
  simp only [hs_I, hs_pI, upd]
  by_cases h1 : b = a
  · subst h1
    by_cases h2 : j = k
    · simp [h2, upd]
    · simp [h2, upd]
  · simp [h1]
theorem hs_I_pA (s : hp_S) (a i : Nat) (v : Int32) (b j : Nat) : hs_I (hs_pA s a i v) b j = hs_I s b j := rfl
theorem hs_A_pI (s : hp_S) (a k : Nat) (v : Int32) (b j : Nat) : hs_A (hs_pI s a k v) b j = hs_A s b j := rfl
theorem hs_A_pA (s : hp_S) (a i : Nat) (v : Int32) (b j : Nat) : hs_A (hs_pA s a i v) b j = if b = a ∧ j = i then v else hs_A s b j := by
  simp only [hs_A, hs_pA, upd]
  by_cases h1 : b = a
  · subst h1
    by_cases h2 : j = i
    · simp [h2, upd]
    · simp [h2, upd]
  · simp [h1]
/-- the frame: only the ints of P (object, field) and the arrays of As have changed -/
def hs_fr (P : List (Nat × Nat)) (As : List Nat) (s t : hp_S) : Prop := (∀ a k, (a, k) ∉ P → hs_I t a k = hs_I s a k) ∧ ∀ a, a ∉ As → ∀ i, hs_A t a i = hs_A s a i
theorem hs_fr.rf {P : List (Nat × Nat)} {As : List Nat} {s : hp_S} : hs_fr P As s s := ⟨fun _ _ _ => rfl, fun _ _ _ => rfl⟩
theorem hs_fr.tr {P P2 P3 : List (Nat × Nat)} {As As2 As3 : List Nat} {s t u : hp_S} (h : hs_fr P As s t) (h2 : hs_fr P2 As2 t u) (hI : ∀ a, a ∈ P ∨ a ∈ P2 → a ∈ P3) (hA : ∀ a, a ∈ As ∨ a ∈ As2 → a ∈ As3) : hs_fr P3 As3 s u :=
  ⟨fun a k ha => by rw [h2.1 a k (fun q => ha (hI _ (Or.inr q))), h.1 a k (fun q => ha (hI _ (Or.inl q)))], fun a ha k => by rw [h2.2 a (fun q => ha (hA a (Or.inr q))), h.2 a (fun q => ha (hA a (Or.inl q)))]⟩
theorem hs_fr.cons {P : List (Nat × Nat)} {As : List Nat} {s t u : hp_S} (h : hs_fr P As s t) (h2 : hs_fr P As t u) : hs_fr P As s u := h.tr h2 (fun a q => q.elim id id) (fun a q => q.elim id id)
theorem hs_fr.mono {P P2 : List (Nat × Nat)} {As As2 : List Nat} {s t : hp_S} (h : hs_fr P As s t) (hI : ∀ a, a ∈ P → a ∈ P2) (hA : ∀ a, a ∈ As → a ∈ As2) : hs_fr P2 As2 s t := h.tr (hs_fr.rf (P := []) (As := [])) (fun a q => q.elim (hI a) (fun q => by cases q)) (fun a q => q.elim (hA a) (fun q => by cases q))
theorem hs_fr_pI {P : List (Nat × Nat)} {As : List Nat} {s : hp_S} {a k : Nat} {v : Int32} (h : (a, k) ∈ P) : hs_fr P As s (hs_pI s a k v) :=
  ⟨fun b j hb => by rw [hs_I_pI, if_neg (fun q : b = a ∧ j = k => hb (by rw [q.1, q.2]; exact h))], fun _ _ _ => rfl⟩
theorem hs_fr_pA {P : List (Nat × Nat)} {As : List Nat} {s : hp_S} {a i : Nat} {v : Int32} (h : a ∈ As) : hs_fr P As s (hs_pA s a i v) :=
  ⟨fun _ _ _ => rfl, fun b hb j => by rw [hs_A_pA, if_neg (fun q : b = a ∧ j = i => hb (q.1 ▸ h))]⟩
theorem ib_nI {k N : Nat} (h : k < N) (hN : N < 2 ^ 31) : pm_ib (nI k) N = true := by
  simp only [pm_ib, Bool.and_eq_true, Bool.not_eq_true', decide_eq_false_iff_not, decide_eq_true_eq]
  exact ⟨nI_pos (by omega), by rw [nI_clamp (by omega)]; exact h⟩
theorem gd_t {γ : Type} {c : Bool} {x : Option γ} (h : c = true) : pm_gd1 c x = x := by rw [h]; rfl
theorem nb_idem (x : Int32) : (x.toInt8.toInt32).toInt8.toInt32 = x.toInt8.toInt32 := by simp
theorem nb_nar (x : Int32) : vp_nar .byte x = x.toInt8.toInt32 := rfl
theorem sh_u : ∀ k, k < 8 → (((8 : Int32) * nI k).toInt64.toUInt64 &&& Int64.toUInt64 63) = UInt64.ofNat (8 * k) := by decide +kernel
theorem sh_s : ∀ k, k < 8 → (((8 : Int32) * nI k).toInt64 &&& 63) = Int64.ofNat (8 * k) := by decide +kernel
theorem sh_t : ∀ k, k < 8 → ((Int64.ofNat (8 * k)).toBitVec.smod 64).toNat = 8 * k ∧ (UInt64.ofNat (8 * k)).toNat % 64 = 8 * k := by decide +kernel
/-- the low byte of a long that is shifted by whole bytes, with or without its sign -/
theorem lo_byte (v : Int64) (k : Nat) (hk : k < 8) : (((v.toUInt64 >>> (((8 : Int32) * nI k).toInt64.toUInt64 &&& Int64.toUInt64 63)).toInt64).toInt32).toInt8 = ((v >>> (((8 : Int32) * nI k).toInt64 &&& 63)).toInt32).toInt8 := by
  rw [sh_u k hk, sh_s k hk]
  obtain ⟨e1, e2⟩ := sh_t k hk
  apply Int8.toBitVec_inj.mp
  apply BitVec.eq_of_getLsbD_eq
  intro i hi
  simp only [Int32.toBitVec_toInt8, Int64.toBitVec_toInt32, UInt64.toBitVec_toInt64, UInt64.toBitVec_shiftRight, Int64.toBitVec_shiftRight, Int64.toBitVec_toUInt64, BitVec.getLsbD_signExtend]
  have h1 : v.toBitVec >>> ((UInt64.ofNat (8 * k)).toBitVec % 64) = v.toBitVec >>> (8 * k) := by
    rw [BitVec.ushiftRight_eq', BitVec.toNat_umod]
    have e3 : (UInt64.ofNat (8 * k)).toBitVec.toNat % (64#64).toNat = 8 * k := e2
    show v.toBitVec >>> ((UInt64.ofNat (8 * k)).toBitVec.toNat % (64#64).toNat) = _
    rw [e3]
  have h2 : (v.toBitVec.sshiftRight' ((Int64.ofNat (8 * k)).toBitVec.smod 64)) = v.toBitVec.sshiftRight (8 * k) := by
    rw [BitVec.sshiftRight_eq', e1]
  rw [h1, h2]
  have g1 : i < 32 := by omega
  have g2 : i < 64 := by omega
  have g3 : ¬ 64 ≤ i := by omega
  have g4 : 8 * k + i < 64 := by omega
  simp only [hi, g1, g2, if_true, decide_true, Bool.true_and, BitVec.getLsbD_ushiftRight, BitVec.getLsbD_sshiftRight, g3, g4, decide_false, Bool.not_false]
/-! what can be seen: the text, the last results, what is left to be fetched -/
def rl_tx (sC sM : hp_S) : Prop := ∃ n : Nat, n ≤ 500 ∧ hs_I sC 1 1 = nI n ∧ hs_I sM 0 1 = nI n ∧ ∀ j, j < n → hs_A sC 2 j = hs_A sM 1 j ∧ (hs_A sC 2 j).toInt8.toInt32 = hs_A sC 2 j
def rl_out (sC sM : hp_S) : Prop := ∃ t m : Nat, t + m ≤ 4000 ∧ hs_I sC 39 1 = nI (t + m) ∧ hs_I sC 39 2 = nI t ∧ hs_I sM 0 46 = nI m ∧ ∀ j, j < m → hs_A sC 40 (t + j) = hs_A sM 32 j ∧ (hs_A sM 32 j).toInt8.toInt32 = hs_A sM 32 j
/-- how many of the first n entries of a row aren't 0 -/
def nz_cnt (f : Nat → Int32) : Nat → Nat
  | 0 => 0
  | n + 1 => nz_cnt f n + if f n = 0 then 0 else 1
def rl_res (sC sM : hp_S) : Prop := hs_I sC 0 10 = hs_I sM 0 4 ∧ hs_I sC 0 13 = hs_I sM 0 32 ∧ ∃ n : Nat, n ≤ 100 ∧ hs_I sC 0 11 = nI n ∧ hs_I sM 0 12 = nI n ∧ ((hs_I sM 0 49 = 0 ∧ hs_I sC 0 12 = 0 ∧ ∀ j, j < n → hs_A sC 42 j = 0) ∨ (hs_I sM 0 49 ≠ 0 ∧ hs_I sC 0 12 = nI (nz_cnt (hs_A sM 30) n) ∧ ∀ j, j < n → (hs_A sC 42 j = 0 ↔ hs_A sM 30 j = 0)))
def rl_Inv (_ : Nat) (sC sM : hp_S) : Prop := rl_tx sC sM ∧ rl_out sC sM ∧ rl_res sC sM
theorem nz_le (f : Nat → Int32) : ∀ n, nz_cnt f n ≤ n
  | 0 => Nat.le_refl 0
  | n + 1 => by
    have := nz_le f n
    simp only [nz_cnt]
    split <;> omega
theorem pu_place (j : Nat) (sC sM : hp_S) (h : rl_Inv j sC sM) : ∃ r tC tM, f_C_X10_place_0 sC = some (r, tC) ∧ f_M_X11_place_0 sM = some (r, tM) ∧ rl_Inv (j + 1) tC tM := by
  refine ⟨hs_I sC 0 10, sC, sM, rfl, ?_, h⟩
  rw [h.2.2.1]
  rfl
theorem pu_isIn (j : Nat) (sC sM : hp_S) (k : Int32) (h : rl_Inv j sC sM) : ∃ r tC tM, f_C_X10_isIn_0 k sC = some (r, tC) ∧ f_M_X11_isIn_0 k sM = some (r, tM) ∧ rl_Inv (j + 1) tC tM := by
  obtain ⟨h1, h2, h3, h4, n, hn, e1, e2, hs⟩ := id h
  unfold f_C_X10_isIn_0 f_M_X11_isIn_0
  rw [e1, e2]
  by_cases c1 : k < 0
  · refine ⟨0, sC, sM, by rw [if_pos c1], ?_, h⟩
    split
    · rfl
    · rfl
  rw [if_neg c1, if_neg c1]
  by_cases c2 : nI n ≤ k
  · refine ⟨0, sC, sM, by rw [if_pos c2], ?_, h⟩
    split
    · rfl
    · rfl
  rw [if_neg c2, if_neg c2]
  obtain ⟨i, hi, rfl⟩ : ∃ i, i < n ∧ k = nI i := by
    rcases pk_ix k (n := n) (by omega) with q | q | q
    · exact absurd q c1
    · exact absurd q c2
    · exact q
  have c3 : ¬ (100 : Int32) ≤ nI i := by
    rw [show (100 : Int32) = nI 100 from rfl, nI_leI (by omega) (by omega)]
    omega
  rw [if_neg c3, gd_t (ib_nI (by omega) (by omega)), gd_t (ib_nI (by omega) (by omega)), nI_clamp (by omega)]
  rcases hs with ⟨f1, f2, f3⟩ | ⟨f1, f2, f3⟩
  · refine ⟨0, sC, sM, ?_, by rw [if_pos f1], h⟩
    rw [if_pos (f3 i hi)]
  · rw [if_neg f1]
    by_cases c4 : hs_A sC 42 i = 0
    · exact ⟨0, sC, sM, by rw [if_pos c4], by rw [if_pos ((f3 i hi).mp c4)], h⟩
    · exact ⟨1, sC, sM, by rw [if_neg c4], by rw [if_neg (fun q => c4 ((f3 i hi).mpr q))], h⟩
def ct_ans (a1 m : Int32) (s : hp_S) : Option (Int32 × hp_S) := if a1 = 0 then some (hs_I s 0 1, s) else if a1 = 1 then some (hs_I s 0 12, s) else if a1 = 2 then some (m, s) else if a1 = 3 then some (hs_I s 0 32, s) else if a1 = 4 then some (hs_I s 0 46, s) else some (-1, s)
theorem M_count_loop (s : hp_S) (a1 : Int32) (N : Nat) (hN : N ≤ 100) (e : hs_I s 0 12 = nI N) (hs : hs_I s 0 49 ≠ 0) : ∀ (d k n : Nat), k + d = N → d + 1 ≤ n → l_M_X11_count_0_4 n a1 (nI (nz_cnt (hs_A s 30) k)) (nI k) s = ct_ans a1 (nI (nz_cnt (hs_A s 30) N)) s := by
  intro d
  induction d with
  | zero =>
    intro k n hk hn
    obtain ⟨n, rfl⟩ : ∃ q, n = q + 1 := ⟨n - 1, by omega⟩
    obtain rfl : k = N := by omega
    rw [l_M_X11_count_0_4.eq_2]
    simp only [pm_let]
    rw [if_pos (by rw [e]; exact nI_le (Nat.le_refl _) (by omega))]
    rfl
  | succ d ih =>
    intro k n hk hn
    obtain ⟨n, rfl⟩ : ∃ q, n = q + 1 := ⟨n - 1, by omega⟩
    rw [l_M_X11_count_0_4.eq_2]
    simp only [pm_let]
    rw [e, if_neg (nI_ge (by omega) (by omega)), if_neg hs, gd_t (ib_nI (by omega) (by omega)), nI_clamp (by omega)]
    have h2 := ih (k + 1) n (by omega) (by omega)
    by_cases c : hs_A s 30 k = 0
    · rw [if_pos c]
      rw [show nz_cnt (hs_A s 30) (k + 1) = nz_cnt (hs_A s 30) k by simp [nz_cnt, c]] at h2
      rw [← h2, nI_1, Int32.add_zero]
    · rw [if_neg c]
      rw [show nz_cnt (hs_A s 30) (k + 1) = nz_cnt (hs_A s 30) k + 1 by simp [nz_cnt, c]] at h2
      rw [← h2, nI_1, nI_1]
theorem pu_count (j : Nat) (sC sM : hp_S) (k : Int32) (h : rl_Inv j sC sM) : ∃ r tC tM, f_C_X10_count_0 k sC = some (r, tC) ∧ (∃ n, f_M_X11_count_0 n k sM = some (r, tM)) ∧ rl_Inv (j + 1) tC tM := by
  obtain ⟨⟨nt, ht1, ht2, ht3, -⟩, ⟨ot, om, ho1, ho2, ho3, ho4, -⟩, h3, h4, n, hn, e1, e2, hs⟩ := id h
  have key : ∃ m, (∃ q, f_M_X11_count_0 q k sM = ct_ans k m sM) ∧ hs_I sC 0 12 = m := by
    rcases hs with ⟨f1, f2, -⟩ | ⟨f1, f2, -⟩
    · refine ⟨0, ⟨1, ?_⟩, f2⟩
      unfold f_M_X11_count_0
      rw [l_M_X11_count_0_4.eq_2]
      simp only [pm_let]
      by_cases c : hs_I sM 0 12 ≤ 0
      · rw [if_pos c]
        rfl
      · rw [if_neg c, if_pos f1]
        rfl
    · refine ⟨_, ⟨n + 1, ?_⟩, f2⟩
      exact M_count_loop sM k n hn e2 f1 n 0 (n + 1) (by omega) (by omega)
  obtain ⟨m, ⟨q, hq⟩, hm⟩ := key
  unfold f_C_X10_count_0
  simp only [pm_bd, f_C_X5_length_1, f_C_X3_left_39]
  have hl : hs_I sC 39 1 - hs_I sC 39 2 = hs_I sM 0 46 := by
    rw [ho2, ho3, ho4, pk_sub (by omega)]
    congr 1
    omega
  rw [ht2, e1, hm, h4, hl]
  unfold ct_ans at hq
  rw [ht3, e2] at hq
  by_cases c0 : k = 0
  · rw [if_pos c0]; rw [if_pos c0] at hq; exact ⟨_, _, _, rfl, ⟨q, hq⟩, h⟩
  rw [if_neg c0]; rw [if_neg c0] at hq
  by_cases c1 : k = 1
  · rw [if_pos c1]; rw [if_pos c1] at hq; exact ⟨_, _, _, rfl, ⟨q, hq⟩, h⟩
  rw [if_neg c1]; rw [if_neg c1] at hq
  by_cases c2 : k = 2
  · rw [if_pos c2]; rw [if_pos c2] at hq; exact ⟨_, _, _, rfl, ⟨q, hq⟩, h⟩
  rw [if_neg c2]; rw [if_neg c2] at hq
  by_cases c3 : k = 3
  · rw [if_pos c3]; rw [if_pos c3] at hq; exact ⟨_, _, _, rfl, ⟨q, hq⟩, h⟩
  rw [if_neg c3]; rw [if_neg c3] at hq
  by_cases c4 : k = 4
  · rw [if_pos c4]; rw [if_pos c4] at hq; exact ⟨_, _, _, rfl, ⟨q, hq⟩, h⟩
  rw [if_neg c4]; rw [if_neg c4] at hq
  exact ⟨_, _, _, rfl, ⟨q, hq⟩, h⟩
/-- n bytes of text, the same in both -/
def rl_txn (n : Nat) (sC sM : hp_S) : Prop := hs_I sC 1 1 = nI n ∧ hs_I sM 0 1 = nI n ∧ ∀ j, j < n → hs_A sC 2 j = hs_A sM 1 j ∧ (hs_A sC 2 j).toInt8.toInt32 = hs_A sC 2 j
theorem put_loops (v : Int64) : ∀ (k m n : Nat) (sC sM : hp_S) (x : Int32), k ≤ 8 → m + k ≤ 500 → k + 1 ≤ n → x + 1 = nI k → rl_txn m sC sM → ∃ tC tM, l_C_X10_put_0_33 n v x sC = some (1, tC) ∧ l_M_X11_put_0_30 n v x sM = some (1, tM) ∧ rl_txn (m + k) tC tM ∧ hs_fr [(1, 1)] [2] sC tC ∧ hs_fr [(0, 1)] [1] sM tM := by
  intro k
  induction k with
  | zero =>
    intro m n sC sM x hk hm hn hx h
    obtain ⟨n, rfl⟩ : ∃ q, n = q + 1 := ⟨n - 1, by omega⟩
    have hx2 : x = -1 := by
      have : x = (x + 1) - 1 := by simp
      rw [this, hx]
      decide
    subst hx2
    refine ⟨sC, sM, ?_, ?_, h, hs_fr.rf, hs_fr.rf⟩
    · rw [l_C_X10_put_0_33.eq_2, if_pos (by decide)]
    · rw [l_M_X11_put_0_30.eq_2, if_pos (by decide)]
  | succ k ih =>
    intro m n sC sM x hk hm hn hx h
    obtain ⟨n, rfl⟩ : ∃ q, n = q + 1 := ⟨n - 1, by omega⟩
    have hx2 : x = nI k := by
      have : x = (x + 1) - 1 := by simp
      rw [this, hx, nI_pred]
    subst hx2
    obtain ⟨h1, h2, h3⟩ := h
    have g1 : ¬ (500 : Int32) ≤ nI m := by
      rw [show (500 : Int32) = nI 500 from rfl, nI_leI (by omega) (by omega)]
      omega
    rw [l_C_X10_put_0_33.eq_2, l_M_X11_put_0_30.eq_2, if_neg (nI_pos (by omega)), if_neg (nI_pos (by omega))]
    unfold f_C_X5_append_1
    rw [h1, h2, if_neg g1, gd_t (ib_nI (show m < 500 by omega) (by omega)), gd_t (ib_nI (show m < 500 by omega) (by omega)), nI_clamp (by omega)]
    simp only [pm_let, pm_b1, hs_I_pA, h1, h2, nI_1, nb_nar, nb_idem]
    rw [lo_byte v k (by omega)]
    have hz := nb_idem ((v >>> (((8 : Int32) * nI k).toInt64 &&& 63)).toInt32)
    generalize ((v >>> (((8 : Int32) * nI k).toInt64 &&& 63)).toInt32).toInt8.toInt32 = z at *
    obtain ⟨tC, tM, a1, a2, a3, a4, a5⟩ := ih (m + 1) n (hs_pI (hs_pA sC 2 m z) 1 1 (nI (m + 1))) (hs_pI (hs_pA sM 1 m z) 0 1 (nI (m + 1))) (nI k + -1) (by omega) (by omega) (by omega) (by rw [Int32.add_assoc, show (-1 : Int32) + 1 = 0 by decide, Int32.add_zero]) ⟨by rw [hs_I_pI]; rfl, by rw [hs_I_pI]; rfl, fun j hj => by
      simp only [hs_A_pI, hs_A_pA, true_and]
      by_cases c : j = m
      · rw [if_pos c, if_pos c]; exact ⟨rfl, hz⟩
      · rw [if_neg c, if_neg c]; exact h3 j (by omega)⟩
    refine ⟨tC, tM, a1, a2, ?_, ?_, ?_⟩
    · rw [show m + (k + 1) = m + 1 + k by omega]; exact a3
    · exact ((hs_fr_pA (by decide)).cons (hs_fr_pI (by decide))).cons a4
    · exact ((hs_fr_pA (by decide)).cons (hs_fr_pI (by decide))).cons a5
/-- other ints and arrays unchanged: what can be seen of the results and the output stays -/
theorem rl_out_fr {sC sM tC tM : hp_S} {P1 P2 : List (Nat × Nat)} {A1 A2 : List Nat} (h : rl_out sC sM) (f1 : hs_fr P1 A1 sC tC) (f2 : hs_fr P2 A2 sM tM) (g1 : (39, 1) ∉ P1 ∧ (39, 2) ∉ P1 ∧ 40 ∉ A1) (g2 : (0, 46) ∉ P2 ∧ 32 ∉ A2) : rl_out tC tM := by
  obtain ⟨t, m, h1, h2, h3, h4, h5⟩ := h
  refine ⟨t, m, h1, by rw [f1.1 _ _ g1.1]; exact h2, by rw [f1.1 _ _ g1.2.1]; exact h3, by rw [f2.1 _ _ g2.1]; exact h4, fun j hj => ?_⟩
  rw [f1.2 _ g1.2.2, f2.2 _ g2.2]
  exact h5 j hj
theorem rl_res_fr {sC sM tC tM : hp_S} {P1 P2 : List (Nat × Nat)} {A1 A2 : List Nat} (h : rl_res sC sM) (f1 : hs_fr P1 A1 sC tC) (f2 : hs_fr P2 A2 sM tM) (g1 : (0, 10) ∉ P1 ∧ (0, 11) ∉ P1 ∧ (0, 12) ∉ P1 ∧ (0, 13) ∉ P1 ∧ 42 ∉ A1) (g2 : (0, 4) ∉ P2 ∧ (0, 12) ∉ P2 ∧ (0, 32) ∉ P2 ∧ (0, 49) ∉ P2 ∧ 30 ∉ A2) : rl_res tC tM := by
  obtain ⟨h1, h2, n, hn, h3, h4, h5⟩ := h
  have e : hs_A tM 30 = hs_A sM 30 := funext fun i => f2.2 _ g2.2.2.2.2 i
  refine ⟨by rw [f1.1 _ _ g1.1, f2.1 _ _ g2.1]; exact h1, by rw [f1.1 _ _ g1.2.2.2.1, f2.1 _ _ g2.2.2.1]; exact h2, n, hn, by rw [f1.1 _ _ g1.2.1]; exact h3, by rw [f2.1 _ _ g2.2.1]; exact h4, ?_⟩
  rw [f1.1 _ _ g1.2.2.1, f2.1 _ _ g2.2.2.2.1, e]
  rcases h5 with ⟨a1, a2, a3⟩ | ⟨a1, a2, a3⟩
  · exact Or.inl ⟨a1, a2, fun j hj => by rw [f1.2 _ g1.2.2.2.2]; exact a3 j hj⟩
  · exact Or.inr ⟨a1, a2, fun j hj => by rw [f1.2 _ g1.2.2.2.2]; exact a3 j hj⟩
theorem pu_put (j : Nat) (sC sM : hp_S) (v : Int64) (k : Int32) (h : rl_Inv j sC sM) : ∃ r tC tM, (∃ n, f_C_X10_put_0 n v k sC = some (r, tC)) ∧ (∃ n, f_M_X11_put_0 n v k sM = some (r, tM)) ∧ rl_Inv (j + 1) tC tM := by
  obtain ⟨⟨m, hm, e1, e2, e3⟩, h2, h3⟩ := id h
  unfold f_C_X10_put_0 f_M_X11_put_0
  simp only [pm_bd, f_C_X5_length_1, e1, e2, pm_let]
  by_cases c1 : k < 1
  · exact ⟨0, sC, sM, ⟨0, by rw [if_pos c1]⟩, ⟨0, by rw [if_pos c1]⟩, h⟩
  by_cases c2 : 8 < k
  · exact ⟨0, sC, sM, ⟨0, by rw [if_neg c1, if_pos c2]⟩, ⟨0, by rw [if_neg c1, if_pos c2]⟩, h⟩
  obtain ⟨q, hq, rfl⟩ : ∃ q, q ≤ 8 ∧ k = nI q := nI_of2 (M := 8) (n := 8) (by decide) (fun z => c1 (Int32.lt_trans z (by decide))) (Int32.not_lt.mp c2)
  have hq0 : 1 ≤ q := by
    rcases Nat.lt_or_ge q 1 with z | z
    · exact absurd (by rw [show (1 : Int32) = nI 1 from rfl]; exact nI_lt z (by omega)) c1
    · exact z
  by_cases c3 : m + q ≤ 500
  · have c4 : nI m + nI q ≤ 500 := by
      rw [nI_add, show (500 : Int32) = nI 500 from rfl]
      exact nI_le c3 (by omega)
    obtain ⟨tC, tM, a1, a2, a3, a4, a5⟩ := put_loops v q m (q + 1) sC sM (nI q - 1) hq c3 (by omega) (by simp) ⟨e1, e2, e3⟩
    refine ⟨1, tC, tM, ⟨q + 1, by rw [if_neg c1, if_neg c2, if_pos c4]; exact a1⟩, ⟨q + 1, by rw [if_neg c1, if_neg c2, if_pos c4]; exact a2⟩, ⟨m + q, c3, a3⟩, rl_out_fr h2 a4 a5 (by decide) (by decide), rl_res_fr h3 a4 a5 (by decide) (by decide)⟩
  · have c4 : ¬ nI m + nI q ≤ 500 := by
      rw [nI_add, show (500 : Int32) = nI 500 from rfl, nI_leI (by omega) (by omega)]
      exact c3
    exact ⟨0, sC, sM, ⟨0, by rw [if_neg c1, if_neg c2, if_neg c4]⟩, ⟨0, by rw [if_neg c1, if_neg c2, if_neg c4]⟩, h⟩
