/-! fetch: the bytes into a long, in both -/
def tk_A (q : Nat) (b : Nat → Nat) : Nat → Nat
  | 0 => q
  | i + 1 => tk_A q b i * 256 + (if i < q then b i else 0)
def tk_V (q : Nat) (b : Nat → Nat) : Nat → Nat
  | 0 => q * 2 ^ 56
  | i + 1 => tk_V q b i + b i * 2 ^ (48 - 8 * i)
theorem tk_eq {q : Nat} (hq : q ≤ 7) (b : Nat → Nat) : tk_A q b 7 = tk_V q b q := by
  rcases (show q = 0 ∨ q = 1 ∨ q = 2 ∨ q = 3 ∨ q = 4 ∨ q = 5 ∨ q = 6 ∨ q = 7 by omega) with rfl | rfl | rfl | rfl | rfl | rfl | rfl | rfl <;> simp [tk_A, tk_V] <;> omega
theorem tk_lt {q : Nat} (hq : q ≤ 7) (b : Nat → Nat) (hb : ∀ i, i < q → b i < 256) : ∀ i, tk_A q b i < 256 ^ i * 8
  | 0 => by simp only [tk_A]; omega
  | i + 1 => by
    have h := tk_lt hq b hb i
    have h2 : (if i < q then b i else 0) < 256 := by
      split
      · next c => exact hb i c
      · decide
    simp only [tk_A]
    have e : 256 ^ (i + 1) * 8 = (256 ^ i * 8) * 256 := by rw [Nat.pow_succ]; omega
    rw [e]
    omega
theorem tk_step {a c : Nat} (hc : c < 256) (ha : a * 256 + c < 2 ^ 64) : (lN a <<< ((8 : Int32).toInt64 &&& 63)) ||| (nI c).toInt64 = lN (a * 256 + c) := by
  rw [show (8 : Int32) = nI 8 from rfl, wb_shl a (by decide), nI_l (by omega)]
  exact g_or (k := 8) (p := 256) (by decide) hc ha
theorem C_take_loop (q t : Nat) (hq : q ≤ 7) (b : Nat → Nat) (hb : ∀ i, i < q → b i < 256) (ht : t + q ≤ 4000) : ∀ (d i n : Nat) (s : hp_S), i + d = 7 → d + 1 ≤ n → hs_I s 39 2 = nI (t + min i q) → (∀ j, j < q → hs_A s 40 (t + j) &&& 255 = nI (b j)) → ∃ u, l_C_X3_take_39_16 n (nI q) (lN (tk_A q b i)) (nI i) s = some (lN (tk_A q b 7), u) ∧ hs_I u 39 2 = nI (t + q) ∧ hs_fr [(39, 2)] [] s u := by
  intro d
  induction d with
  | zero =>
    intro i n s hi hn h1 h2
    obtain ⟨n, rfl⟩ : ∃ z, n = z + 1 := ⟨n - 1, by omega⟩
    obtain rfl : i = 7 := by omega
    refine ⟨s, ?_, ?_, hs_fr.rf⟩
    · rw [l_C_X3_take_39_16.eq_2, if_pos (by decide)]
    · rw [h1, Nat.min_eq_right hq]
  | succ d ih =>
    intro i n s hi hn h1 h2
    obtain ⟨n, rfl⟩ : ∃ z, n = z + 1 := ⟨n - 1, by omega⟩
    have hlt := tk_lt hq b hb (i + 1)
    have hlt2 : tk_A q b (i + 1) < 2 ^ 64 := by
      refine Nat.lt_of_lt_of_le hlt ?_
      rcases (show i = 0 ∨ i = 1 ∨ i = 2 ∨ i = 3 ∨ i = 4 ∨ i = 5 ∨ i = 6 by omega) with rfl | rfl | rfl | rfl | rfl | rfl | rfl <;> decide
    simp only [tk_A] at hlt2
    rw [l_C_X3_take_39_16.eq_2, if_neg (by rw [show (7 : Int32) = nI 7 from rfl]; exact nI_ge (by omega) (by omega))]
    simp only [pm_let]
    by_cases c : i < q
    · rw [if_neg (nI_ge c (by omega)), h1, Nat.min_eq_left (by omega)]
      rw [if_neg (show ¬ (4000 : Int32) ≤ nI (t + i) by rw [show (4000 : Int32) = nI 4000 from rfl]; exact nI_ge (by omega) (by omega)), if_neg (by decide), gd_t (ib_nI (by omega) (by omega)), nI_clamp (by omega), if_neg (by decide), h2 i c, nI_1, nI_1]
      rw [if_pos c] at hlt2
      rw [tk_step (hb i c) hlt2]
      obtain ⟨u, a1, a2, a3⟩ := ih (i + 1) n (hs_pI s 39 2 (nI (t + i + 1))) (by omega) (by omega) (by rw [hs_I_pI, Nat.min_eq_left (by omega)]; rfl) (fun j hj => h2 j hj)
      refine ⟨u, ?_, a2, (hs_fr_pI (by decide)).cons a3⟩
      rw [show tk_A q b (i + 1) = tk_A q b i * 256 + b i by simp [tk_A, c]] at a1
      exact a1
    · rw [if_pos (nI_le (by omega) (by omega))]
      simp only [if_true]
      rw [h1, Nat.min_eq_right (by omega), Int32.add_zero, nI_1]
      rw [if_neg c] at hlt2
      rw [show (0 : Int32).toInt64 = (nI 0).toInt64 from rfl, tk_step (by decide) hlt2]
      obtain ⟨u, a1, a2, a3⟩ := ih (i + 1) n (hs_pI s 39 2 (nI (t + q))) (by omega) (by omega) (by rw [hs_I_pI, Nat.min_eq_right (by omega)]; rfl) (fun j hj => h2 j hj)
      refine ⟨u, ?_, a2, (hs_fr_pI (by decide)).cons a3⟩
      rw [show tk_A q b (i + 1) = tk_A q b i * 256 + 0 by simp [tk_A, c]] at a1
      exact a1
theorem byte_all : ∀ c, c < 256 → sb_b c &&& 255 = nI c ∧ (sb_b c).toInt64 &&& 255 = lN c ∧ (sb_b c).toInt8.toInt32 = sb_b c := by decide +kernel
theorem byte_fin : ∀ c, c < 256 → (nI c).toInt8.toBitVec.toNat = c := by decide +kernel
theorem byte_of (x : Int32) (h : x.toInt8.toInt32 = x) : ∃ c, c < 256 ∧ x = sb_b c := by
  refine ⟨x.toInt8.toBitVec.toNat, x.toInt8.toBitVec.isLt, ?_⟩
  have e : (nI x.toInt8.toBitVec.toNat).toInt8 = x.toInt8 := Int8.toBitVec_inj.mp (BitVec.eq_of_toNat_eq (byte_fin _ x.toInt8.toBitVec.isLt))
  unfold sb_b
  rw [e, h]
theorem tk_sh : ∀ i, i < 7 → (48 : Int32) - 8 * nI i = nI (48 - 8 * i) := by decide +kernel
theorem tk_Vd (q : Nat) (b : Nat → Nat) : ∀ i, i ≤ 7 → ∃ B, tk_V q b i = B * 2 ^ (56 - 8 * i)
  | 0, _ => ⟨q, rfl⟩
  | i + 1, hi => by
    obtain ⟨B, hB⟩ := tk_Vd q b i (by omega)
    refine ⟨B * 256 + b i, ?_⟩
    simp only [tk_V]
    rw [hB, show 56 - 8 * i = (48 - 8 * i) + 8 by omega, show 56 - 8 * (i + 1) = 48 - 8 * i by omega, Nat.pow_add, Nat.add_mul]
    congr 1
    rw [show (2 : Nat) ^ 8 = 256 by decide, Nat.mul_assoc, Nat.mul_comm 256]
theorem tk_Vb {q : Nat} (hq : q ≤ 7) (b : Nat → Nat) (hb : ∀ i, i < q → b i < 256) : ∀ i, i ≤ q → tk_V q b i + 2 ^ (56 - 8 * i) ≤ 8 * 2 ^ 56
  | 0, _ => by simp only [tk_V]; omega
  | i + 1, hi => by
    have h := tk_Vb hq b hb i (by omega)
    have h2 := hb i (by omega)
    simp only [tk_V]
    rw [show 56 - 8 * i = (48 - 8 * i) + 8 by omega, Nat.pow_add, show (2 : Nat) ^ 8 = 256 by decide] at h
    rw [show 56 - 8 * (i + 1) = 48 - 8 * i by omega]
    have h3 : b i * 2 ^ (48 - 8 * i) ≤ 255 * 2 ^ (48 - 8 * i) := Nat.mul_le_mul_right _ (by omega)
    omega
theorem M_shift (q m : Nat) (hq : q ≤ 7) (hm : m ≤ 4000) (g : Nat → Int32) (hg : ∀ j, j < m → (g j).toInt8.toInt32 = g j) (y2 : Int64) : ∀ (d k n : Nat) (s : hp_S), k + d = m → d + 1 ≤ n → q ≤ k → hs_I s 0 46 = nI m → (∀ j, j < k - q → hs_A s 32 j = g (j + q)) → (∀ j, k ≤ j → j < m → hs_A s 32 j = g j) → ∃ u, l_M_X11_fetch_0_67 n (nI q) y2 (nI k) s = some (if nI q = 0 then 0 else y2, u) ∧ hs_I u 0 46 = nI (m - q) ∧ (∀ j, j < m - q → hs_A u 32 j = g (j + q)) ∧ hs_fr [(0, 46)] [32] s u := by
  intro d
  induction d with
  | zero =>
    intro k n s hk hn hqk h1 h2 h3
    obtain ⟨n, rfl⟩ : ∃ z, n = z + 1 := ⟨n - 1, by omega⟩
    obtain rfl : k = m := by omega
    refine ⟨hs_pI s 0 46 (nI k - nI q), ?_, ?_, fun j hj => h2 j hj, hs_fr_pI (by decide)⟩
    · rw [l_M_X11_fetch_0_67.eq_2]
      simp only [pm_let]
      rw [h1, if_pos (nI_le (Nat.le_refl _) (by omega))]
      split <;> rfl
    · rw [hs_I_pI, if_pos ⟨rfl, rfl⟩, pk_sub hqk]
  | succ d ih =>
    intro k n s hk hn hqk h1 h2 h3
    obtain ⟨n, rfl⟩ : ∃ z, n = z + 1 := ⟨n - 1, by omega⟩
    obtain ⟨u, a1, a2, a3, a4⟩ := ih (k + 1) n (hs_pA s 32 (k - q) (g k)) (by omega) (by omega) (by omega) h1 (fun j hj => by
      rw [hs_A_pA]
      by_cases c : j = k - q
      · rw [if_pos ⟨rfl, c⟩]; congr 1; omega
      · rw [if_neg (fun z => c z.2)]; exact h2 j (by omega)) (fun j hj hj2 => by
      rw [hs_A_pA, if_neg (fun z => by omega)]
      exact h3 j (by omega) hj2)
    refine ⟨u, ?_, a2, a3, (hs_fr_pA (by decide)).cons a4⟩
    rw [l_M_X11_fetch_0_67.eq_2]
    simp only [pm_let]
    rw [h1, if_neg (nI_ge (by omega) (by omega)), pk_sub hqk, gd_t (ib_nI (by omega) (by omega)), gd_t (ib_nI (by omega) (by omega)), nI_clamp (by omega), nI_clamp (by omega), h3 k (Nat.le_refl _) (by omega), nb_nar, hg k (by omega), nI_1]
    exact a1
theorem M_pack (q m : Nat) (hq : q ≤ 7) (hqm : q ≤ m) (hm : m ≤ 4000) (g : Nat → Int32) (hg : ∀ j, j < m → (g j).toInt8.toInt32 = g j) (b : Nat → Nat) (hb : ∀ j, j < q → b j < 256 ∧ g j = sb_b (b j)) : ∀ (d i n : Nat) (s : hp_S), i + d = q → d + m + 2 ≤ n → hs_I s 0 46 = nI m → (∀ j, j < m → hs_A s 32 j = g j) → ∃ u, l_M_X11_fetch_0_28 n (nI q) (lN (tk_V q b i)) (nI i) s = some (if nI q = 0 then 0 else lN (tk_V q b q), u) ∧ hs_I u 0 46 = nI (m - q) ∧ (∀ j, j < m - q → hs_A u 32 j = g (j + q)) ∧ hs_fr [(0, 46)] [32] s u := by
  intro d
  induction d with
  | zero =>
    intro i n s hi hn h1 h2
    obtain ⟨n, rfl⟩ : ∃ z, n = z + 1 := ⟨n - 1, by omega⟩
    obtain rfl : i = q := by omega
    obtain ⟨u, a1, a2, a3, a4⟩ := M_shift i m hq hm g hg (lN (tk_V i b i)) (m - i) i n s (by omega) (by omega) (Nat.le_refl _) h1 (fun j hj => by omega) (fun j _ hj => h2 j hj)
    refine ⟨u, ?_, a2, a3, a4⟩
    rw [l_M_X11_fetch_0_28.eq_2, if_pos (nI_le (Nat.le_refl _) (by omega))]
    exact a1
  | succ d ih =>
    intro i n s hi hn h1 h2
    obtain ⟨n, rfl⟩ : ∃ z, n = z + 1 := ⟨n - 1, by omega⟩
    obtain ⟨u, a1, a2, a3, a4⟩ := ih (i + 1) n s (by omega) (by omega) h1 h2
    refine ⟨u, ?_, a2, a3, a4⟩
    rw [l_M_X11_fetch_0_28.eq_2, if_neg (nI_ge (by omega) (by omega)), gd_t (ib_nI (by omega) (by omega)), nI_clamp (by omega), h2 i (by omega)]
    simp only [pm_let]
    obtain ⟨hb1, hb2⟩ := hb i (by omega)
    obtain ⟨B, hB⟩ := tk_Vd q b i (by omega)
    have hV := tk_Vb hq b (fun j hj => (hb j hj).1) i (by omega)
    have e56 : (2 : Nat) ^ (56 - 8 * i) = 2 ^ (48 - 8 * i) * 256 := by
      rw [show 56 - 8 * i = (48 - 8 * i) + 8 by omega, Nat.pow_add]
    have hlt : b i * 2 ^ (48 - 8 * i) < 2 ^ (56 - 8 * i) := by
      rw [e56, Nat.mul_comm (2 ^ (48 - 8 * i))]
      exact Nat.mul_lt_mul_of_pos_right hb1 (Nat.pow_pos (by decide))
    rw [hb2, (byte_all _ hb1).2.1, tk_sh i (by omega), wb_shl _ (by omega), hB, g_or (k := 56 - 8 * i) rfl hlt (by rw [← hB]; omega), ← hB, nI_1]
    exact a1
theorem pu_fetch (j : Nat) (sC sM : hp_S) (h : rl_Inv j sC sM) : ∃ r tC tM, (∃ n, f_C_X10_fetch_0 n sC = some (r, tC)) ∧ (∃ n, f_M_X11_fetch_0 n sM = some (r, tM)) ∧ rl_Inv (j + 1) tC tM := by
  obtain ⟨h1, ⟨t, m, e1, e2, e3, e4, e5⟩, h3⟩ := id h
  obtain ⟨q, hqd⟩ : ∃ q, q = min m 7 := ⟨_, rfl⟩
  have hq : q ≤ 7 := by omega
  have hqm : q ≤ m := by omega
  have hbx : ∀ i : Nat, ∃ c, i < m → c < 256 ∧ hs_A sM 32 i = sb_b c := fun i => by
    by_cases c : i < m
    · obtain ⟨z, z1, z2⟩ := byte_of _ (e5 i c).2
      exact ⟨z, fun _ => ⟨z1, z2⟩⟩
    · exact ⟨0, fun z => absurd z c⟩
  obtain ⟨b, hb⟩ := Classical.axiomOfChoice hbx
  obtain ⟨u, a1, a2, a3⟩ := C_take_loop q t hq b (fun i hi => (hb i (by omega)).1) (by omega) 7 0 8 sC (by omega) (by omega) (by rw [e3]; simp) (fun i hi => by
    rw [(e5 i (by omega)).1, (hb i (by omega)).2]
    exact (byte_all _ (hb i (by omega)).1).1)
  obtain ⟨w, c1, c2, c3, c4⟩ := M_pack q m hq hqm (by omega) (hs_A sM 32) (fun i hi => (e5 i hi).2) b (fun i hi => hb i (by omega)) q 0 (q + m + 2) sM (by omega) (by omega) e4 (fun i _ => rfl)
  have hv : (if nI q = 0 then 0 else lN (tk_V q b q)) = lN (tk_A q b 7) := by
    rw [tk_eq hq b]
    by_cases c : q = 0
    · subst c
      rfl
    · rw [if_neg (nI_ne0 (by omega) (by omega))]
  rw [hv] at c1
  have hl : hs_I sC 39 1 - hs_I sC 39 2 = nI m := by
    rw [e2, e3, pk_sub (by omega)]
    congr 1
    omega
  have hmin : f_C_J9_min_7cf53 (nI m) 7 sC = some (nI q, sC) := by
    unfold f_C_J9_min_7cf53
    by_cases c : 7 < m
    · rw [if_pos (by rw [show (7 : Int32) = nI 7 from rfl]; exact nI_lt c (by omega)), hqd, Nat.min_eq_right (by omega)]
      rfl
    · rw [if_neg (by rw [show (7 : Int32) = nI 7 from rfl]; exact nI_nlt (by omega) (by omega)), hqd, Nat.min_eq_left (by omega)]
  refine ⟨lN (tk_A q b 7), u, w, ⟨8, ?_⟩, ⟨q + m + 2, ?_⟩, ?_, ?_, ?_⟩
  · unfold f_C_X10_fetch_0 f_C_X3_take_39
    simp only [f_C_X3_left_39, pm_bd, hl, hmin, pm_let]
    rw [nI_l (by omega)]
    have a1 : l_C_X3_take_39_16 8 (nI q) (lN q) 0 sC = some (lN (tk_A q b 7), u) := a1
    rw [a1]
  · unfold f_M_X11_fetch_0
    simp only [pm_let]
    have hv0 : (nI q).toInt64 <<< ((56 : Int32).toInt64 &&& 63) = lN (tk_V q b 0) := by
      rw [nI_l (by omega), show (56 : Int32) = nI 56 from rfl, wb_shl _ (by decide)]
      rfl
    rw [e4]
    by_cases c : 7 ≤ m
    · rw [if_pos (by rw [show (7 : Int32) = nI 7 from rfl]; exact nI_le c (by omega))]
      rw [Nat.min_eq_right c] at hqd
      subst hqd
      rw [show (7 : Int32) = nI 7 from rfl, hv0]
      exact c1
    · rw [if_neg (by rw [show (7 : Int32) = nI 7 from rfl]; exact nI_ge (by omega) (by omega))]
      rw [Nat.min_eq_left (by omega)] at hqd
      subst hqd
      rw [hv0]
      exact c1
  · obtain ⟨n, g1, g2, g3, g4⟩ := h1
    exact ⟨n, g1, by rw [a3.1 _ _ (by decide)]; exact g2, by rw [c4.1 _ _ (by decide)]; exact g3, fun i hi => by rw [a3.2 _ (by decide), c4.2 _ (by decide)]; exact g4 i hi⟩
  · refine ⟨t + q, m - q, by omega, by rw [a3.1 _ _ (by decide), e2]; congr 1; omega, a2, c2, fun i hi => ?_⟩
    rw [c3 i hi, a3.2 _ (by decide), show t + q + i = t + (i + q) by omega]
    exact e5 (i + q) (by omega)
  · exact rl_res_fr h3 a3 c4 (by decide) (by decide)
