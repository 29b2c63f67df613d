/-! THE REFERENCE LOOKS at the next token -/
def k_M (k : Nat) : Nat := if k = 0 then 0 else if k = 1 then 21 else k - 1
theorem asc_all : ∀ c, c < 128 → sb_b c = nI c := by decide +kernel
theorem M_word_chain (s : hp_S) (w : Nat) (hw : w < 2 ^ 60) (m : Nat → Bool) (hm : ∀ k, k < 11 → (w = wd_c k ↔ m k = true)) (z : Int32) (hz : z = nI (if hs_I s 0 5 - hs_I s 0 7 ≤ 10 then k_M (lx_wf m 11 0) else 21)) (q : Nat) (y3 : Int32) (hy : hs_I s 0 5 ≤ y3 ∨ hs_I s 0 7 + 7 ≤ y3) : l_M_X11_wordOf_0_7 (q + 1) (lN w) y3 s = some (z, s) := by
  have h5 := wd_5
  simp only [List.range, List.range.loop, List.map_cons, List.map_nil, List.cons.injEq] at h5
  obtain ⟨e0, e1, e2, e3, e4, e5, e6, e7, e8, e9, e10, -⟩ := h5
  have key : ∀ k c, k < 11 → wd_c k = c → c < 2 ^ 60 → ((lg_cmp (lN w) (lN c) = 0) = (m k = true)) := by
    intro k c hk hc hc2
    rw [cmp_eq, pk_lEQ (by omega) (by omega), ← hc]
    exact propext (hm k hk)
  have hne : ∀ i, i < 11 → ∀ j, j < 11 → i ≠ j → wd_c i ≠ wd_c j := by decide +kernel
  have q0 : (lg_cmp (lN w) 26222 = 0) = (m 0 = true) := key 0 26222 (by decide) e0 (by decide)
  have q1 : (lg_cmp (lN w) 7103860 = 0) = (m 1 = true) := key 1 7103860 (by decide) e1 (by decide)
  have q2 : (lg_cmp (lN w) 26990 = 0) = (m 2 = true) := key 2 26990 (by decide) e2 (by decide)
  have q3 : (lg_cmp (lN w) 26982 = 0) = (m 3 = true) := key 3 26982 (by decide) e3 (by decide)
  have q4 : (lg_cmp (lN w) 1952998766 = 0) = (m 4 = true) := key 4 1952998766 (by decide) e4 (by decide)
  have q5 : (lg_cmp (lN w) 1701606245 = 0) = (m 5 = true) := key 5 1701606245 (by decide) e5 (by decide)
  have q6 : (lg_cmp (lN w) 1953658213 = 0) = (m 6 = true) := key 6 1953658213 (by decide) e6 (by decide)
  have q7 : (lg_cmp (lN w) 439721161573 = 0) = (m 7 = true) := key 7 439721161573 (by decide) e7 (by decide)
  have q8 : (lg_cmp (lN w) 7237492 = 0) = (m 8 = true) := key 8 7237492 (by decide) e8 (by decide)
  have q9 : (lg_cmp (lN w) 6714228 = 0) = (m 9 = true) := key 9 6714228 (by decide) e9 (by decide)
  have q10 : (lg_cmp (lN w) 7564900 = 0) = (m 10 = true) := key 10 7564900 (by decide) e10 (by decide)
  rw [l_M_X11_wordOf_0_7.eq_2]
  simp only [pm_let, q0, q1, q2, q3, q4, q5, q6, q7, q8, q9, q10]
  have hJ : ∀ {c1 c2 : Prop} [Decidable c1] [Decidable c2] {A B : Option (Int32 × hp_S)}, (c1 ∨ c2) → (if c1 then A else if c2 then A else B) = A := by
    intro c1 c2 _ _ A B h
    by_cases h1 : c1
    · rw [if_pos h1]
    · rw [if_neg h1, if_pos (h.resolve_left h1)]
  rw [hJ hy, hz]
  by_cases hex : ∃ k0, k0 < 11 ∧ m k0 = true
  · obtain ⟨k0, hk0, hm0⟩ := hex
    have hf : ∀ j, j < 11 → j ≠ k0 → m j = false := by
      intro j hj hjk
      cases hmj : m j with
      | false => rfl
      | true => exact absurd (((hm j hj).mpr hmj).symm.trans ((hm k0 hk0).mpr hm0)) (hne j hj k0 hk0 hjk)
    rcases (show k0 = 0 ∨ k0 = 1 ∨ k0 = 2 ∨ k0 = 3 ∨ k0 = 4 ∨ k0 = 5 ∨ k0 = 6 ∨ k0 = 7 ∨ k0 = 8 ∨ k0 = 9 ∨ k0 = 10 by omega) with rfl | rfl | rfl | rfl | rfl | rfl | rfl | rfl | rfl | rfl | rfl
    · simp only [hm0, hf 1 (by decide) (by decide), hf 2 (by decide) (by decide), hf 3 (by decide) (by decide), hf 4 (by decide) (by decide), hf 5 (by decide) (by decide), hf 6 (by decide) (by decide), hf 7 (by decide) (by decide), hf 8 (by decide) (by decide), hf 9 (by decide) (by decide), hf 10 (by decide) (by decide), lx_wf, k_M, if_true, Bool.false_eq_true, if_false]
      split <;> rfl
    · simp only [hm0, hf 0 (by decide) (by decide), hf 2 (by decide) (by decide), hf 3 (by decide) (by decide), hf 4 (by decide) (by decide), hf 5 (by decide) (by decide), hf 6 (by decide) (by decide), hf 7 (by decide) (by decide), hf 8 (by decide) (by decide), hf 9 (by decide) (by decide), hf 10 (by decide) (by decide), lx_wf, k_M, if_true, Bool.false_eq_true, if_false]
      split <;> rfl
    · simp only [hm0, hf 0 (by decide) (by decide), hf 1 (by decide) (by decide), hf 3 (by decide) (by decide), hf 4 (by decide) (by decide), hf 5 (by decide) (by decide), hf 6 (by decide) (by decide), hf 7 (by decide) (by decide), hf 8 (by decide) (by decide), hf 9 (by decide) (by decide), hf 10 (by decide) (by decide), lx_wf, k_M, if_true, Bool.false_eq_true, if_false]
      split <;> rfl
    · simp only [hm0, hf 0 (by decide) (by decide), hf 1 (by decide) (by decide), hf 2 (by decide) (by decide), hf 4 (by decide) (by decide), hf 5 (by decide) (by decide), hf 6 (by decide) (by decide), hf 7 (by decide) (by decide), hf 8 (by decide) (by decide), hf 9 (by decide) (by decide), hf 10 (by decide) (by decide), lx_wf, k_M, if_true, Bool.false_eq_true, if_false]
      split <;> rfl
    · simp only [hm0, hf 0 (by decide) (by decide), hf 1 (by decide) (by decide), hf 2 (by decide) (by decide), hf 3 (by decide) (by decide), hf 5 (by decide) (by decide), hf 6 (by decide) (by decide), hf 7 (by decide) (by decide), hf 8 (by decide) (by decide), hf 9 (by decide) (by decide), hf 10 (by decide) (by decide), lx_wf, k_M, if_true, Bool.false_eq_true, if_false]
      split <;> rfl
    · simp only [hm0, hf 0 (by decide) (by decide), hf 1 (by decide) (by decide), hf 2 (by decide) (by decide), hf 3 (by decide) (by decide), hf 4 (by decide) (by decide), hf 6 (by decide) (by decide), hf 7 (by decide) (by decide), hf 8 (by decide) (by decide), hf 9 (by decide) (by decide), hf 10 (by decide) (by decide), lx_wf, k_M, if_true, Bool.false_eq_true, if_false]
      split <;> rfl
    · simp only [hm0, hf 0 (by decide) (by decide), hf 1 (by decide) (by decide), hf 2 (by decide) (by decide), hf 3 (by decide) (by decide), hf 4 (by decide) (by decide), hf 5 (by decide) (by decide), hf 7 (by decide) (by decide), hf 8 (by decide) (by decide), hf 9 (by decide) (by decide), hf 10 (by decide) (by decide), lx_wf, k_M, if_true, Bool.false_eq_true, if_false]
      split <;> rfl
    · simp only [hm0, hf 0 (by decide) (by decide), hf 1 (by decide) (by decide), hf 2 (by decide) (by decide), hf 3 (by decide) (by decide), hf 4 (by decide) (by decide), hf 5 (by decide) (by decide), hf 6 (by decide) (by decide), hf 8 (by decide) (by decide), hf 9 (by decide) (by decide), hf 10 (by decide) (by decide), lx_wf, k_M, if_true, Bool.false_eq_true, if_false]
      split <;> rfl
    · simp only [hm0, hf 0 (by decide) (by decide), hf 1 (by decide) (by decide), hf 2 (by decide) (by decide), hf 3 (by decide) (by decide), hf 4 (by decide) (by decide), hf 5 (by decide) (by decide), hf 6 (by decide) (by decide), hf 7 (by decide) (by decide), hf 9 (by decide) (by decide), hf 10 (by decide) (by decide), lx_wf, k_M, if_true, Bool.false_eq_true, if_false]
      split <;> rfl
    · simp only [hm0, hf 0 (by decide) (by decide), hf 1 (by decide) (by decide), hf 2 (by decide) (by decide), hf 3 (by decide) (by decide), hf 4 (by decide) (by decide), hf 5 (by decide) (by decide), hf 6 (by decide) (by decide), hf 7 (by decide) (by decide), hf 8 (by decide) (by decide), hf 10 (by decide) (by decide), lx_wf, k_M, if_true, Bool.false_eq_true, if_false]
      split <;> rfl
    · simp only [hm0, hf 0 (by decide) (by decide), hf 1 (by decide) (by decide), hf 2 (by decide) (by decide), hf 3 (by decide) (by decide), hf 4 (by decide) (by decide), hf 5 (by decide) (by decide), hf 6 (by decide) (by decide), hf 7 (by decide) (by decide), hf 8 (by decide) (by decide), hf 9 (by decide) (by decide), lx_wf, k_M, if_true, Bool.false_eq_true, if_false]
      split <;> rfl
  · have hf : ∀ j, j < 11 → m j = false := by
      intro j hj
      cases hmj : m j with
      | false => rfl
      | true => exact absurd ⟨j, hj, hmj⟩ hex
    simp only [hf 0 (by decide), hf 1 (by decide), hf 2 (by decide), hf 3 (by decide), hf 4 (by decide), hf 5 (by decide), hf 6 (by decide), hf 7 (by decide), hf 8 (by decide), hf 9 (by decide), hf 10 (by decide), lx_wf, k_M, Bool.false_eq_true, if_false]
    split <;> rfl
theorem M_wordOf {s : hp_S} {T : Nat → Nat} {n b e k : Nat} (h : M_tx s T n) (hb : hs_I s 0 7 = nI b) (ha : hs_I s 0 5 = nI e) (hbe : b < e) (hen : e ≤ n) (hLD : ∀ j, b ≤ j → j < e → 48 ≤ T j ∧ T j ≤ 122) (hk : 9 ≤ k) : f_M_X11_wordOf_0 k s = some (nI (if e - b ≤ 10 then k_M (lx_wf (lx_is T b e) 11 0) else 21), s) := by
  have hn := h.2.1
  have loop : ∀ (d i k : Nat), i + d = min (e - b) 7 → d + 1 ≤ k → l_M_X11_wordOf_0_7 k (lN (en_c (fun j => T (b + j)) i)) (nI (b + i)) s = some (nI (if e - b ≤ 10 then k_M (lx_wf (lx_is T b e) 11 0) else 21), s) := by
    intro d
    induction d with
    | zero =>
      intro i k hi hk
      obtain ⟨k, rfl⟩ : ∃ z, k = z + 1 := ⟨k - 1, by omega⟩
      obtain rfl : i = min (e - b) 7 := by omega
      have hlt := en_lt (fun j => T (b + j)) (min (e - b) 7) (fun j hj => by have := hLD (b + j) (by omega) (by omega); omega)
      have hp : 256 ^ min (e - b) 7 ≤ 256 ^ 7 := Nat.pow_le_pow_right (by decide) (by omega)
      refine M_word_chain s _ (by have : (256 : Nat) ^ 7 < 2 ^ 60 := by decide
                                  omega) (lx_is T b e) (fun j hj => lx_is_en hj hbe (fun q h1 h2 => by have := hLD q h1 h2; omega)) _ ?_ k _ ?_
      · rw [ha, hb, pk_sub (by omega), show (10 : Int32) = nI 10 from rfl]
        congr 1
        by_cases c : e - b ≤ 10
        · rw [if_pos c, if_pos (nI_le c (by omega))]
        · rw [if_neg c, if_neg (nI_ge (by omega) (by omega))]
      · rw [ha, hb, show (7 : Int32) = nI 7 from rfl, nI_add]
        rcases Nat.lt_or_ge (e - b) 7 with c | c
        · exact Or.inl (nI_le (by omega) (by omega))
        · exact Or.inr (nI_le (by omega) (by omega))
    | succ d ih =>
      intro i k hi hk
      obtain ⟨k, rfl⟩ : ∃ z, k = z + 1 := ⟨k - 1, by omega⟩
      have hT := hLD (b + i) (by omega) (by omega)
      have hlt := en_lt (fun j => T (b + j)) (i + 1) (fun j hj => by have := hLD (b + j) (by omega) (by omega); omega)
      have hp : 256 ^ (i + 1) ≤ 256 ^ 7 := Nat.pow_le_pow_right (by decide) (by omega)
      have hp7 : (256 : Nat) ^ 7 < 2 ^ 60 := by decide
      have e1 : en_c (fun j => T (b + j)) (i + 1) = en_c (fun j => T (b + j)) i * 256 + T (b + i) := rfl
      rw [l_M_X11_wordOf_0_7.eq_2]
      simp only [pm_let]
      rw [ha, hb, show (7 : Int32) = nI 7 from rfl, nI_add, if_neg (nI_ge (by omega) (by omega)), if_neg (nI_ge (by omega) (by omega)), gd_t (ib_nI (by omega) (by omega)), nI_clamp (by omega), (h.2.2 (b + i) (by omega)).2, asc_all _ (by omega), tk_step (by omega) (by rw [← e1]; omega), ← e1, nI_1]
      exact ih (i + 1) k (by omega) (by omega)
  unfold f_M_X11_wordOf_0
  simp only [pm_let]
  rw [hb]
  exact loop (min (e - b) 7) 0 k (by omega) (by omega)
