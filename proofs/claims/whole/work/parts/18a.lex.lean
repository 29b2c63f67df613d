/-! TOKENS, as functions of the text: T its bytes, n its length. Kinds are the class's numbers. -/
def lx_lt (c : Nat) : Bool := decide (97 ≤ c) && decide (c ≤ 122)
def lx_dg (c : Nat) : Bool := decide (48 ≤ c) && decide (c ≤ 57)
def lx_bl (c : Nat) : Bool := decide (c = 10) || decide (c = 32)
def lx_L (T : Nat → Nat) (n p : Nat) : Bool := decide (p < n) && lx_lt (T p)
def lx_D (T : Nat → Nat) (n p : Nat) : Bool := decide (p < n) && lx_dg (T p)
def lx_B (T : Nat → Nat) (n p : Nat) : Bool := decide (p < n) && lx_bl (T p)
def lx_LD (T : Nat → Nat) (n p : Nat) : Bool := lx_L T n p || lx_D T n p
/-- the first place from i on, at most d further, where P ends -/
def lx_go (P : Nat → Bool) : Nat → Nat → Nat
  | 0, i => i
  | d + 1, i => if P i = true then lx_go P d (i + 1) else i
def lx_to (P : Nat → Bool) (n i : Nat) : Nat := lx_go P (n - i) i
theorem lx_go_ge (P : Nat → Bool) : ∀ d i, i ≤ lx_go P d i ∧ lx_go P d i ≤ i + d
  | 0, i => ⟨Nat.le_refl _, Nat.le_refl _⟩
  | d + 1, i => by
    have h := lx_go_ge P d (i + 1)
    simp only [lx_go]
    split <;> omega
theorem lx_go_in (P : Nat → Bool) : ∀ d i j, i ≤ j → j < lx_go P d i → P j = true
  | 0, i, j, h1, h2 => by simp only [lx_go] at h2; omega
  | d + 1, i, j, h1, h2 => by
    simp only [lx_go] at h2
    by_cases c : P i = true
    · rw [if_pos c] at h2
      by_cases e : j = i
      · rw [e]; exact c
      · exact lx_go_in P d (i + 1) j (by omega) h2
    · rw [if_neg c] at h2; omega
theorem lx_go_end (P : Nat → Bool) : ∀ d i, lx_go P d i < i + d → P (lx_go P d i) = false
  | 0, i, h => by simp only [lx_go] at h; omega
  | d + 1, i, h => by
    simp only [lx_go] at h ⊢
    by_cases c : P i = true
    · rw [if_pos c] at h ⊢
      exact lx_go_end P d (i + 1) (by omega)
    · rw [if_neg c]
      simpa using c
theorem lx_to_ge (P : Nat → Bool) {n i : Nat} (h : i ≤ n) : i ≤ lx_to P n i ∧ lx_to P n i ≤ n := by
  have := lx_go_ge P (n - i) i
  unfold lx_to
  omega
theorem lx_to_step (P : Nat → Bool) {n i : Nat} (h : i < n) : lx_to P n i = if P i = true then lx_to P n (i + 1) else i := by
  unfold lx_to
  rw [show n - i = (n - (i + 1)) + 1 by omega]
  rfl
theorem lx_to_n (P : Nat → Bool) {n : Nat} : lx_to P n n = n := by simp [lx_to, lx_go]
/-- the text of the class -/
def C_tx (s : hp_S) (T : Nat → Nat) (n : Nat) : Prop := hs_I s 1 1 = nI n ∧ n ≤ 500 ∧ ∀ j, j < n → T j < 256 ∧ hs_A s 2 j &&& 255 = nI (T j)
def b_i (b : Bool) : Int32 := if b = true then 1 else 0
theorem b_i0 (b : Bool) : b_i b = 0 ↔ b = false := by cases b <;> simp [b_i]
theorem C_length {s : hp_S} {T : Nat → Nat} {n : Nat} (h : C_tx s T n) : f_C_X5_length_1 s = some (nI n, s) := by
  unfold f_C_X5_length_1
  rw [h.1]
theorem C_at {s : hp_S} {T : Nat → Nat} {n : Nat} (h : C_tx s T n) {p : Nat} (hp : p < 2 ^ 20) : f_C_X5_at_1 (nI p) s = some (if p < n then nI (T p) else -1, s) := by
  obtain ⟨h1, h2, h3⟩ := h
  unfold f_C_X5_at_1
  rw [if_neg (nI_pos (by omega)), h1]
  by_cases c : p < n
  · rw [if_neg (nI_ge c (by omega)), if_neg (by rw [show (500 : Int32) = nI 500 from rfl]; exact nI_ge (by omega) (by omega)), gd_t (ib_nI (by omega) (by omega)), nI_clamp (by omega), (h3 p c).2, if_pos c]
  · rw [if_pos (nI_le (by omega) (by omega)), if_neg c]
theorem nI_lt_iff {a b : Nat} (ha : a < 2 ^ 31) (hb : b < 2 ^ 31) : (nI a < nI b) = (a < b) := propext (nI_ltI ha hb)
theorem C_isBlank {s : hp_S} {T : Nat → Nat} {n : Nat} (h : C_tx s T n) {p : Nat} (hp : p < 2 ^ 20) : f_C_X5_isBlank_1 (nI p) s = some (b_i (lx_B T n p), s) := by
  unfold f_C_X5_isBlank_1
  simp only [C_at h hp, pm_bd]
  by_cases c : p < n
  · have hT := (h.2.2 p c).1
    simp only [c, if_true, lx_B, lx_bl, decide_true, Bool.true_and]
    rw [show ((10 : Int32)) = nI 10 from rfl, show ((32 : Int32)) = nI 32 from rfl]
    simp only [nI_eq (show T p < 2 ^ 31 by omega) (show 10 < 2 ^ 31 by decide), nI_eq (show T p < 2 ^ 31 by omega) (show 32 < 2 ^ 31 by decide)]
    by_cases c1 : T p = 10
    · simp [c1, b_i]
    · by_cases c2 : T p = 32
      · simp [c2, b_i]
      · simp [c1, c2, b_i]
  · simp only [c, if_false, lx_B, decide_false, Bool.false_and]
    rfl
theorem C_isLetter {s : hp_S} {T : Nat → Nat} {n : Nat} (h : C_tx s T n) {p : Nat} (hp : p < 2 ^ 20) : f_C_X5_isLetter_1 (nI p) s = some (b_i (lx_L T n p), s) := by
  unfold f_C_X5_isLetter_1
  simp only [C_at h hp, pm_bd]
  by_cases c : p < n
  · have hT := (h.2.2 p c).1
    simp only [c, if_true, lx_L, lx_lt, decide_true, Bool.true_and]
    rw [show ((97 : Int32)) = nI 97 from rfl, show ((122 : Int32)) = nI 122 from rfl]
    simp only [nI_ltI (show T p < 2 ^ 31 by omega) (show 97 < 2 ^ 31 by decide), nI_ltI (show 122 < 2 ^ 31 by decide) (show T p < 2 ^ 31 by omega)]
    by_cases c1 : T p < 97
    · have c3 : ¬ 97 ≤ T p := by omega
      simp [c1, c3, b_i]
    · have c3 : 97 ≤ T p := by omega
      by_cases c2 : 122 < T p
      · have c4 : ¬ T p ≤ 122 := by omega
        simp [c1, c2, c4, b_i]
      · have c4 : T p ≤ 122 := by omega
        simp [c1, c2, c3, c4, b_i]
  · simp only [c, if_false, lx_L, decide_false, Bool.false_and]
    rfl
theorem C_isDigit {s : hp_S} {T : Nat → Nat} {n : Nat} (h : C_tx s T n) {p : Nat} (hp : p < 2 ^ 20) : f_C_X5_isDigit_1 (nI p) s = some (b_i (lx_D T n p), s) := by
  unfold f_C_X5_isDigit_1
  simp only [C_at h hp, pm_bd]
  by_cases c : p < n
  · have hT := (h.2.2 p c).1
    simp only [c, if_true, lx_D, lx_dg, decide_true, Bool.true_and]
    rw [show ((48 : Int32)) = nI 48 from rfl, show ((57 : Int32)) = nI 57 from rfl]
    simp only [nI_ltI (show T p < 2 ^ 31 by omega) (show 48 < 2 ^ 31 by decide), nI_ltI (show 57 < 2 ^ 31 by decide) (show T p < 2 ^ 31 by omega)]
    by_cases c1 : T p < 48
    · have c3 : ¬ 48 ≤ T p := by omega
      simp [c1, c3, b_i]
    · have c3 : 48 ≤ T p := by omega
      by_cases c2 : 57 < T p
      · have c4 : ¬ T p ≤ 57 := by omega
        simp [c1, c2, c4, b_i]
      · have c4 : T p ≤ 57 := by omega
        simp [c1, c2, c3, c4, b_i]
  · simp only [c, if_false, lx_D, decide_false, Bool.false_and]
    rfl
theorem C_isLD {s : hp_S} {T : Nat → Nat} {n : Nat} (h : C_tx s T n) {p : Nat} (hp : p < 2 ^ 20) : f_C_X5_isLetterOrDigit_1 (nI p) s = some (b_i (lx_LD T n p), s) := by
  unfold f_C_X5_isLetterOrDigit_1
  simp only [C_isLetter h hp, C_isDigit h hp, pm_bd, lx_LD]
  cases lx_L T n p <;> cases lx_D T n p <;> simp [b_i]
theorem C_endLoop {s : hp_S} {T : Nat → Nat} {n : Nat} (h : C_tx s T n) : ∀ (d i k : Nat), i + d = n → d + 1 ≤ k → l_C_X6_endFrom_3_53 k (nI i) s = some (nI (lx_to (lx_LD T n) n i), s) := by
  intro d
  induction d with
  | zero =>
    intro i k hi hk
    obtain ⟨k, rfl⟩ : ∃ z, k = z + 1 := ⟨k - 1, by omega⟩
    obtain rfl : i = n := by omega
    have := h.2.1
    rw [l_C_X6_endFrom_3_53.eq_2]
    simp only [C_length h, pm_bd]
    rw [if_pos (nI_le (Nat.le_refl _) (by omega)), lx_to_n]
  | succ d ih =>
    intro i k hi hk
    obtain ⟨k, rfl⟩ : ∃ z, k = z + 1 := ⟨k - 1, by omega⟩
    have := h.2.1
    rw [l_C_X6_endFrom_3_53.eq_2]
    simp only [C_length h, pm_bd, C_isLD h (show i < 2 ^ 20 by omega), pm_let]
    rw [if_neg (nI_ge (by omega) (by omega)), lx_to_step _ (by omega), nI_1, ih (i + 1) k (by omega) (by omega)]
    cases lx_LD T n i <;> simp [b_i]
/-- where the token that begins at p ends -/
def lx_end (T : Nat → Nat) (n p : Nat) : Nat := if lx_LD T n p = true then lx_to (lx_LD T n) n (p + 1) else if T p = 61 ∧ p + 1 < n ∧ T (p + 1) = 62 then p + 2 else p + 1
theorem lx_end_le {T : Nat → Nat} {n p : Nat} (h : p < n) : p < lx_end T n p ∧ lx_end T n p ≤ n := by
  unfold lx_end
  split
  · have := lx_to_ge (lx_LD T n) (n := n) (i := p + 1) (by omega)
    omega
  · split <;> omega
theorem C_endFrom {s : hp_S} {T : Nat → Nat} {n : Nat} (h : C_tx s T n) {p k : Nat} (hp : p < n) (hk : n + 1 ≤ k) : f_C_X6_endFrom_3 k (nI p) s = some (nI (lx_end T n p), s) := by
  have := h.2.1
  have hT := (h.2.2 p hp).1
  unfold f_C_X6_endFrom_3 lx_end
  rw [nI_1]
  simp only [C_isLD h (show p < 2 ^ 20 by omega), pm_bd, C_at h (show p < 2 ^ 20 by omega), C_at h (show p + 1 < 2 ^ 20 by omega), pm_let, hp, if_true]
  rw [C_endLoop h (n - (p + 1)) (p + 1) k (by omega) (by omega)]
  cases lx_LD T n p with
  | true => simp [b_i]
  | false =>
    simp only [b_i, Bool.false_eq_true, if_false, if_true]
    rw [show (61 : Int32) = nI 61 from rfl, show (62 : Int32) = nI 62 from rfl, show (2 : Int32) = nI 2 from rfl, nI_add]
    simp only [nI_eq (show T p < 2 ^ 31 by omega) (show 61 < 2 ^ 31 by decide)]
    by_cases c1 : T p = 61
    · simp only [c1, if_true, true_and]
      by_cases c2 : p + 1 < n
      · have hT2 := (h.2.2 (p + 1) c2).1
        simp only [c2, if_true, true_and, nI_eq (show T (p + 1) < 2 ^ 31 by omega) (show 62 < 2 ^ 31 by decide)]
        by_cases c3 : T (p + 1) = 62
        · simp [c3]
        · simp [c3]
      · simp only [c2, if_false, false_and]
        rw [if_neg (by decide)]
    · simp [c1]
