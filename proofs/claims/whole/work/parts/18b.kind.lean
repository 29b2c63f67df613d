/-! KINDS of tokens, in the class -/
def wd_L : List (List Nat) := [[102, 110], [108, 101, 116], [105, 110], [105, 102], [116, 104, 101, 110], [101, 108, 115, 101], [116, 114, 117, 101], [102, 97, 108, 115, 101], [110, 111, 116], [102, 115, 116], [115, 110, 100]]
def wd_N (x : Nat) : Nat := ((pm_bytS.getD 0 []).getD x 0).toNatClampNeg
theorem wd_1 : ∀ x, x < 55 → ((((pm_bytS.getD 0 []).getD x 0 &&& 255).toUInt32 % 65536).toInt32) = nI (wd_N x) ∧ pm_gn .char (nI (wd_N x)) = true ∧ wd_N x < 256 := by decide +kernel
theorem wd_2 : ∀ k, k < 11 → ∀ j, j < 5 → wd_N (5 * k + j) = (wd_L.getD k []).getD j 32 := by decide +kernel
theorem wd_3 : ∀ k, k < 11 → (wd_L.getD k []).length ≤ 5 ∧ 1 ≤ (wd_L.getD k []).length ∧ ∀ c ∈ wd_L.getD k [], lx_lt c = true ∧ c < 256 := by decide +kernel
theorem wd_4 : pm_lenS.getD 0 0 = 55 ∧ Int32.ofNat 55 >>> ((0 : Int32) &&& 31) = nI 55 := by decide +kernel
theorem C_charAt {s : hp_S} {x : Nat} (hx : x < 55) : f_C_J0_charAt_5068e 0 (nI x) s = some (nI (wd_N x), s) := by
  obtain ⟨h1, h2, h3⟩ := wd_1 x hx
  unfold f_C_J0_charAt_5068e f_C_J0_isLatin1_aae02 f_C_J1_charAt_3b067_val f_C_J0_checkIndex_df160 f_C_J3_checkIndex_8e157_nul
  have hd : decide (0 < 13) = true := by decide
  rw [gd_t hd]
  simp only [pm_bd]
  rw [gd_t hd, if_neg (by decide), gd_t hd, gd_t hd, wd_4.1, if_neg (nI_pos (by omega)), if_pos (show nI x < Int32.ofNat 55 from nI_lt hx (by omega))]
  simp only [pm_b1]
  rw [gd_t hd, gd_t (ib_nI hx (by decide)), nI_clamp (by omega), h1, gd_t h2]
  simp only
  rw [gd_t h2]
theorem C_strlen {s : hp_S} : f_C_J0_length_8abf5 0 s = some (nI 55, s) := by
  unfold f_C_J0_length_8abf5 f_C_J0_coder_7d493
  have hd : decide (0 < 13) = true := by decide
  rw [gd_t hd, gd_t hd, gd_t hd]
  simp only [pm_bd]
  rw [gd_t hd, wd_4.1, wd_4.2]
/-- the j-th byte of the token from p to e, a blank behind it -/
def lx_pd (T : Nat → Nat) (p e j : Nat) : Nat := if p + j < e then T (p + j) else 32
def lx_wm (T : Nat → Nat) (p e f : Nat) : Nat → Nat → Bool
  | 0, _ => true
  | d + 1, i => if lx_pd T p e i = wd_N (f + i) then lx_wm T p e f d (i + 1) else false
theorem lx_wm_iff (T : Nat → Nat) (p e f : Nat) : ∀ d i, lx_wm T p e f d i = true ↔ ∀ j, i ≤ j → j < i + d → lx_pd T p e j = wd_N (f + j)
  | 0, i => by simp only [lx_wm, true_iff]; intro j h1 h2; omega
  | d + 1, i => by
    have ih := lx_wm_iff T p e f d (i + 1)
    simp only [lx_wm]
    by_cases c : lx_pd T p e i = wd_N (f + i)
    · rw [if_pos c, ih]
      constructor
      · intro h j h1 h2
        by_cases z : j = i
        · rw [z]; exact c
        · exact h j (by omega) (by omega)
      · exact fun h j h1 h2 => h j (by omega) (by omega)
    · rw [if_neg c]
      constructor
      · intro h; cases h
      · exact fun h => absurd (h i (Nat.le_refl _) (by omega)) c
theorem C_wordLoop {s : hp_S} {T : Nat → Nat} {n : Nat} (h : C_tx s T n) {p e f : Nat} (he : e ≤ n) (hp : p < n) (hf : f + 5 ≤ 55) : ∀ (d i k : Nat), i + d = 5 → d + 1 ≤ k → l_C_X6_isWord_3_27 k (nI p) (nI e) (nI f) (nI i) s = some (b_i (lx_wm T p e f d i), s) := by
  intro d
  induction d with
  | zero =>
    intro i k hi hk
    obtain ⟨k, rfl⟩ : ∃ z, k = z + 1 := ⟨k - 1, by omega⟩
    obtain rfl : i = 5 := by omega
    rw [l_C_X6_isWord_3_27.eq_2, if_pos (by decide)]
    rfl
  | succ d ih =>
    intro i k hi hk
    obtain ⟨k, rfl⟩ : ∃ z, k = z + 1 := ⟨k - 1, by omega⟩
    have hn := h.2.1
    have hw := (wd_1 (f + i) (by omega)).2.2
    rw [l_C_X6_isWord_3_27.eq_2, if_neg (by rw [show (5 : Int32) = nI 5 from rfl]; exact nI_ge (by omega) (by omega))]
    simp only [pm_let, nI_add, nI_1, C_charAt (show f + i < 55 by omega), pm_bd]
    rw [ih (i + 1) k (by omega) (by omega)]
    simp only [lx_wm, lx_pd]
    by_cases c : p + i < e
    · have hT := (h.2.2 (p + i) (by omega)).1
      rw [if_neg (nI_ge c (by omega))]
      simp only [C_at h (show p + i < 2 ^ 20 by omega), show p + i < n by omega, if_true, c]
      by_cases c2 : T (p + i) = wd_N (f + i)
      · rw [if_pos ((nI_eq (by omega) (by omega)).mpr c2), if_pos c2]
        exact ih (i + 1) k (by omega) (by omega)
      · rw [if_neg (fun z => c2 ((nI_eq (by omega) (by omega)).mp z)), if_neg c2]
        rfl
    · rw [if_pos (nI_le (by omega) (by omega))]
      simp only [c, if_false]
      rw [show (32 : Int32) = nI 32 from rfl]
      by_cases c2 : 32 = wd_N (f + i)
      · rw [if_pos ((nI_eq (by omega) (by omega)).mpr c2), if_pos c2]
      · rw [if_neg (fun z => c2 ((nI_eq (by omega) (by omega)).mp z)), if_neg c2]
        rfl
/-- the token from p to e is the k-th word -/
def lx_is (T : Nat → Nat) (p e k : Nat) : Bool := decide (e - p ≤ 5) && lx_wm T p e (5 * k) 5 0
theorem C_isWord {s : hp_S} {T : Nat → Nat} {n : Nat} (h : C_tx s T n) {p e k q : Nat} (he : e ≤ n) (hpe : p < e) (hk : k < 11) (hq : 6 ≤ q) : f_C_X6_isWord_3 q (nI p) (nI e) (nI (5 * k)) s = some (b_i (lx_is T p e k), s) := by
  have hn := h.2.1
  unfold f_C_X6_isWord_3 lx_is
  rw [pk_sub (by omega), show (5 : Int32) = nI 5 from rfl, nI_add]
  by_cases c : e - p ≤ 5
  · rw [if_neg (nI_nlt (by omega) (by omega)), if_neg (nI_pos (by omega))]
    simp only [C_strlen, pm_bd]
    rw [if_pos (nI_le (by omega) (by omega)), show (0 : Int32) = nI 0 from rfl, C_wordLoop h he (by omega) (by omega) 5 0 q (by omega) (by omega)]
    simp [c]
  · rw [if_pos (nI_lt (by omega) (by omega))]
    simp [c, b_i]
def lx_wf (m : Nat → Bool) : Nat → Nat → Nat
  | 0, _ => 2
  | d + 1, k => if m k = true then k + 4 else lx_wf m d (k + 1)
theorem C_wordOr {s : hp_S} {T : Nat → Nat} {n : Nat} (h : C_tx s T n) {p e : Nat} (he : e ≤ n) (hpe : p < e) : ∀ (d k q : Nat), k + d = 11 → d + 8 ≤ q → l_C_X6_wordOrName_3_2 q (nI p) (nI e) (nI (k + 4)) s = some (nI (lx_wf (lx_is T p e) d k), s) := by
  intro d
  induction d with
  | zero =>
    intro k q hk hq
    obtain ⟨q, rfl⟩ : ∃ z, q = z + 1 := ⟨q - 1, by omega⟩
    obtain rfl : k = 11 := by omega
    rw [l_C_X6_wordOrName_3_2.eq_2, if_pos (by decide)]
    rfl
  | succ d ih =>
    intro k q hk hq
    obtain ⟨q, rfl⟩ : ∃ z, q = z + 1 := ⟨q - 1, by omega⟩
    rw [l_C_X6_wordOrName_3_2.eq_2, if_neg (by rw [show (14 : Int32) = nI 14 from rfl]; exact nI_nlt (by omega) (by omega))]
    rw [show (nI (k + 4) - 4) * 5 = nI (5 * k) by rw [show (4 : Int32) = nI 4 from rfl, pk_sub (by omega), show (5 : Int32) = nI 5 from rfl, pk_mul]; congr 1; omega]
    simp only [C_isWord h he hpe (show k < 11 by omega) (show 6 ≤ q by omega), pm_bd, pm_let, nI_1]
    rw [show k + 4 + 1 = k + 1 + 4 by omega, ih (k + 1) q (by omega) (by omega)]
    simp only [lx_wf]
    cases lx_is T p e k <;> simp [b_i]
def lx_sg (c : Nat) : Nat := if c = 40 then 17 else if c = 41 then 18 else if c = 43 then 20 else if c = 44 then 19 else if c = 60 then 21 else if c = 61 then 16 else 1
theorem C_sign {s : hp_S} {c : Nat} (hc : c < 256) : f_C_X6_sign (nI c) s = some (nI (lx_sg c), s) := by
  unfold f_C_X6_sign lx_sg
  rw [show (40 : Int32) = nI 40 from rfl, show (41 : Int32) = nI 41 from rfl, show (43 : Int32) = nI 43 from rfl, show (44 : Int32) = nI 44 from rfl, show (60 : Int32) = nI 60 from rfl, show (61 : Int32) = nI 61 from rfl]
  have e : ∀ k, k < 256 → (nI c = nI k ↔ c = k) := fun k hk => nI_eq (by omega) (by omega)
  simp only [e 40 (by decide), e 41 (by decide), e 43 (by decide), e 44 (by decide), e 60 (by decide), e 61 (by decide)]
  repeat (first | rfl | split)
/-- a letter stands between i and e -/
def lx_hl (T : Nat → Nat) (n e i : Nat) : Bool := decide (lx_to (fun j => !lx_L T n j) e i < e)
theorem C_holds {s : hp_S} {T : Nat → Nat} {n : Nat} (h : C_tx s T n) {e : Nat} (he : e ≤ n) : ∀ (d i k : Nat), i + d = e → d + 1 ≤ k → l_C_X6_holdsLetter_3_2 k (nI e) (nI i) s = some (b_i (lx_hl T n e i), s) := by
  intro d
  induction d with
  | zero =>
    intro i k hi hk
    obtain ⟨k, rfl⟩ : ∃ z, k = z + 1 := ⟨k - 1, by omega⟩
    obtain rfl : i = e := by omega
    have := h.2.1
    rw [l_C_X6_holdsLetter_3_2.eq_2, if_pos (nI_le (Nat.le_refl _) (by omega))]
    simp [lx_hl, lx_to_n, b_i]
  | succ d ih =>
    intro i k hi hk
    obtain ⟨k, rfl⟩ : ∃ z, k = z + 1 := ⟨k - 1, by omega⟩
    have := h.2.1
    rw [l_C_X6_holdsLetter_3_2.eq_2, if_neg (nI_ge (by omega) (by omega))]
    simp only [C_isLetter h (show i < 2 ^ 20 by omega), pm_bd, pm_let, nI_1]
    rw [ih (i + 1) k (by omega) (by omega)]
    have e1 := lx_to_step (fun j => !lx_L T n j) (show i < e by omega)
    simp only [lx_hl, e1]
    cases lx_L T n i with
    | true => simp [b_i]; omega
    | false => simp [b_i]
/-- the kind of the token that begins at p -/
def lx_kd (T : Nat → Nat) (n p : Nat) : Nat :=
  if lx_L T n p = true then (if lx_end T n p - p ≤ 10 then lx_wf (lx_is T p (lx_end T n p)) 11 0 else 1)
  else if lx_D T n p = true then (if 9 < lx_end T n p - p then 1 else if lx_hl T n (lx_end T n p) p = true then 1 else 3)
  else if lx_end T n p - p = 2 then 15 else lx_sg (T p)
theorem C_kindFrom {s : hp_S} {T : Nat → Nat} {n : Nat} (h : C_tx s T n) {p k : Nat} (hp : p < n) (hk : n + 30 ≤ k) : f_C_X6_kindFrom_3 k (nI p) (nI (lx_end T n p)) s = some (nI (lx_kd T n p), s) := by
  have hn := h.2.1
  have hT := (h.2.2 p hp).1
  obtain ⟨he1, he2⟩ := lx_end_le (T := T) hp
  unfold f_C_X6_kindFrom_3 lx_kd
  generalize lx_end T n p = e at *
  rw [pk_sub (by omega), show (2 : Int32) = nI 2 from rfl, show (10 : Int32) = nI 10 from rfl, show (9 : Int32) = nI 9 from rfl]
  simp only [C_isLetter h (show p < 2 ^ 20 by omega), C_isDigit h (show p < 2 ^ 20 by omega), C_at h (show p < 2 ^ 20 by omega), pm_bd, hp, if_true, C_sign hT, f_C_X6_holdsLetter_3, C_holds h he2 (e - p) p k (by omega) (by omega), f_C_X6_wordOrName_3]
  rw [show (4 : Int32) = nI (0 + 4) from rfl, C_wordOr h he2 he1 11 0 k (by omega) (by omega)]
  simp only [nI_leI (show e - p < 2 ^ 31 by omega) (show 10 < 2 ^ 31 by decide), nI_ltI (show 9 < 2 ^ 31 by decide) (show e - p < 2 ^ 31 by omega), nI_eq (show e - p < 2 ^ 31 by omega) (show 2 < 2 ^ 31 by decide)]
  cases lx_L T n p with
  | true =>
    simp only [b_i, if_true]
    rw [if_neg (by decide)]
    by_cases c : e - p ≤ 10
    · simp [c]
    · simp [c]; rfl
  | false =>
    simp only [b_i, Bool.false_eq_true, if_false, if_true]
    cases lx_D T n p with
    | true =>
      simp only [if_true]
      rw [if_neg (by decide)]
      by_cases c : 9 < e - p
      · simp [c]; rfl
      · simp only [c, if_false]
        cases lx_hl T n e p with
        | true => simp; rfl
        | false => simp; rfl
    | false =>
      simp only [Bool.false_eq_true, if_false, if_true]
      by_cases c : e - p = 2
      · simp [c]; rfl
      · simp [c]
