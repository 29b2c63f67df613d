/-! a place is set where a text is refused, and nowhere else while it is read -/
def KP (c : Int32) (m : hp_S) : Prop := hs_I m 0 50 = 0 → hs_I m 0 4 = c
def k1 (c : Int32) (x : Option hp_S) : Prop := ∀ m', x = some m' → KP c m'
def k2 (c : Int32) (x : Option (Int32 × hp_S)) : Prop := ∀ r m', x = some (r, m') → KP c m'
theorem k1_none {c : Int32} : k1 c none := fun _ h => by cases h
theorem k2_none {c : Int32} : k2 c none := fun _ _ h => by cases h
theorem k1_some {c : Int32} {m : hp_S} (h : KP c m) : k1 c (some m) := fun _ e => by cases e; exact h
theorem k2_some {c : Int32} {r : Int32} {m : hp_S} (h : KP c m) : k2 c (some (r, m)) := fun _ _ e => by cases e; exact h
theorem k1_ite {c : Int32} {p : Prop} [Decidable p] {a b : Option hp_S} (ha : k1 c a) (hb : k1 c b) : k1 c (if p then a else b) := by
  split
  · exact ha
  · exact hb
theorem k2_ite {c : Int32} {p : Prop} [Decidable p] {a b : Option (Int32 × hp_S)} (ha : k2 c a) (hb : k2 c b) : k2 c (if p then a else b) := by
  split
  · exact ha
  · exact hb
theorem k1_gd {c : Int32} {b : Bool} {a : Option hp_S} (ha : k1 c a) : k1 c (pm_gd1 b a) := by
  cases b
  · exact k1_none
  · exact ha
theorem k2_gd {c : Int32} {b : Bool} {a : Option (Int32 × hp_S)} (ha : k2 c a) : k2 c (pm_gd1 b a) := by
  cases b
  · exact k2_none
  · exact ha
theorem k1_bd {c : Int32} {x : Option (Int32 × hp_S)} {f : Int32 → hp_S → Option hp_S} (hx : k2 c x) (hf : ∀ r t, KP c t → k1 c (f r t)) : k1 c (pm_bd x f) := by
  cases x with
  | none => exact k1_none
  | some q => exact hf q.1 q.2 (hx q.1 q.2 rfl)
theorem k2_bd {c : Int32} {x : Option (Int32 × hp_S)} {f : Int32 → hp_S → Option (Int32 × hp_S)} (hx : k2 c x) (hf : ∀ r t, KP c t → k2 c (f r t)) : k2 c (pm_bd x f) := by
  cases x with
  | none => exact k2_none
  | some q => exact hf q.1 q.2 (hx q.1 q.2 rfl)
theorem k1_b1 {c : Int32} {x : Option hp_S} {f : hp_S → Option hp_S} (hx : k1 c x) (hf : ∀ t, KP c t → k1 c (f t)) : k1 c (pm_b1 x f) := by
  cases x with
  | none => exact k1_none
  | some q => exact hf q (hx q rfl)
theorem k2_b1 {c : Int32} {x : Option hp_S} {f : hp_S → Option (Int32 × hp_S)} (hx : k1 c x) (hf : ∀ t, KP c t → k2 c (f t)) : k2 c (pm_b1 x f) := by
  cases x with
  | none => exact k2_none
  | some q => exact hf q (hx q rfl)
theorem KP_pI {c : Int32} {m : hp_S} {a k : Nat} {v : Int32} (g : ¬ (0 = a ∧ 50 = k) ∧ ¬ (0 = a ∧ 4 = k)) (h : KP c m) : KP c (hs_pI m a k v) := by
  unfold KP at h ⊢
  rw [hs_I_pI, hs_I_pI, if_neg g.1, if_neg g.2]
  exact h
theorem KP_pA {c : Int32} {m : hp_S} {a k : Nat} {v : Int32} (h : KP c m) : KP c (hs_pA m a k v) := by
  unfold KP at h ⊢
  rw [hs_I_pA, hs_I_pA]
  exact h
theorem KP_need2 {c : Int32} {m : hp_S} {v : Int32} : KP c (hs_pI (hs_pI m 0 50 (1 : Int32)) 0 4 v) := by
  intro h
  rw [hs_I_pI, if_neg (by decide), hs_I_pI, if_pos (by decide)] at h
  exact absurd h (by decide)
theorem Kf_M_X11_need_0 {c : Int32} (a1 : Int32) (s : hp_S) (h : KP c s) : k2 c (f_M_X11_need_0 a1 s) := by
  unfold f_M_X11_need_0
  try simp only [pl_u]
  repeat' (first | assumption | exact k1_none | exact k2_none | exact KP_need2 | (with_reducible apply k1_some) | (with_reducible apply k2_some) | refine KP_pI (by decide) ?_ | (with_reducible apply KP_pA) | (with_reducible apply k1_ite) | (with_reducible apply k2_ite) | (with_reducible apply k1_gd) | (with_reducible apply k2_gd) | (with_reducible refine k1_bd ?_ (fun _ _ _ => ?_)) | (with_reducible refine k2_bd ?_ (fun _ _ _ => ?_)) | (with_reducible refine k1_b1 ?_ (fun _ _ => ?_)) | (with_reducible refine k2_b1 ?_ (fun _ _ => ?_)))
theorem Kf_M_X11_enter_0 {c : Int32} (a1 : Int32) (a2 : Int32) (s : hp_S) (h : KP c s) : k1 c (f_M_X11_enter_0 a1 a2 s) := by
  unfold f_M_X11_enter_0
  try simp only [pl_u]
  repeat' (first | assumption | (with_reducible apply Kf_M_X11_need_0) | exact k1_none | exact k2_none | exact KP_need2 | (with_reducible apply k1_some) | (with_reducible apply k2_some) | refine KP_pI (by decide) ?_ | (with_reducible apply KP_pA) | (with_reducible apply k1_ite) | (with_reducible apply k2_ite) | (with_reducible apply k1_gd) | (with_reducible apply k2_gd) | (with_reducible refine k1_bd ?_ (fun _ _ _ => ?_)) | (with_reducible refine k2_bd ?_ (fun _ _ _ => ?_)) | (with_reducible refine k1_b1 ?_ (fun _ _ => ?_)) | (with_reducible refine k2_b1 ?_ (fun _ _ => ?_)))
theorem Kf_M_X11_make_0 {c : Int32} (a1 : Int32) (s : hp_S) (h : KP c s) : k2 c (f_M_X11_make_0 a1 s) := by
  unfold f_M_X11_make_0
  try simp only [pl_u]
  repeat' (first | assumption | (with_reducible apply Kf_M_X11_need_0) | (with_reducible apply Kf_M_X11_enter_0) | exact k1_none | exact k2_none | exact KP_need2 | (with_reducible apply k1_some) | (with_reducible apply k2_some) | refine KP_pI (by decide) ?_ | (with_reducible apply KP_pA) | (with_reducible apply k1_ite) | (with_reducible apply k2_ite) | (with_reducible apply k1_gd) | (with_reducible apply k2_gd) | (with_reducible refine k1_bd ?_ (fun _ _ _ => ?_)) | (with_reducible refine k2_bd ?_ (fun _ _ _ => ?_)) | (with_reducible refine k1_b1 ?_ (fun _ _ => ?_)) | (with_reducible refine k2_b1 ?_ (fun _ _ => ?_)))
theorem Kf_M_X11_here_0 {c : Int32} (a1 : Int32) (s : hp_S) (h : KP c s) : k2 c (f_M_X11_here_0 a1 s) := by
  unfold f_M_X11_here_0
  try simp only [pl_u]
  repeat' (first | assumption | (with_reducible apply Kf_M_X11_need_0) | (with_reducible apply Kf_M_X11_enter_0) | (with_reducible apply Kf_M_X11_make_0) | exact k1_none | exact k2_none | exact KP_need2 | (with_reducible apply k1_some) | (with_reducible apply k2_some) | refine KP_pI (by decide) ?_ | (with_reducible apply KP_pA) | (with_reducible apply k1_ite) | (with_reducible apply k2_ite) | (with_reducible apply k1_gd) | (with_reducible apply k2_gd) | (with_reducible refine k1_bd ?_ (fun _ _ _ => ?_)) | (with_reducible refine k2_bd ?_ (fun _ _ _ => ?_)) | (with_reducible refine k1_b1 ?_ (fun _ _ => ?_)) | (with_reducible refine k2_b1 ?_ (fun _ _ => ?_)))
theorem Kf_M_X11_isLetter {c : Int32} (a0 : Int32) (s : hp_S) (h : KP c s) : k2 c (f_M_X11_isLetter a0 s) := by
  unfold f_M_X11_isLetter
  try simp only [pl_u]
  repeat' (first | assumption | (with_reducible apply Kf_M_X11_need_0) | (with_reducible apply Kf_M_X11_enter_0) | (with_reducible apply Kf_M_X11_make_0) | (with_reducible apply Kf_M_X11_here_0) | exact k1_none | exact k2_none | exact KP_need2 | (with_reducible apply k1_some) | (with_reducible apply k2_some) | refine KP_pI (by decide) ?_ | (with_reducible apply KP_pA) | (with_reducible apply k1_ite) | (with_reducible apply k2_ite) | (with_reducible apply k1_gd) | (with_reducible apply k2_gd) | (with_reducible refine k1_bd ?_ (fun _ _ _ => ?_)) | (with_reducible refine k2_bd ?_ (fun _ _ _ => ?_)) | (with_reducible refine k1_b1 ?_ (fun _ _ => ?_)) | (with_reducible refine k2_b1 ?_ (fun _ _ => ?_)))
theorem Kf_M_X11_isDigit {c : Int32} (a0 : Int32) (s : hp_S) (h : KP c s) : k2 c (f_M_X11_isDigit a0 s) := by
  unfold f_M_X11_isDigit
  try simp only [pl_u]
  repeat' (first | assumption | (with_reducible apply Kf_M_X11_need_0) | (with_reducible apply Kf_M_X11_enter_0) | (with_reducible apply Kf_M_X11_make_0) | (with_reducible apply Kf_M_X11_here_0) | (with_reducible apply Kf_M_X11_isLetter) | exact k1_none | exact k2_none | exact KP_need2 | (with_reducible apply k1_some) | (with_reducible apply k2_some) | refine KP_pI (by decide) ?_ | (with_reducible apply KP_pA) | (with_reducible apply k1_ite) | (with_reducible apply k2_ite) | (with_reducible apply k1_gd) | (with_reducible apply k2_gd) | (with_reducible refine k1_bd ?_ (fun _ _ _ => ?_)) | (with_reducible refine k2_bd ?_ (fun _ _ _ => ?_)) | (with_reducible refine k1_b1 ?_ (fun _ _ => ?_)) | (with_reducible refine k2_b1 ?_ (fun _ _ => ?_)))
theorem Kl_M_X11_look_0_119 {c : Int32} : ∀ (n : Nat)  (s : hp_S) (h : KP c s), k1 c (l_M_X11_look_0_119 n  s)
  | 0,  _, _ => by
    rw [l_M_X11_look_0_119.eq_1]
    exact k1_none
  | n + 1,  s, h => by
    have ih := fun  s (h : KP c s) => Kl_M_X11_look_0_119 (c := c) n  s h
    rw [l_M_X11_look_0_119.eq_2]
    try simp only [pl_u]
    repeat' (first | assumption | (with_reducible apply Kf_M_X11_need_0) | (with_reducible apply Kf_M_X11_enter_0) | (with_reducible apply Kf_M_X11_make_0) | (with_reducible apply Kf_M_X11_here_0) | (with_reducible apply Kf_M_X11_isLetter) | (with_reducible apply Kf_M_X11_isDigit) | (with_reducible apply ih) | exact k1_none | exact k2_none | exact KP_need2 | (with_reducible apply k1_some) | (with_reducible apply k2_some) | refine KP_pI (by decide) ?_ | (with_reducible apply KP_pA) | (with_reducible apply k1_ite) | (with_reducible apply k2_ite) | (with_reducible apply k1_gd) | (with_reducible apply k2_gd) | (with_reducible refine k1_bd ?_ (fun _ _ _ => ?_)) | (with_reducible refine k2_bd ?_ (fun _ _ _ => ?_)) | (with_reducible refine k1_b1 ?_ (fun _ _ => ?_)) | (with_reducible refine k2_b1 ?_ (fun _ _ => ?_)))
theorem Kl_M_X11_wordOf_0_7 {c : Int32} : ∀ (n : Nat) (y0 : Int64) (y1 : Int32) (s : hp_S) (h : KP c s), k2 c (l_M_X11_wordOf_0_7 n y0 y1 s)
  | 0, _, _,  _, _ => by
    rw [l_M_X11_wordOf_0_7.eq_1]
    exact k2_none
  | n + 1, y0, y1,  s, h => by
    have ih := fun (y0 : Int64) (y1 : Int32) s (h : KP c s) => Kl_M_X11_wordOf_0_7 (c := c) n y0 y1 s h
    rw [l_M_X11_wordOf_0_7.eq_2]
    try simp only [pl_u]
    repeat' (first | assumption | (with_reducible apply Kf_M_X11_need_0) | (with_reducible apply Kf_M_X11_enter_0) | (with_reducible apply Kf_M_X11_make_0) | (with_reducible apply Kf_M_X11_here_0) | (with_reducible apply Kf_M_X11_isLetter) | (with_reducible apply Kf_M_X11_isDigit) | (with_reducible apply Kl_M_X11_look_0_119) | (with_reducible apply ih) | exact k1_none | exact k2_none | exact KP_need2 | (with_reducible apply k1_some) | (with_reducible apply k2_some) | refine KP_pI (by decide) ?_ | (with_reducible apply KP_pA) | (with_reducible apply k1_ite) | (with_reducible apply k2_ite) | (with_reducible apply k1_gd) | (with_reducible apply k2_gd) | (with_reducible refine k1_bd ?_ (fun _ _ _ => ?_)) | (with_reducible refine k2_bd ?_ (fun _ _ _ => ?_)) | (with_reducible refine k1_b1 ?_ (fun _ _ => ?_)) | (with_reducible refine k2_b1 ?_ (fun _ _ => ?_)))
theorem Kf_M_X11_wordOf_0 {c : Int32} (n : Nat) (s : hp_S) (h : KP c s) : k2 c (f_M_X11_wordOf_0 n s) := by
  unfold f_M_X11_wordOf_0
  try simp only [pl_u]
  repeat' (first | assumption | (with_reducible apply Kf_M_X11_need_0) | (with_reducible apply Kf_M_X11_enter_0) | (with_reducible apply Kf_M_X11_make_0) | (with_reducible apply Kf_M_X11_here_0) | (with_reducible apply Kf_M_X11_isLetter) | (with_reducible apply Kf_M_X11_isDigit) | (with_reducible apply Kl_M_X11_look_0_119) | (with_reducible apply Kl_M_X11_wordOf_0_7) | exact k1_none | exact k2_none | exact KP_need2 | (with_reducible apply k1_some) | (with_reducible apply k2_some) | refine KP_pI (by decide) ?_ | (with_reducible apply KP_pA) | (with_reducible apply k1_ite) | (with_reducible apply k2_ite) | (with_reducible apply k1_gd) | (with_reducible apply k2_gd) | (with_reducible refine k1_bd ?_ (fun _ _ _ => ?_)) | (with_reducible refine k2_bd ?_ (fun _ _ _ => ?_)) | (with_reducible refine k1_b1 ?_ (fun _ _ => ?_)) | (with_reducible refine k2_b1 ?_ (fun _ _ => ?_)))
theorem Kl_M_X11_look_0_66 {c : Int32} : ∀ (n : Nat)  (s : hp_S) (h : KP c s), k1 c (l_M_X11_look_0_66 n  s)
  | 0,  _, _ => by
    rw [l_M_X11_look_0_66.eq_1]
    exact k1_none
  | n + 1,  s, h => by
    have ih := fun  s (h : KP c s) => Kl_M_X11_look_0_66 (c := c) n  s h
    rw [l_M_X11_look_0_66.eq_2]
    try simp only [pl_u]
    repeat' (first | assumption | (with_reducible apply Kf_M_X11_need_0) | (with_reducible apply Kf_M_X11_enter_0) | (with_reducible apply Kf_M_X11_make_0) | (with_reducible apply Kf_M_X11_here_0) | (with_reducible apply Kf_M_X11_isLetter) | (with_reducible apply Kf_M_X11_isDigit) | (with_reducible apply Kl_M_X11_look_0_119) | (with_reducible apply Kl_M_X11_wordOf_0_7) | (with_reducible apply Kf_M_X11_wordOf_0) | (with_reducible apply ih) | exact k1_none | exact k2_none | exact KP_need2 | (with_reducible apply k1_some) | (with_reducible apply k2_some) | refine KP_pI (by decide) ?_ | (with_reducible apply KP_pA) | (with_reducible apply k1_ite) | (with_reducible apply k2_ite) | (with_reducible apply k1_gd) | (with_reducible apply k2_gd) | (with_reducible refine k1_bd ?_ (fun _ _ _ => ?_)) | (with_reducible refine k2_bd ?_ (fun _ _ _ => ?_)) | (with_reducible refine k1_b1 ?_ (fun _ _ => ?_)) | (with_reducible refine k2_b1 ?_ (fun _ _ => ?_)))
theorem Kl_M_X11_look_0_0 {c : Int32} : ∀ (n : Nat)  (s : hp_S) (h : KP c s), k1 c (l_M_X11_look_0_0 n  s)
  | 0,  _, _ => by
    rw [l_M_X11_look_0_0.eq_1]
    exact k1_none
  | n + 1,  s, h => by
    have ih := fun  s (h : KP c s) => Kl_M_X11_look_0_0 (c := c) n  s h
    rw [l_M_X11_look_0_0.eq_2]
    try simp only [pl_u]
    repeat' (first | assumption | (with_reducible apply Kf_M_X11_need_0) | (with_reducible apply Kf_M_X11_enter_0) | (with_reducible apply Kf_M_X11_make_0) | (with_reducible apply Kf_M_X11_here_0) | (with_reducible apply Kf_M_X11_isLetter) | (with_reducible apply Kf_M_X11_isDigit) | (with_reducible apply Kl_M_X11_look_0_119) | (with_reducible apply Kl_M_X11_wordOf_0_7) | (with_reducible apply Kf_M_X11_wordOf_0) | (with_reducible apply Kl_M_X11_look_0_66) | (with_reducible apply ih) | exact k1_none | exact k2_none | exact KP_need2 | (with_reducible apply k1_some) | (with_reducible apply k2_some) | refine KP_pI (by decide) ?_ | (with_reducible apply KP_pA) | (with_reducible apply k1_ite) | (with_reducible apply k2_ite) | (with_reducible apply k1_gd) | (with_reducible apply k2_gd) | (with_reducible refine k1_bd ?_ (fun _ _ _ => ?_)) | (with_reducible refine k2_bd ?_ (fun _ _ _ => ?_)) | (with_reducible refine k1_b1 ?_ (fun _ _ => ?_)) | (with_reducible refine k2_b1 ?_ (fun _ _ => ?_)))
theorem Kf_M_X11_look_0 {c : Int32} (n : Nat) (s : hp_S) (h : KP c s) : k1 c (f_M_X11_look_0 n s) := by
  unfold f_M_X11_look_0
  try simp only [pl_u]
  repeat' (first | assumption | (with_reducible apply Kf_M_X11_need_0) | (with_reducible apply Kf_M_X11_enter_0) | (with_reducible apply Kf_M_X11_make_0) | (with_reducible apply Kf_M_X11_here_0) | (with_reducible apply Kf_M_X11_isLetter) | (with_reducible apply Kf_M_X11_isDigit) | (with_reducible apply Kl_M_X11_look_0_119) | (with_reducible apply Kl_M_X11_wordOf_0_7) | (with_reducible apply Kf_M_X11_wordOf_0) | (with_reducible apply Kl_M_X11_look_0_66) | (with_reducible apply Kl_M_X11_look_0_0) | exact k1_none | exact k2_none | exact KP_need2 | (with_reducible apply k1_some) | (with_reducible apply k2_some) | refine KP_pI (by decide) ?_ | (with_reducible apply KP_pA) | (with_reducible apply k1_ite) | (with_reducible apply k2_ite) | (with_reducible apply k1_gd) | (with_reducible apply k2_gd) | (with_reducible refine k1_bd ?_ (fun _ _ _ => ?_)) | (with_reducible refine k2_bd ?_ (fun _ _ _ => ?_)) | (with_reducible refine k1_b1 ?_ (fun _ _ => ?_)) | (with_reducible refine k2_b1 ?_ (fun _ _ => ?_)))
theorem Kf_M_X11_pass_0 {c : Int32} (n : Nat) (a1 : Int32) (s : hp_S) (h : KP c s) : k2 c (f_M_X11_pass_0 n a1 s) := by
  unfold f_M_X11_pass_0
  try simp only [pl_u]
  repeat' (first | assumption | (with_reducible apply Kf_M_X11_need_0) | (with_reducible apply Kf_M_X11_enter_0) | (with_reducible apply Kf_M_X11_make_0) | (with_reducible apply Kf_M_X11_here_0) | (with_reducible apply Kf_M_X11_isLetter) | (with_reducible apply Kf_M_X11_isDigit) | (with_reducible apply Kl_M_X11_look_0_119) | (with_reducible apply Kl_M_X11_wordOf_0_7) | (with_reducible apply Kf_M_X11_wordOf_0) | (with_reducible apply Kl_M_X11_look_0_66) | (with_reducible apply Kl_M_X11_look_0_0) | (with_reducible apply Kf_M_X11_look_0) | exact k1_none | exact k2_none | exact KP_need2 | (with_reducible apply k1_some) | (with_reducible apply k2_some) | refine KP_pI (by decide) ?_ | (with_reducible apply KP_pA) | (with_reducible apply k1_ite) | (with_reducible apply k2_ite) | (with_reducible apply k1_gd) | (with_reducible apply k2_gd) | (with_reducible refine k1_bd ?_ (fun _ _ _ => ?_)) | (with_reducible refine k2_bd ?_ (fun _ _ _ => ?_)) | (with_reducible refine k1_b1 ?_ (fun _ _ => ?_)) | (with_reducible refine k2_b1 ?_ (fun _ _ => ?_)))
theorem Kf_M_X11_take_0 {c : Int32} (n : Nat) (a1 : Int32) (a2 : Int32) (s : hp_S) (h : KP c s) : k2 c (f_M_X11_take_0 n a1 a2 s) := by
  unfold f_M_X11_take_0
  try simp only [pl_u]
  repeat' (first | assumption | (with_reducible apply Kf_M_X11_need_0) | (with_reducible apply Kf_M_X11_enter_0) | (with_reducible apply Kf_M_X11_make_0) | (with_reducible apply Kf_M_X11_here_0) | (with_reducible apply Kf_M_X11_isLetter) | (with_reducible apply Kf_M_X11_isDigit) | (with_reducible apply Kl_M_X11_look_0_119) | (with_reducible apply Kl_M_X11_wordOf_0_7) | (with_reducible apply Kf_M_X11_wordOf_0) | (with_reducible apply Kl_M_X11_look_0_66) | (with_reducible apply Kl_M_X11_look_0_0) | (with_reducible apply Kf_M_X11_look_0) | (with_reducible apply Kf_M_X11_pass_0) | exact k1_none | exact k2_none | exact KP_need2 | (with_reducible apply k1_some) | (with_reducible apply k2_some) | refine KP_pI (by decide) ?_ | (with_reducible apply KP_pA) | (with_reducible apply k1_ite) | (with_reducible apply k2_ite) | (with_reducible apply k1_gd) | (with_reducible apply k2_gd) | (with_reducible refine k1_bd ?_ (fun _ _ _ => ?_)) | (with_reducible refine k2_bd ?_ (fun _ _ _ => ?_)) | (with_reducible refine k1_b1 ?_ (fun _ _ => ?_)) | (with_reducible refine k2_b1 ?_ (fun _ _ => ?_)))
theorem Kf_M_X11_begins_0 {c : Int32} (n : Nat) (s : hp_S) (h : KP c s) : k1 c (f_M_X11_begins_0 n s) := by
  unfold f_M_X11_begins_0
  try simp only [pl_u]
  repeat' (first | assumption | (with_reducible apply Kf_M_X11_need_0) | (with_reducible apply Kf_M_X11_enter_0) | (with_reducible apply Kf_M_X11_make_0) | (with_reducible apply Kf_M_X11_here_0) | (with_reducible apply Kf_M_X11_isLetter) | (with_reducible apply Kf_M_X11_isDigit) | (with_reducible apply Kl_M_X11_look_0_119) | (with_reducible apply Kl_M_X11_wordOf_0_7) | (with_reducible apply Kf_M_X11_wordOf_0) | (with_reducible apply Kl_M_X11_look_0_66) | (with_reducible apply Kl_M_X11_look_0_0) | (with_reducible apply Kf_M_X11_look_0) | (with_reducible apply Kf_M_X11_pass_0) | (with_reducible apply Kf_M_X11_take_0) | exact k1_none | exact k2_none | exact KP_need2 | (with_reducible apply k1_some) | (with_reducible apply k2_some) | refine KP_pI (by decide) ?_ | (with_reducible apply KP_pA) | (with_reducible apply k1_ite) | (with_reducible apply k2_ite) | (with_reducible apply k1_gd) | (with_reducible apply k2_gd) | (with_reducible refine k1_bd ?_ (fun _ _ _ => ?_)) | (with_reducible refine k2_bd ?_ (fun _ _ _ => ?_)) | (with_reducible refine k1_b1 ?_ (fun _ _ => ?_)) | (with_reducible refine k2_b1 ?_ (fun _ _ => ?_)))
theorem Kf_M_X11_single_0 {c : Int32} (n : Nat) (a1 : Int32) (s : hp_S) (h : KP c s) : k2 c (f_M_X11_single_0 n a1 s) := by
  unfold f_M_X11_single_0
  try simp only [pl_u]
  repeat' (first | assumption | (with_reducible apply Kf_M_X11_need_0) | (with_reducible apply Kf_M_X11_enter_0) | (with_reducible apply Kf_M_X11_make_0) | (with_reducible apply Kf_M_X11_here_0) | (with_reducible apply Kf_M_X11_isLetter) | (with_reducible apply Kf_M_X11_isDigit) | (with_reducible apply Kl_M_X11_look_0_119) | (with_reducible apply Kl_M_X11_wordOf_0_7) | (with_reducible apply Kf_M_X11_wordOf_0) | (with_reducible apply Kl_M_X11_look_0_66) | (with_reducible apply Kl_M_X11_look_0_0) | (with_reducible apply Kf_M_X11_look_0) | (with_reducible apply Kf_M_X11_pass_0) | (with_reducible apply Kf_M_X11_take_0) | (with_reducible apply Kf_M_X11_begins_0) | exact k1_none | exact k2_none | exact KP_need2 | (with_reducible apply k1_some) | (with_reducible apply k2_some) | refine KP_pI (by decide) ?_ | (with_reducible apply KP_pA) | (with_reducible apply k1_ite) | (with_reducible apply k2_ite) | (with_reducible apply k1_gd) | (with_reducible apply k2_gd) | (with_reducible refine k1_bd ?_ (fun _ _ _ => ?_)) | (with_reducible refine k2_bd ?_ (fun _ _ _ => ?_)) | (with_reducible refine k1_b1 ?_ (fun _ _ => ?_)) | (with_reducible refine k2_b1 ?_ (fun _ _ => ?_)))
theorem Kf_M_X11_atom_0 {c : Int32} (n : Nat) (s : hp_S) (h : KP c s) : k1 c (f_M_X11_atom_0 n s) := by
  unfold f_M_X11_atom_0
  try simp only [pl_u]
  repeat' (first | assumption | (with_reducible apply Kf_M_X11_need_0) | (with_reducible apply Kf_M_X11_enter_0) | (with_reducible apply Kf_M_X11_make_0) | (with_reducible apply Kf_M_X11_here_0) | (with_reducible apply Kf_M_X11_isLetter) | (with_reducible apply Kf_M_X11_isDigit) | (with_reducible apply Kl_M_X11_look_0_119) | (with_reducible apply Kl_M_X11_wordOf_0_7) | (with_reducible apply Kf_M_X11_wordOf_0) | (with_reducible apply Kl_M_X11_look_0_66) | (with_reducible apply Kl_M_X11_look_0_0) | (with_reducible apply Kf_M_X11_look_0) | (with_reducible apply Kf_M_X11_pass_0) | (with_reducible apply Kf_M_X11_take_0) | (with_reducible apply Kf_M_X11_begins_0) | (with_reducible apply Kf_M_X11_single_0) | exact k1_none | exact k2_none | exact KP_need2 | (with_reducible apply k1_some) | (with_reducible apply k2_some) | refine KP_pI (by decide) ?_ | (with_reducible apply KP_pA) | (with_reducible apply k1_ite) | (with_reducible apply k2_ite) | (with_reducible apply k1_gd) | (with_reducible apply k2_gd) | (with_reducible refine k1_bd ?_ (fun _ _ _ => ?_)) | (with_reducible refine k2_bd ?_ (fun _ _ _ => ?_)) | (with_reducible refine k1_b1 ?_ (fun _ _ => ?_)) | (with_reducible refine k2_b1 ?_ (fun _ _ => ?_)))
theorem Kf_M_X11_called_0 {c : Int32} (n : Nat) (s : hp_S) (h : KP c s) : k1 c (f_M_X11_called_0 n s) := by
  unfold f_M_X11_called_0
  try simp only [pl_u]
  repeat' (first | assumption | (with_reducible apply Kf_M_X11_need_0) | (with_reducible apply Kf_M_X11_enter_0) | (with_reducible apply Kf_M_X11_make_0) | (with_reducible apply Kf_M_X11_here_0) | (with_reducible apply Kf_M_X11_isLetter) | (with_reducible apply Kf_M_X11_isDigit) | (with_reducible apply Kl_M_X11_look_0_119) | (with_reducible apply Kl_M_X11_wordOf_0_7) | (with_reducible apply Kf_M_X11_wordOf_0) | (with_reducible apply Kl_M_X11_look_0_66) | (with_reducible apply Kl_M_X11_look_0_0) | (with_reducible apply Kf_M_X11_look_0) | (with_reducible apply Kf_M_X11_pass_0) | (with_reducible apply Kf_M_X11_take_0) | (with_reducible apply Kf_M_X11_begins_0) | (with_reducible apply Kf_M_X11_single_0) | (with_reducible apply Kf_M_X11_atom_0) | exact k1_none | exact k2_none | exact KP_need2 | (with_reducible apply k1_some) | (with_reducible apply k2_some) | refine KP_pI (by decide) ?_ | (with_reducible apply KP_pA) | (with_reducible apply k1_ite) | (with_reducible apply k2_ite) | (with_reducible apply k1_gd) | (with_reducible apply k2_gd) | (with_reducible refine k1_bd ?_ (fun _ _ _ => ?_)) | (with_reducible refine k2_bd ?_ (fun _ _ _ => ?_)) | (with_reducible refine k1_b1 ?_ (fun _ _ => ?_)) | (with_reducible refine k2_b1 ?_ (fun _ _ => ?_)))
theorem Kf_M_X11_group_0 {c : Int32} (n : Nat) (a1 : Int32) (s : hp_S) (h : KP c s) : k1 c (f_M_X11_group_0 n a1 s) := by
  unfold f_M_X11_group_0
  try simp only [pl_u]
  repeat' (first | assumption | (with_reducible apply Kf_M_X11_need_0) | (with_reducible apply Kf_M_X11_enter_0) | (with_reducible apply Kf_M_X11_make_0) | (with_reducible apply Kf_M_X11_here_0) | (with_reducible apply Kf_M_X11_isLetter) | (with_reducible apply Kf_M_X11_isDigit) | (with_reducible apply Kl_M_X11_look_0_119) | (with_reducible apply Kl_M_X11_wordOf_0_7) | (with_reducible apply Kf_M_X11_wordOf_0) | (with_reducible apply Kl_M_X11_look_0_66) | (with_reducible apply Kl_M_X11_look_0_0) | (with_reducible apply Kf_M_X11_look_0) | (with_reducible apply Kf_M_X11_pass_0) | (with_reducible apply Kf_M_X11_take_0) | (with_reducible apply Kf_M_X11_begins_0) | (with_reducible apply Kf_M_X11_single_0) | (with_reducible apply Kf_M_X11_atom_0) | (with_reducible apply Kf_M_X11_called_0) | exact k1_none | exact k2_none | exact KP_need2 | (with_reducible apply k1_some) | (with_reducible apply k2_some) | refine KP_pI (by decide) ?_ | (with_reducible apply KP_pA) | (with_reducible apply k1_ite) | (with_reducible apply k2_ite) | (with_reducible apply k1_gd) | (with_reducible apply k2_gd) | (with_reducible refine k1_bd ?_ (fun _ _ _ => ?_)) | (with_reducible refine k2_bd ?_ (fun _ _ _ => ?_)) | (with_reducible refine k1_b1 ?_ (fun _ _ => ?_)) | (with_reducible refine k2_b1 ?_ (fun _ _ => ?_)))
theorem Kf_M_X11_ended_0 {c : Int32} (n : Nat) (s : hp_S) (h : KP c s) : k1 c (f_M_X11_ended_0 n s) := by
  unfold f_M_X11_ended_0
  try simp only [pl_u]
  repeat' (first | assumption | (with_reducible apply Kf_M_X11_need_0) | (with_reducible apply Kf_M_X11_enter_0) | (with_reducible apply Kf_M_X11_make_0) | (with_reducible apply Kf_M_X11_here_0) | (with_reducible apply Kf_M_X11_isLetter) | (with_reducible apply Kf_M_X11_isDigit) | (with_reducible apply Kl_M_X11_look_0_119) | (with_reducible apply Kl_M_X11_wordOf_0_7) | (with_reducible apply Kf_M_X11_wordOf_0) | (with_reducible apply Kl_M_X11_look_0_66) | (with_reducible apply Kl_M_X11_look_0_0) | (with_reducible apply Kf_M_X11_look_0) | (with_reducible apply Kf_M_X11_pass_0) | (with_reducible apply Kf_M_X11_take_0) | (with_reducible apply Kf_M_X11_begins_0) | (with_reducible apply Kf_M_X11_single_0) | (with_reducible apply Kf_M_X11_atom_0) | (with_reducible apply Kf_M_X11_called_0) | (with_reducible apply Kf_M_X11_group_0) | exact k1_none | exact k2_none | exact KP_need2 | (with_reducible apply k1_some) | (with_reducible apply k2_some) | refine KP_pI (by decide) ?_ | (with_reducible apply KP_pA) | (with_reducible apply k1_ite) | (with_reducible apply k2_ite) | (with_reducible apply k1_gd) | (with_reducible apply k2_gd) | (with_reducible refine k1_bd ?_ (fun _ _ _ => ?_)) | (with_reducible refine k2_bd ?_ (fun _ _ _ => ?_)) | (with_reducible refine k1_b1 ?_ (fun _ _ => ?_)) | (with_reducible refine k2_b1 ?_ (fun _ _ => ?_)))
theorem Kl_M_X11_parse_0_16 {c : Int32} : ∀ (n : Nat)  (s : hp_S) (h : KP c s), k2 c (l_M_X11_parse_0_16 n  s)
  | 0,  _, _ => by
    rw [l_M_X11_parse_0_16.eq_1]
    exact k2_none
  | n + 1,  s, h => by
    have ih := fun  s (h : KP c s) => Kl_M_X11_parse_0_16 (c := c) n  s h
    rw [l_M_X11_parse_0_16.eq_2]
    try simp only [pl_u]
    repeat' (first | assumption | (with_reducible apply Kf_M_X11_need_0) | (with_reducible apply Kf_M_X11_enter_0) | (with_reducible apply Kf_M_X11_make_0) | (with_reducible apply Kf_M_X11_here_0) | (with_reducible apply Kf_M_X11_isLetter) | (with_reducible apply Kf_M_X11_isDigit) | (with_reducible apply Kl_M_X11_look_0_119) | (with_reducible apply Kl_M_X11_wordOf_0_7) | (with_reducible apply Kf_M_X11_wordOf_0) | (with_reducible apply Kl_M_X11_look_0_66) | (with_reducible apply Kl_M_X11_look_0_0) | (with_reducible apply Kf_M_X11_look_0) | (with_reducible apply Kf_M_X11_pass_0) | (with_reducible apply Kf_M_X11_take_0) | (with_reducible apply Kf_M_X11_begins_0) | (with_reducible apply Kf_M_X11_single_0) | (with_reducible apply Kf_M_X11_atom_0) | (with_reducible apply Kf_M_X11_called_0) | (with_reducible apply Kf_M_X11_group_0) | (with_reducible apply Kf_M_X11_ended_0) | (with_reducible apply ih) | exact k1_none | exact k2_none | exact KP_need2 | (with_reducible apply k1_some) | (with_reducible apply k2_some) | refine KP_pI (by decide) ?_ | (with_reducible apply KP_pA) | (with_reducible apply k1_ite) | (with_reducible apply k2_ite) | (with_reducible apply k1_gd) | (with_reducible apply k2_gd) | (with_reducible refine k1_bd ?_ (fun _ _ _ => ?_)) | (with_reducible refine k2_bd ?_ (fun _ _ _ => ?_)) | (with_reducible refine k1_b1 ?_ (fun _ _ => ?_)) | (with_reducible refine k2_b1 ?_ (fun _ _ => ?_)))
theorem PLACE {m m' : hp_S} {F : Nat} {y : Int32} (h : f_M_X11_parse_0 F m = some (y, m')) (hb : hs_I m' 0 50 = 0) : hs_I m' 0 4 = hs_I m 0 4 := by
  have h2 : k2 (hs_I m 0 4) (f_M_X11_parse_0 F m) := by
    unfold f_M_X11_parse_0
    try simp only [pl_u]
    have h0 : KP (hs_I m 0 4) (hs_pI (hs_pI m 0 50 (0 : Int32)) 0 23 0) := by
      intro _
      rw [hs_I_pI, if_neg (by decide), hs_I_pI, if_neg (by decide)]
    exact k2_b1 (Kf_M_X11_enter_0 _ _ _ h0) (fun t ht => Kl_M_X11_parse_0_16 _ t ht)
  exact h2 y m' h hb
