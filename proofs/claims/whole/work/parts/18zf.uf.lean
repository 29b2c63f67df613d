/-! UNION and FIND, without the machine -/
def AA : Type := (Nat → Nat) × (Nat → Nat) × (Nat → Nat)
def ash (A : AA) : Nat → Nat := A.1
def alf (A : AA) : Nat → Nat := A.2.1
def art (A : AA) : Nat → Nat := A.2.2
def EQR (R : Nat) (Q : Nat → Nat → Prop) : Prop := (∀ x, x < R → Q x x) ∧ (∀ x y, Q x y → Q y x) ∧ ∀ x y z, Q x y → Q y z → Q x z
def CLO (A : AA) (R : Nat) (Q : Nat → Nat → Prop) : Prop := ∀ x y, x < R → y < R → Q x y → 3 ≤ ash A x → ash A x = ash A y → Q (alf A x) (alf A y) ∧ Q (art A x) (art A y)
def WF (A : AA) (R : Nat) : Prop := ∀ x, x < R → ash A x ≤ 4 ∧ (3 ≤ ash A x → alf A x < R ∧ art A x < R)
def RT (R : Nat) (ρ : Nat → Nat) : Prop := ∀ x, x < R → ρ x < R ∧ ρ (ρ x) = ρ x
def NF (A : AA) (R : Nat) (ρ : Nat → Nat) : Prop := ∀ x, x < R → ash A x ≠ 0 → ash A (ρ x) = ash A x
def INV (A : AA) (R : Nat) (B : Nat → Nat → Prop) (ρ : Nat → Nat) (Pd : Nat → Nat → Prop) : Prop :=
  RT R ρ ∧ (∀ a b, Pd a b → a < R ∧ b < R) ∧
  (∀ Q, EQR R Q → CLO A R Q → (∀ x y, B x y → Q x y) → (∀ x, x < R → Q x (ρ x)) ∧ ∀ a b, Pd a b → Q a b) ∧
  (∀ Q, EQR R Q → (∀ x, x < R → Q x (ρ x)) → (∀ a b, Pd a b → Q a b) → (∀ x y, B x y → Q x y) ∧ ∀ x y, x < R → y < R → ρ x = ρ y → 3 ≤ ash A x → ash A x = ash A y → Q (alf A x) (alf A y) ∧ Q (art A x) (art A y)) ∧ NF A R ρ
def lk (ρ : Nat → Nat) (x y : Nat) : Nat → Nat := fun z => if ρ z = x then y else ρ z
theorem INV_same {A : AA} {R : Nat} {B : Nat → Nat → Prop} {ρ : Nat → Nat} {Pd Pd' : Nat → Nat → Prop} {a b : Nat} (h : INV A R B ρ Pd) (ha : a < R) (hb : b < R) (hs : ρ a = ρ b) (h1 : ∀ u v, Pd u v → (u = a ∧ v = b) ∨ Pd' u v) (h2 : ∀ u v, Pd' u v → Pd u v) : INV A R B ρ Pd' := by
  obtain ⟨i1, i2, i3, i4, i5⟩ := h
  refine ⟨i1, fun u v q => i2 u v (h2 u v q), fun Q q1 q2 q3 => ?_, fun Q q1 q2 q3 => ?_, i5⟩
  · obtain ⟨j1, j2⟩ := i3 Q q1 q2 q3
    exact ⟨j1, fun u v q => j2 u v (h2 u v q)⟩
  · refine i4 Q q1 q2 (fun u v q => ?_)
    rcases h1 u v q with ⟨rfl, rfl⟩ | q'
    · have e1 := q2 u ha
      have e2 := q2 v hb
      rw [hs] at e1
      exact q1.2.2 _ _ _ e1 (q1.2.1 _ _ e2)
    · exact q3 u v q'
theorem INV_link {A : AA} {R : Nat} {B : Nat → Nat → Prop} {ρ : Nat → Nat} {Pd Pd' : Nat → Nat → Prop} {a b x y : Nat} (hW : WF A R) (h : INV A R B ρ Pd) (hab : Pd a b) (hxy : (x = ρ a ∧ y = ρ b) ∨ (x = ρ b ∧ y = ρ a)) (hne : x ≠ y)
    (hs : ash A x = 0 ∨ (ash A x = ash A y ∧ (3 ≤ ash A x → Pd' (alf A x) (alf A y) ∧ Pd' (art A x) (art A y))))
    (h1 : ∀ u v, Pd u v → (u = a ∧ v = b) ∨ Pd' u v) (h2 : ∀ u v, Pd' u v → Pd u v ∨ (3 ≤ ash A x ∧ ash A x = ash A y ∧ ((u = alf A x ∧ v = alf A y) ∨ (u = art A x ∧ v = art A y)))) : INV A R B (lk ρ x y) Pd' := by
  obtain ⟨i1, i2, i3, i4, i5⟩ := h
  obtain ⟨ha, hb⟩ := i2 a b hab
  obtain ⟨ra1, ra2⟩ := i1 a ha
  obtain ⟨rb1, rb2⟩ := i1 b hb
  have hx : x < R ∧ ρ x = x := by rcases hxy with ⟨rfl, rfl⟩ | ⟨rfl, rfl⟩ <;> exact ⟨by assumption, by assumption⟩
  have hy : y < R ∧ ρ y = y := by rcases hxy with ⟨rfl, rfl⟩ | ⟨rfl, rfl⟩ <;> exact ⟨by assumption, by assumption⟩
  refine ⟨fun z hz => ?_, fun u v q => ?_, fun Q q1 q2 q3 => ?_, fun Q q1 q2 q3 => ?_, fun z hz h0 => ?_⟩
  · unfold lk
    by_cases c : ρ z = x
    · rw [if_pos c]
      refine ⟨hy.1, ?_⟩
      rw [hy.2, if_neg (fun q => hne q.symm)]
    · rw [if_neg c, (i1 z hz).2, if_neg c]
      exact ⟨(i1 z hz).1, rfl⟩
  · rcases h2 u v q with q' | ⟨g1, g2, ⟨rfl, rfl⟩ | ⟨rfl, rfl⟩⟩
    · exact i2 u v q'
    · exact ⟨((hW x hx.1).2 g1).1, ((hW y hy.1).2 (by omega)).1⟩
    · exact ⟨((hW x hx.1).2 g1).2, ((hW y hy.1).2 (by omega)).2⟩
  · obtain ⟨j1, j2⟩ := i3 Q q1 q2 q3
    have qab := j2 a b hab
    have qa := j1 a ha
    have qb := j1 b hb
    have qxy : Q x y := by
      have : Q (ρ a) (ρ b) := q1.2.2 _ _ _ (q1.2.1 _ _ qa) (q1.2.2 _ _ _ qab qb)
      rcases hxy with ⟨rfl, rfl⟩ | ⟨rfl, rfl⟩
      · exact this
      · exact q1.2.1 _ _ this
    refine ⟨fun z hz => ?_, fun u v q => ?_⟩
    · unfold lk
      by_cases c : ρ z = x
      · rw [if_pos c]
        have := j1 z hz
        rw [c] at this
        exact q1.2.2 _ _ _ this qxy
      · rw [if_neg c]; exact j1 z hz
    · rcases h2 u v q with q' | ⟨g1, g2, ⟨rfl, rfl⟩ | ⟨rfl, rfl⟩⟩
      · exact j2 u v q'
      · exact (q2 x y hx.1 hy.1 qxy g1 g2).1
      · exact (q2 x y hx.1 hy.1 qxy g1 g2).2
  · have qx : Q x y := by
      have := q2 x hx.1
      unfold lk at this
      rw [if_pos hx.2] at this
      exact this
    have qz : ∀ z, z < R → Q z (ρ z) := by
      intro z hz
      have := q2 z hz
      unfold lk at this
      by_cases c : ρ z = x
      · rw [if_pos c] at this
        rw [c]
        exact q1.2.2 _ _ _ this (q1.2.1 _ _ qx)
      · rw [if_neg c] at this; exact this
    have qab : Q a b := by
      have e1 := qz a ha
      have e2 := qz b hb
      rcases hxy with ⟨rfl, rfl⟩ | ⟨rfl, rfl⟩
      · exact q1.2.2 _ _ _ e1 (q1.2.2 _ _ _ qx (q1.2.1 _ _ e2))
      · exact q1.2.2 _ _ _ e1 (q1.2.2 _ _ _ (q1.2.1 _ _ qx) (q1.2.1 _ _ e2))
    obtain ⟨k1, k2⟩ := i4 Q q1 qz (fun u v q => by
      rcases h1 u v q with ⟨rfl, rfl⟩ | q'
      · exact qab
      · exact q3 u v q')
    have cross : ∀ u v, u < R → v < R → ρ u = x → ρ v = y → 3 ≤ ash A u → ash A u = ash A v → Q (alf A u) (alf A v) ∧ Q (art A u) (art A v) := by
      intro u v hu hv eu ev g1 g2
      have su := i5 u hu (by omega)
      have sv := i5 v hv (by omega)
      rw [eu] at su
      rw [ev] at sv
      rcases hs with g | ⟨g3, g4⟩
      · omega
      · obtain ⟨p1, p2⟩ := g4 (by omega)
        obtain ⟨a1, a2⟩ := k2 u x hu hx.1 (by rw [eu, hx.2]) g1 (by omega)
        obtain ⟨b1, b2⟩ := k2 y v hy.1 hv (by rw [ev, hy.2]) (by omega) (by omega)
        exact ⟨q1.2.2 _ _ _ a1 (q1.2.2 _ _ _ (q3 _ _ p1) b1), q1.2.2 _ _ _ a2 (q1.2.2 _ _ _ (q3 _ _ p2) b2)⟩
    refine ⟨k1, fun u v hu hv e g1 g2 => ?_⟩
    unfold lk at e
    by_cases c1 : ρ u = x
    · rw [if_pos c1] at e
      by_cases c2 : ρ v = x
      · exact k2 u v hu hv (by rw [c1, c2]) g1 g2
      · rw [if_neg c2] at e
        exact cross u v hu hv c1 e.symm g1 g2
    · rw [if_neg c1] at e
      by_cases c2 : ρ v = x
      · rw [if_pos c2] at e
        obtain ⟨a1, a2⟩ := cross v u hv hu c2 e (by omega) g2.symm
        exact ⟨q1.2.1 _ _ a1, q1.2.1 _ _ a2⟩
      · rw [if_neg c2] at e
        exact k2 u v hu hv e g1 g2
  · have s1 := i5 z hz h0
    unfold lk
    by_cases c : ρ z = x
    · rw [if_pos c]
      rw [c] at s1
      rcases hs with g | ⟨g, -⟩
      · omega
      · omega
    · rw [if_neg c]; exact s1
/-- a completed state -/
def DN (A : AA) (R : Nat) (ρ : Nat → Nat) : Prop := RT R ρ ∧ NF A R ρ ∧ ∀ x y, x < R → y < R → ρ x = ρ y → 3 ≤ ash A x → ash A x = ash A y → ρ (alf A x) = ρ (alf A y) ∧ ρ (art A x) = ρ (art A y)
def rq (R : Nat) (ρ : Nat → Nat) : Nat → Nat → Prop := fun x y => x < R ∧ y < R ∧ ρ x = ρ y
def Bs (R : Nat) (ρ : Nat → Nat) (a b : Nat) : Nat → Nat → Prop := fun x y => rq R ρ x y ∨ (x = a ∧ y = b)
theorem rq_EQR (R : Nat) (ρ : Nat → Nat) : EQR R (rq R ρ) := ⟨fun x hx => ⟨hx, hx, rfl⟩, fun x y h => ⟨h.2.1, h.1, h.2.2.symm⟩, fun x y z h g => ⟨h.1, g.2.1, h.2.2.trans g.2.2⟩⟩
theorem INV_init {A : AA} {R : Nat} {ρ ρ0 : Nat → Nat} {a b : Nat} {Pd : Nat → Nat → Prop} (hW : WF A R) (h : DN A R ρ) (ha : a < R) (hb : b < R) (he : ∀ x y, x < R → y < R → (ρ x = ρ y ↔ ρ0 x = ρ0 y)) (hP : ∀ u v, Pd u v ↔ (u = a ∧ v = b)) : INV A R (Bs R ρ0 a b) ρ Pd := by
  obtain ⟨h1, h2, h3⟩ := h
  refine ⟨h1, fun u v q => ?_, fun Q q1 q2 q3 => ⟨fun x hx => ?_, fun u v q => ?_⟩, fun Q q1 q2 q3 => ⟨fun x y q => ?_, fun x y hx hy e g1 g2 => ?_⟩, h2⟩
  · obtain ⟨rfl, rfl⟩ := (hP u v).mp q
    exact ⟨ha, hb⟩
  · exact q3 _ _ (Or.inl ⟨hx, (h1 x hx).1, (he _ _ hx (h1 x hx).1).mp (h1 x hx).2.symm⟩)
  · exact q3 _ _ (Or.inr ((hP u v).mp q))
  · rcases q with ⟨g1, g2, g3⟩ | g
    · have e := (he x y g1 g2).mpr g3
      have e1 := q2 x g1
      have e2 := q2 y g2
      rw [e] at e1
      exact q1.2.2 _ _ _ e1 (q1.2.1 _ _ e2)
    · exact q3 _ _ ((hP x y).mpr g)
  · obtain ⟨e1, e2⟩ := h3 x y hx hy e g1 g2
    obtain ⟨l1, r1⟩ := (hW x hx).2 g1
    obtain ⟨l2, r2⟩ := (hW y hy).2 (by omega)
    refine ⟨?_, ?_⟩
    · have a1 := q2 _ l1
      have a2 := q2 _ l2
      rw [e1] at a1
      exact q1.2.2 _ _ _ a1 (q1.2.1 _ _ a2)
    · have a1 := q2 _ r1
      have a2 := q2 _ r2
      rw [e2] at a1
      exact q1.2.2 _ _ _ a1 (q1.2.1 _ _ a2)
theorem INV_done {A : AA} {R : Nat} {B : Nat → Nat → Prop} {ρ : Nat → Nat} {Pd : Nat → Nat → Prop} (h : INV A R B ρ Pd) (hP : ∀ u v, ¬ Pd u v) : DN A R ρ ∧ (∀ x y, B x y → rq R ρ x y) ∧ ∀ Q, EQR R Q → CLO A R Q → (∀ x y, B x y → Q x y) → ∀ x y, rq R ρ x y → Q x y := by
  obtain ⟨i1, i2, i3, i4, i5⟩ := h
  obtain ⟨j1, j2⟩ := i4 (rq R ρ) (rq_EQR R ρ) (fun x hx => ⟨hx, (i1 x hx).1, (i1 x hx).2.symm⟩) (fun u v q => absurd q (hP u v))
  refine ⟨⟨i1, i5, fun x y hx hy e g1 g2 => ?_⟩, j1, fun Q q1 q2 q3 x y q => ?_⟩
  · obtain ⟨k1, k2⟩ := j2 x y hx hy e g1 g2
    exact ⟨k1.2.2, k2.2.2⟩
  · obtain ⟨k1, -⟩ := i3 Q q1 q2 q3
    have e1 := k1 x q.1
    have e2 := k1 y q.2.1
    rw [q.2.2] at e1
    exact q1.2.2 _ _ _ e1 (q1.2.1 _ _ e2)
def FL (A : AA) (R : Nat) (B : Nat → Nat → Prop) : Prop := ∃ x y, x < R ∧ y < R ∧ ash A x ≠ 0 ∧ ash A y ≠ 0 ∧ ash A x ≠ ash A y ∧ ∀ Q, EQR R Q → CLO A R Q → (∀ u v, B u v → Q u v) → Q x y
theorem INV_fail {A : AA} {R : Nat} {B : Nat → Nat → Prop} {ρ : Nat → Nat} {Pd : Nat → Nat → Prop} {a b : Nat} (h : INV A R B ρ Pd) (hab : Pd a b) (h1 : ash A (ρ a) ≠ 0) (h2 : ash A (ρ b) ≠ 0) (h3 : ash A (ρ a) ≠ ash A (ρ b)) : FL A R B := by
  obtain ⟨i1, i2, i3, i4, i5⟩ := h
  obtain ⟨ha, hb⟩ := i2 a b hab
  refine ⟨ρ a, ρ b, (i1 a ha).1, (i1 b hb).1, h1, h2, h3, fun Q q1 q2 q3 => ?_⟩
  obtain ⟨j1, j2⟩ := i3 Q q1 q2 q3
  exact q1.2.2 _ _ _ (q1.2.1 _ _ (j1 a ha)) (q1.2.2 _ _ _ (j2 a b hab) (j1 b hb))
theorem DN_CLO {A : AA} {R : Nat} {ρ : Nat → Nat} (hW : WF A R) (h : DN A R ρ) : CLO A R (rq R ρ) := by
  intro x y hx hy q g1 g2
  obtain ⟨e1, e2⟩ := h.2.2 x y hx hy q.2.2 g1 g2
  obtain ⟨l1, r1⟩ := (hW x hx).2 g1
  obtain ⟨l2, r2⟩ := (hW y hy).2 (by omega)
  exact ⟨⟨l1, l2, e1⟩, r1, r2, e2⟩
/-- one fails just if the other does -/
theorem FL_not {A : AA} {R : Nat} {B : Nat → Nat → Prop} {ρ : Nat → Nat} (hW : WF A R) (h : DN A R ρ) (hB : ∀ x y, B x y → rq R ρ x y) : ¬ FL A R B := by
  rintro ⟨x, y, hx, hy, h1, h2, h3, h4⟩
  have q := h4 _ (rq_EQR R ρ) (DN_CLO hW h) hB
  have e1 := h.2.1 x hx h1
  have e2 := h.2.1 y hy h2
  rw [q.2.2, e2] at e1
  exact h3 e1.symm
/-- and both come to the same -/
theorem DN_same {A : AA} {R : Nat} {B : Nat → Nat → Prop} {ρ ρ' : Nat → Nat} (hW : WF A R) (h : DN A R ρ) (hB : ∀ x y, B x y → rq R ρ x y) (h' : DN A R ρ') (hB' : ∀ x y, B x y → rq R ρ' x y)
    (hL : ∀ Q, EQR R Q → CLO A R Q → (∀ x y, B x y → Q x y) → ∀ x y, rq R ρ x y → Q x y) (hL' : ∀ Q, EQR R Q → CLO A R Q → (∀ x y, B x y → Q x y) → ∀ x y, rq R ρ' x y → Q x y) : ∀ x y, x < R → y < R → (ρ x = ρ y ↔ ρ' x = ρ' y) := by
  intro x y hx hy
  constructor
  · intro e
    exact (hL _ (rq_EQR R ρ') (DN_CLO hW h') hB' x y ⟨hx, hy, e⟩).2.2
  · intro e
    exact (hL' _ (rq_EQR R ρ) (DN_CLO hW h) hB x y ⟨hx, hy, e⟩).2.2
/-! counting -/
def cn (f : Nat → Nat) : Nat → Nat
  | 0 => 0
  | n + 1 => cn f n + f n
theorem cn_le {f : Nat → Nat} : ∀ n, (∀ x, x < n → f x ≤ 1) → cn f n ≤ n
  | 0, _ => Nat.le_refl _
  | n + 1, h => by
    have := cn_le n (fun x hx => h x (by omega))
    have := h n (by omega)
    simp only [cn]
    omega
theorem cn_lt {f : Nat → Nat} : ∀ n x, x < n → f x = 0 → (∀ x, x < n → f x ≤ 1) → cn f n < n
  | 0, x, hx, _, _ => by omega
  | n + 1, x, hx, h0, h => by
    simp only [cn]
    by_cases c : x = n
    · subst c
      have := cn_le (f := f) x (fun y hy => h y (by omega))
      omega
    · have := cn_lt n x (by omega) h0 (fun y hy => h y (by omega))
      have := h n (by omega)
      omega
theorem cn_congr {f g : Nat → Nat} : ∀ n, (∀ x, x < n → f x = g x) → cn f n = cn g n
  | 0, _ => rfl
  | n + 1, h => by
    simp only [cn, cn_congr n (fun x hx => h x (by omega)), h n (by omega)]
theorem cn_up {f g : Nat → Nat} {x : Nat} : ∀ n, x < n → f x = 0 → g x = 1 → (∀ y, y < n → y ≠ x → f y = g y) → cn g n = cn f n + 1
  | 0, hx, _, _, _ => by omega
  | n + 1, hx, h0, h1, h => by
    simp only [cn]
    by_cases c : x = n
    · subst c
      rw [h0, h1, cn_congr x (fun y hy => h y (by omega) (by omega))]
    · rw [cn_up n (by omega) h0 h1 (fun y hy hy2 => h y (by omega) hy2), h n (by omega) (fun q => c q.symm)]
      omega
theorem cn_mono {f g : Nat → Nat} : ∀ n, (∀ x, x < n → f x ≤ g x) → cn f n ≤ cn g n
  | 0, _ => Nat.le_refl _
  | n + 1, h => by
    have h1 := cn_mono n (fun x hx => h x (by omega))
    have h2 := h n (by omega)
    simp only [cn]
    omega
/-- links made, and functions and pairs that still stand for themselves -/
def nr (R : Nat) (ρ : Nat → Nat) : Nat := cn (fun x => if ρ x = x then 0 else 1) R
def tc (A : AA) (R : Nat) (ρ : Nat → Nat) : Nat := cn (fun x => if ρ x = x ∧ 3 ≤ ash A x then 1 else 0) R
def nt (A : AA) (R : Nat) : Nat := cn (fun x => if 3 ≤ ash A x then 1 else 0) R
theorem nr_lt {R : Nat} {ρ : Nat → Nat} (h : RT R ρ) (hR : 0 < R) : nr R ρ < R := by
  refine cn_lt R (ρ 0) (h 0 hR).1 ?_ (fun x _ => by split <;> omega)
  rw [if_pos (h 0 hR).2]
theorem tc_le (A : AA) (R : Nat) (ρ : Nat → Nat) : tc A R ρ ≤ nt A R := by
  refine cn_mono R (fun x _ => ?_)
  by_cases c : 3 ≤ ash A x
  · simp only [c, and_true, if_true]
    split <;> omega
  · simp only [c, and_false, if_false]
    omega
theorem lk_root {ρ : Nat → Nat} {x y z : Nat} (ex : ρ x = x) (ey : ρ y = y) (hne : x ≠ y) (hz : z ≠ x) : (lk ρ x y z = z) ↔ (ρ z = z) := by
  unfold lk
  by_cases c : ρ z = x
  · rw [if_pos c]
    constructor
    · intro q; subst q; rw [ey] at c; exact absurd c.symm hne
    · intro q; rw [q] at c; exact absurd c hz
  · rw [if_neg c]
theorem nr_link {R : Nat} {ρ : Nat → Nat} {x y : Nat} (hx : x < R) (ex : ρ x = x) (ey : ρ y = y) (hne : x ≠ y) : nr R (lk ρ x y) = nr R ρ + 1 := by
  refine cn_up (x := x) R hx ?_ ?_ (fun z hz hzx => ?_)
  · rw [if_pos ex]
  · have : ¬ lk ρ x y x = x := by
      unfold lk
      rw [if_pos ex]
      exact fun q => hne q.symm
    rw [if_neg this]
  · have e := lk_root (ρ := ρ) ex ey hne hzx
    by_cases c : ρ z = z
    · rw [if_pos c, if_pos (e.mpr c)]
    · rw [if_neg c, if_neg (fun q => c (e.mp q))]
theorem tc_link {A : AA} {R : Nat} {ρ : Nat → Nat} {x y : Nat} (hx : x < R) (ex : ρ x = x) (ey : ρ y = y) (hne : x ≠ y) (h3 : 3 ≤ ash A x) : tc A R ρ = tc A R (lk ρ x y) + 1 := by
  refine cn_up (x := x) R hx ?_ ?_ (fun z hz hzx => ?_)
  · have : ¬ lk ρ x y x = x := by
      unfold lk
      rw [if_pos ex]
      exact fun q => hne q.symm
    rw [if_neg (fun q => this q.1)]
  · rw [if_pos ⟨ex, h3⟩]
  · have e := lk_root (ρ := ρ) ex ey hne hzx
    by_cases c : ρ z = z ∧ 3 ≤ ash A z
    · rw [if_pos c, if_pos ⟨e.mpr c.1, c.2⟩]
    · rw [if_neg c, if_neg (fun q => c ⟨e.mp q.1, q.2⟩)]
theorem tc_link0 {A : AA} {R : Nat} {ρ : Nat → Nat} {x y : Nat} (ex : ρ x = x) (ey : ρ y = y) (hne : x ≠ y) : tc A R (lk ρ x y) ≤ tc A R ρ := by
  refine cn_mono R (fun z hz => ?_)
  by_cases hzx : z = x
  · subst hzx
    have : ¬ lk ρ z y z = z := by
      unfold lk
      rw [if_pos ex]
      exact fun q => hne q.symm
    rw [if_neg (fun q => this q.1)]
    omega
  · have e := lk_root (ρ := ρ) ex ey hne hzx
    by_cases c : ρ z = z ∧ 3 ≤ ash A z
    · rw [if_pos c, if_pos ⟨e.mpr c.1, c.2⟩]
      omega
    · rw [if_neg c, if_neg (fun q => c ⟨e.mp q.1, q.2⟩)]
      omega
