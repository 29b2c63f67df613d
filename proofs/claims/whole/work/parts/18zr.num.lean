/-! letters and numbers -/
theorem z_div {a b : Nat} (ha : a < 2 ^ 30) (hb : 0 < b) (hb2 : b < 2 ^ 30) : nI a / nI b = nI (a / b) := by
  apply Int32.toInt_inj.mp
  rw [Int32.toInt_div_of_ne_right _ _ (by
    intro h
    have h2 := congrArg Int32.toInt h
    rw [nI_toInt (by omega)] at h2
    have h3 := nM_toInt
    change (b : Int) = nM.toInt at h2
    omega), nI_toInt (by omega), nI_toInt (by omega), nI_toInt (by have := Nat.div_le_self a b; omega)]
  rfl
theorem z_mul {a b : Nat} (h : a * b < 2 ^ 30) : nI a * nI b = nI (a * b) := by
  simp only [nI]
  exact (Int32.ofNat_mul a b).symm
theorem z_mod {a b : Nat} (ha : a < 2 ^ 30) (hb : 0 < b) (hb2 : b < 2 ^ 30) : nI a - nI a / nI b * nI b = nI (a % b) := by
  have h1 := Nat.div_add_mod a b
  have h2 : a / b * b ≤ a := Nat.div_mul_le_self a b
  rw [z_div ha hb hb2, z_mul (by omega), z_sub h2 ha]
  congr 1
  rw [Nat.mul_comm] at h1
  omega
