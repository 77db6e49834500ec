/-! signed numbers -/
def nZ (z : Int) : Int32 := Int32.ofInt z
theorem nZ_nI (n : Nat) : nI n = nZ n := by show Int32.ofNat n = Int32.ofInt n; rw [Int32.ofInt_eq_ofNat]
theorem nZ_toInt {z : Int} (h1 : -2147483648 ≤ z) (h2 : z < 2147483648) : (nZ z).toInt = z := Int32.toInt_ofInt_of_le h1 h2
theorem nZ_asI (x : Int32) : nZ x.toInt = x := Int32.ofInt_toInt x
theorem nZ_add (a b : Int) : nZ a + nZ b = nZ (a + b) := (Int32.ofInt_add a b).symm
theorem nZ_sub (a b : Int) : nZ a - nZ b = nZ (a - b) := (Int32.ofInt_sub a b).symm
theorem nZ_mul (a b : Int) : nZ a * nZ b = nZ (a * b) := (Int32.ofInt_mul a b).symm
theorem nZ_neg (a : Int) : -nZ a = nZ (-a) := (Int32.ofInt_neg a).symm
theorem nI_subZ (a b : Nat) : nI a - nI b = nZ ((a : Int) - b) := by rw [nZ_nI, nZ_nI, nZ_sub]
theorem zrng (x : Int32) : -2147483648 ≤ x.toInt ∧ x.toInt < 2147483648 := by
  have h1 := Int32.toInt_lt x
  have h2 := Int32.le_toInt x
  omega
theorem nZ_inj {a b : Int} (h1 : -2147483648 ≤ a) (h2 : a < 2147483648) (h3 : -2147483648 ≤ b) (h4 : b < 2147483648) : nZ a = nZ b ↔ a = b := by
  refine ⟨fun h => ?_, fun h => by rw [h]⟩
  rw [← nZ_toInt h1 h2, ← nZ_toInt h3 h4, h]
theorem nZ_div {a b : Int} (h1 : -2147483648 < a) (h2 : a < 2147483648) (h3 : 0 < b) (h4 : b < 2147483648) : nZ a / nZ b = nZ (a.tdiv b) := by
  apply Int32.toInt_inj.mp
  have hb : (a.tdiv b).natAbs ≤ a.natAbs := by rw [Int.natAbs_tdiv]; exact Nat.div_le_self _ _
  rw [Int32.toInt_div, nZ_toInt (by omega) h2, nZ_toInt (by omega) h4, nZ_toInt (by omega) (by omega)]
  exact Int.bmod_eq_of_le (by omega) (by omega)
theorem zneg_msb (x : Int32) : x < 0 ↔ x.toBitVec.msb = true := by
  rw [zlt, zn0]
  show x.toBitVec.toInt < 0 ↔ _
  rw [BitVec.msb_eq_toInt]
  simp
theorem zxor_neg (x y : Int32) : x ^^^ y < 0 ↔ ¬ (x < 0 ↔ y < 0) := by
  rw [zneg_msb, zneg_msb, zneg_msb, Int32.toBitVec_xor, BitVec.msb_xor]
  cases x.toBitVec.msb <;> cases y.toBitVec.msb <;> simp
theorem tdiv_floor {a b : Int} (hb : 0 < b) : a.tdiv b = if a < 0 ∧ a.tdiv b * b ≠ a then a / b + 1 else a / b := by
  have h0 := Int.tdiv_eq_ediv (a := a) (b := b)
  by_cases ha : 0 ≤ a
  · rw [if_neg (by omega)]
    rw [h0, if_pos (Or.inl ha)]; omega
  · by_cases hd : b ∣ a
    · have h1 : a.tdiv b = a / b := by rw [h0, if_pos (Or.inr hd)]; omega
      have h2 : a / b * b = a := Int.ediv_mul_cancel hd
      rw [if_neg (fun q => q.2 (by rw [h1]; exact h2))]
      exact h1
    · have h1 : a.tdiv b = a / b + 1 := by rw [h0, if_neg (by rintro (q | q) <;> contradiction), Int.sign_eq_one_of_pos hb]
      have h2 : a.tdiv b * b ≠ a := fun q => hd ⟨a.tdiv b, by rw [Int.mul_comm]; exact q.symm⟩
      rw [if_pos ⟨by omega, h2⟩]
      exact h1
