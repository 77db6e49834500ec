/-! bits of longs (pasted from kit/laws/BITS), and the count of a set of cells -/
theorem wb_tb (n : Nat) : (lN n).toBitVec = BitVec.ofNat 64 n := rfl
theorem wb_inj {a b : Int64} (h : a.toBitVec = b.toBitVec) : a = b := Int64.toBitVec_inj.mp h
theorem wb_tn {n : Nat} (h : n < 2 ^ 64) : (lN n).toBitVec.toNat = n := by rw [wb_tb, BitVec.toNat_ofNat, Nat.mod_eq_of_lt h]
theorem wb_of (x : Int64) : ∃ n, n < 2 ^ 64 ∧ x = lN n := ⟨x.toBitVec.toNat, x.toBitVec.isLt, wb_inj (by rw [wb_tb]; simp)⟩
theorem wb_of32 (x : Int32) : ∃ n, n < 2 ^ 32 ∧ x = nI n := ⟨x.toBitVec.toNat, x.toBitVec.isLt, Int32.toBitVec_inj.mp (by show _ = BitVec.ofNat 32 _; simp)⟩
theorem wb_c : ∀ k, k < 64 → ((nI k).toInt64 &&& 63) = lN k := by decide +kernel
theorem wb_cu : ∀ k, k < 64 → ((nI k).toInt64.toUInt64 &&& Int64.toUInt64 63) = UInt64.ofNat k := by decide +kernel
theorem wb_sm : ∀ k, k < 64 → (BitVec.ofNat 64 k).smod 64 = BitVec.ofNat 64 k := by decide +kernel
theorem wb_pw {a b : Nat} (h : a ≤ b) : 2 ^ b = 2 ^ a * 2 ^ (b - a) := by rw [← Nat.pow_add]; congr 1; omega
theorem wb_lt2 {a b : Nat} (h : a < b) : 2 ^ a < 2 ^ b := Nat.pow_lt_pow_right (by decide) h
theorem wb_mod (n : Nat) : lN n = lN (n % 2 ^ 64) := wb_inj (by rw [wb_tb, wb_tb]; apply BitVec.eq_of_toNat_eq; rw [BitVec.toNat_ofNat, BitVec.toNat_ofNat, Nat.mod_mod])
theorem wb_shr {n k : Nat} (hn : n < 2 ^ 64) (hk : k < 64) : ((lN n).toUInt64 >>> ((nI k).toInt64.toUInt64 &&& Int64.toUInt64 63)).toInt64 = lN (n / 2 ^ k) := by
  rw [wb_cu k hk]
  apply wb_inj
  apply BitVec.eq_of_toNat_eq
  show ((lN n).toUInt64 >>> UInt64.ofNat k).toNat = (BitVec.ofNat 64 _).toNat
  have h1 : (UInt64.ofNat k).toNat = k := by
    show (BitVec.ofNat 64 k).toNat = k
    rw [BitVec.toNat_ofNat, Nat.mod_eq_of_lt (by omega)]
  have h2 : (lN n).toUInt64.toNat = n := wb_tn hn
  rw [UInt64.toNat_shiftRight, h1, h2, Nat.mod_eq_of_lt hk, Nat.shiftRight_eq_div_pow, BitVec.toNat_ofNat, Nat.mod_eq_of_lt (Nat.lt_of_le_of_lt (Nat.div_le_self _ _) hn)]
theorem wb_shl (n : Nat) {k : Nat} (hk : k < 64) : lN n <<< ((nI k).toInt64 &&& 63) = lN (n * 2 ^ k) := by
  rw [wb_c k hk]
  apply wb_inj
  rw [Int64.toBitVec_shiftLeft, wb_tb, wb_tb, wb_tb, wb_sm k hk]
  apply BitVec.eq_of_toNat_eq
  rw [BitVec.shiftLeft_eq', BitVec.toNat_shiftLeft, BitVec.toNat_ofNat, BitVec.toNat_ofNat, BitVec.toNat_ofNat, Nat.mod_eq_of_lt (show k < 2 ^ 64 by omega), Nat.shiftLeft_eq, Nat.mul_mod, Nat.mod_mod, ← Nat.mul_mod]
theorem wb_and {a b : Nat} (ha : a < 2 ^ 64) (hb : b < 2 ^ 64) : lN a &&& lN b = lN (a &&& b) := by
  apply wb_inj
  rw [Int64.toBitVec_and, wb_tb, wb_tb, wb_tb]
  apply BitVec.eq_of_toNat_eq
  rw [BitVec.toNat_and, BitVec.toNat_ofNat, BitVec.toNat_ofNat, BitVec.toNat_ofNat, Nat.mod_eq_of_lt ha, Nat.mod_eq_of_lt hb, Nat.mod_eq_of_lt (Nat.and_lt_two_pow _ hb)]
theorem wb_or {a b : Nat} (ha : a < 2 ^ 64) (hb : b < 2 ^ 64) : lN a ||| lN b = lN (a ||| b) := by
  apply wb_inj
  rw [Int64.toBitVec_or, wb_tb, wb_tb, wb_tb]
  apply BitVec.eq_of_toNat_eq
  rw [BitVec.toNat_or, BitVec.toNat_ofNat, BitVec.toNat_ofNat, BitVec.toNat_ofNat, Nat.mod_eq_of_lt ha, Nat.mod_eq_of_lt hb, Nat.mod_eq_of_lt (Nat.or_lt_two_pow ha hb)]
def bval : List Nat → Nat
  | [] => 0
  | b :: bs => b + 256 * bval bs
def bmask (u : Nat) : Nat → Nat
  | 0 => 0
  | n + 1 => u + 256 * bmask u n
theorem land_split {a c u v : Nat} (ha : a < 256) (hu : u < 256) : (a + 256 * c) &&& (u + 256 * v) = (a &&& u) + 256 * (c &&& v) := by
  have h1 : ((a + 256 * c) &&& (u + 256 * v)) % 2 ^ 8 = ((a + 256 * c) % 2 ^ 8) &&& ((u + 256 * v) % 2 ^ 8) := Nat.and_mod_two_pow
  have h2 : ((a + 256 * c) &&& (u + 256 * v)) / 2 ^ 8 = ((a + 256 * c) / 2 ^ 8) &&& ((u + 256 * v) / 2 ^ 8) := Nat.and_div_two_pow
  rw [show (a + 256 * c) % 2 ^ 8 = a by omega, show (u + 256 * v) % 2 ^ 8 = u by omega] at h1
  rw [show (a + 256 * c) / 2 ^ 8 = c by omega, show (u + 256 * v) / 2 ^ 8 = v by omega] at h2
  omega
def bs1 (b : Nat) : Nat := b - ((b / 2) &&& 85)
def bs2 (b : Nat) : Nat := (b &&& 51) + ((b / 4) &&& 51)
def bs3 (b : Nat) : Nat := (b + b / 16) % 16
theorem bt1 : ∀ b, b < 256 → ∀ e, e < 2 → ((b / 2 + 128 * e) &&& 85) = ((b / 2) &&& 85) ∧ ((b / 2) &&& 85) ≤ b := by decide +kernel
theorem bt2 : ∀ b, b < 256 → ∀ e, e < 4 → ((b / 4 + 64 * e) &&& 51) = ((b / 4) &&& 51) ∧ bs2 b < 256 := by decide +kernel
theorem bt3 : ∀ b, b < 256 → bs2 (bs1 b) % 16 ≤ 4 ∧ bs2 (bs1 b) / 16 ≤ 4 := by decide +kernel
theorem bS1 : ∀ (bs : List Nat), (∀ b ∈ bs, b < 256) → bval bs - ((bval bs / 2) &&& bmask 85 bs.length) = bval (bs.map bs1) ∧ ((bval bs / 2) &&& bmask 85 bs.length) ≤ bval bs
  | [], _ => by simp [bval, bmask]
  | b :: bs, h => by
    have hb := h b List.mem_cons_self
    obtain ⟨i1, i2⟩ := bS1 bs (fun x hx => h x (List.mem_cons_of_mem _ hx))
    obtain ⟨t1, t2⟩ := bt1 b hb (bval bs % 2) (Nat.mod_lt _ (by decide))
    have e : bval (b :: bs) / 2 = (b / 2 + 128 * (bval bs % 2)) + 256 * (bval bs / 2) := by show (b + 256 * bval bs) / 2 = _; omega
    have e2 : (bval (b :: bs) / 2) &&& bmask 85 (b :: bs).length = ((b / 2) &&& 85) + 256 * ((bval bs / 2) &&& bmask 85 bs.length) := by
      rw [e]
      show _ &&& (85 + 256 * bmask 85 bs.length) = _
      rw [land_split (by omega) (by decide), t1]
    rw [e2]
    show b + 256 * bval bs - _ = bs1 b + 256 * bval (bs.map bs1) ∧ _ ≤ b + 256 * bval bs
    rw [← i1]
    unfold bs1
    omega
theorem bS2 : ∀ (bs : List Nat), (∀ b ∈ bs, b < 256) → (bval bs &&& bmask 51 bs.length) + ((bval bs / 4) &&& bmask 51 bs.length) = bval (bs.map bs2)
  | [], _ => by simp [bval, bmask]
  | b :: bs, h => by
    have hb := h b List.mem_cons_self
    have i1 := bS2 bs (fun x hx => h x (List.mem_cons_of_mem _ hx))
    obtain ⟨t1, t2⟩ := bt2 b hb (bval bs % 4) (Nat.mod_lt _ (by decide))
    have e : bval (b :: bs) / 4 = (b / 4 + 64 * (bval bs % 4)) + 256 * (bval bs / 4) := by show (b + 256 * bval bs) / 4 = _; omega
    have e2 : (bval (b :: bs) / 4) &&& bmask 51 (b :: bs).length = ((b / 4) &&& 51) + 256 * ((bval bs / 4) &&& bmask 51 bs.length) := by
      rw [e]
      show _ &&& (51 + 256 * bmask 51 bs.length) = _
      rw [land_split (by omega) (by decide), t1]
    have e3 : bval (b :: bs) &&& bmask 51 (b :: bs).length = (b &&& 51) + 256 * (bval bs &&& bmask 51 bs.length) := land_split hb (by decide)
    rw [e2, e3]
    show _ = bs2 b + 256 * bval (bs.map bs2)
    rw [← i1]
    unfold bs2
    omega
theorem bS3 : ∀ (bs : List Nat), (∀ b ∈ bs, b % 16 ≤ 4 ∧ b / 16 ≤ 4) → (bval bs + bval bs / 16) &&& bmask 15 bs.length = bval (bs.map bs3) ∧ bval bs % 16 ≤ 4
  | [], _ => by simp [bval, bmask]
  | b :: bs, h => by
    have hb := h b List.mem_cons_self
    obtain ⟨i1, i2⟩ := bS3 bs (fun x hx => h x (List.mem_cons_of_mem _ hx))
    have e : bval (b :: bs) + bval (b :: bs) / 16 = (b + b / 16 + 16 * (bval bs % 16)) + 256 * (bval bs + bval bs / 16) := by show (b + 256 * bval bs) + (b + 256 * bval bs) / 16 = _; omega
    refine ⟨?_, by show (b + 256 * bval bs) % 16 ≤ 4; omega⟩
    rw [e]
    show _ &&& (15 + 256 * bmask 15 bs.length) = bs3 b + 256 * bval (bs.map bs3)
    rw [land_split (by omega) (by decide), i1, show (15 : Nat) = 2 ^ 4 - 1 from rfl, Nat.and_two_pow_sub_one_eq_mod]
    unfold bs3
    omega
