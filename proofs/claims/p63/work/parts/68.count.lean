/-! the count of a long's bits, over its bytes -/
theorem wb_add (a b : Nat) : lN a + lN b = lN (a + b) := by
  apply wb_inj
  rw [Int64.toBitVec_add, wb_tb, wb_tb, wb_tb]
  apply BitVec.eq_of_toNat_eq
  rw [BitVec.toNat_add, BitVec.toNat_ofNat, BitVec.toNat_ofNat, BitVec.toNat_ofNat, ← Nat.add_mod]
theorem wb_sub {a b : Nat} (h : b ≤ a) : lN a - lN b = lN (a - b) := by
  have e := wb_add (a - b) b
  rw [Nat.sub_add_cancel h] at e
  rw [← e]
  apply wb_inj
  rw [Int64.toBitVec_sub, Int64.toBitVec_add]
  exact BitVec.add_sub_cancel _ _
theorem bval_lt : ∀ bs : List Nat, (∀ b ∈ bs, b < 256) → bval bs < 256 ^ bs.length
  | [], _ => by decide
  | b :: bs, h => by
    have i := bval_lt bs (fun x hx => h x (List.mem_cons_of_mem _ hx))
    have hb := h b List.mem_cons_self
    rw [List.length_cons, Nat.pow_succ]
    show b + 256 * bval bs < _
    omega
def bpop (b : Nat) : Nat := bs3 (bs2 (bs1 b))
theorem bt4 : ∀ b, b < 256 → bs1 b < 256 ∧ bs2 (bs1 b) < 256 ∧ bpop b ≤ 8 ∧ bpop b = zcnt (fun i => b.testBit i) 8 := by decide +kernel
theorem sh64_lN {n : Nat} (hn : n < 2 ^ 64) {k : Nat} (hk : k < 64) : sh64 (lN n) (k : Int) = lN (n / 2 ^ k) := by
  unfold sh64
  rw [show iI (k : Int) = nI k from rfl]
  exact wb_shr hn hk
theorem bc123 {bs : List Nat} (hl : bs.length = 8) (hb : ∀ b ∈ bs, b < 256) : bc3 (bc2 (bc1 (lN (bval bs)))) = lN (bval (bs.map bpop)) := by
  have L0 : bval bs < 2 ^ 64 := by have := bval_lt bs hb; rw [hl] at this; exact this
  have h1 : ∀ b ∈ bs.map bs1, b < 256 := by
    intro b hm
    obtain ⟨x, hx, rfl⟩ := List.mem_map.mp hm
    exact (bt4 x (hb x hx)).1
  have L1 : bval (bs.map bs1) < 2 ^ 64 := by have := bval_lt _ h1; rw [List.length_map, hl] at this; exact this
  have h2 : ∀ b ∈ (bs.map bs1).map bs2, b < 256 := by
    intro b hm
    obtain ⟨x, hx, rfl⟩ := List.mem_map.mp hm
    obtain ⟨y, hy, rfl⟩ := List.mem_map.mp hx
    exact (bt4 y (hb y hy)).2.1
  have L2 : bval ((bs.map bs1).map bs2) < 2 ^ 64 := by have := bval_lt _ h2; rw [List.length_map, List.length_map, hl] at this; exact this
  have h3 : ∀ b ∈ (bs.map bs1).map bs2, b % 16 ≤ 4 ∧ b / 16 ≤ 4 := by
    intro b hm
    obtain ⟨x, hx, rfl⟩ := List.mem_map.mp hm
    obtain ⟨y, hy, rfl⟩ := List.mem_map.mp hx
    exact bt3 y (hb y hy)
  have e1 : bc1 (lN (bval bs)) = lN (bval (bs.map bs1)) := by
    obtain ⟨i1, i2⟩ := bS1 bs hb
    unfold bc1
    rw [show (1 : Int) = ((1 : Nat) : Int) from rfl, sh64_lN L0 (by decide), show (6148914691236517205 : Int64) = lN (bmask 85 8) by decide +kernel, wb_and (Nat.lt_of_le_of_lt (Nat.div_le_self _ _) L0) (by decide +kernel), ← hl, show (2 : Nat) ^ 1 = 2 from rfl, wb_sub i2, i1]
  have e2 : bc2 (lN (bval (bs.map bs1))) = lN (bval ((bs.map bs1).map bs2)) := by
    have i1 := bS2 (bs.map bs1) h1
    unfold bc2
    rw [show (2 : Int) = ((2 : Nat) : Int) from rfl, sh64_lN L1 (by decide), show (3689348814741910323 : Int64) = lN (bmask 51 8) by decide +kernel, wb_and (Nat.lt_of_le_of_lt (Nat.div_le_self _ _) L1) (by decide +kernel), wb_and L1 (by decide +kernel), wb_add, show (2 : Nat) ^ 2 = 4 from rfl]
    rw [List.length_map, hl] at i1
    rw [i1]
  have e3 : bc3 (lN (bval ((bs.map bs1).map bs2))) = lN (bval (((bs.map bs1).map bs2).map bs3)) := by
    obtain ⟨i1, _⟩ := bS3 _ h3
    unfold bc3
    rw [show (4 : Int) = ((4 : Nat) : Int) from rfl, sh64_lN L2 (by decide), show (1085102592571150095 : Int64) = lN (bmask 15 8) by decide +kernel, wb_add]
    rw [List.length_map, List.length_map, hl] at i1
    rw [wb_mod (_ + _), wb_and (Nat.mod_lt _ (by decide)) (by decide +kernel), ← i1]
    congr 1
    rw [show bmask 15 8 = bmask 15 8 % 2 ^ 64 by decide +kernel, ← Nat.and_mod_two_pow]
    exact Nat.mod_eq_of_lt (Nat.lt_of_le_of_lt Nat.and_le_right (by decide +kernel))
  rw [e1, e2, e3, List.map_map, List.map_map]
  rfl
