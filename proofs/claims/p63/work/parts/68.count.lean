/-! the count of a long's bits, over its bytes -/
theorem wb_add (a b : Nat) : lN a + lN b = lN (a + b) := by
  apply wb_inj
  rw [Int64.toBitVec_add, wb_tb, wb_tb, wb_tb]
  apply BitVec.eq_of_toNat_eq
  rw [BitVec.toNat_add, BitVec.toNat_ofNat, BitVec.toNat_ofNat, BitVec.toNat_ofNat, ← Nat.add_mod]
theorem wb_sub {a b : Nat} (h : b ≤ a) : lN a - lN b = lN (a - b) := by
  have e := wb_add (a - b) b
  rw [Nat.sub_add_cancel h] at e
  rw [← e]
  apply wb_inj
  rw [Int64.toBitVec_sub, Int64.toBitVec_add]
  exact BitVec.add_sub_cancel _ _
theorem bval_lt : ∀ bs : List Nat, (∀ b ∈ bs, b < 256) → bval bs < 256 ^ bs.length
  | [], _ => by decide
  | b :: bs, h => by
    have i := bval_lt bs (fun x hx => h x (List.mem_cons_of_mem _ hx))
    have hb := h b List.mem_cons_self
    rw [List.length_cons, Nat.pow_succ]
    show b + 256 * bval bs < _
    omega
def bpop (b : Nat) : Nat := bs3 (bs2 (bs1 b))
theorem bt4 : ∀ b, b < 256 → bs1 b < 256 ∧ bs2 (bs1 b) < 256 ∧ bpop b ≤ 8 ∧ bpop b = zcnt (fun i => b.testBit i) 8 := by decide +kernel
