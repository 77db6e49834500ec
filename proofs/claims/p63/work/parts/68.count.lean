/-! the count of a long's bits, over its bytes -/
theorem wb_add (a b : Nat) : lN a + lN b = lN (a + b) := by
  apply wb_inj
  rw [Int64.toBitVec_add, wb_tb, wb_tb, wb_tb]
  apply BitVec.eq_of_toNat_eq
  rw [BitVec.toNat_add, BitVec.toNat_ofNat, BitVec.toNat_ofNat, BitVec.toNat_ofNat, ← Nat.add_mod]
theorem wb_sub {a b : Nat} (h : b ≤ a) : lN a - lN b = lN (a - b) := by
  have e := wb_add (a - b) b
  rw [Nat.sub_add_cancel h] at e
  rw [← e]
  apply wb_inj
  rw [Int64.toBitVec_sub, Int64.toBitVec_add]
  exact BitVec.add_sub_cancel _ _
theorem bval_lt : ∀ bs : List Nat, (∀ b ∈ bs, b < 256) → bval bs < 256 ^ bs.length
  | [], _ => by decide
  | b :: bs, h => by
    have i := bval_lt bs (fun x hx => h x (List.mem_cons_of_mem _ hx))
    have hb := h b List.mem_cons_self
    rw [List.length_cons, Nat.pow_succ]
    show b + 256 * bval bs < _
    omega
def bpop (b : Nat) : Nat := bs3 (bs2 (bs1 b))
theorem bt4 : ∀ b, b < 256 → bs1 b < 256 ∧ bs2 (bs1 b) < 256 ∧ bpop b ≤ 8 ∧ bpop b = zcnt (fun i => b.testBit i) 8 := by decide +kernel
theorem sh64_lN {n : Nat} (hn : n < 2 ^ 64) {k : Nat} (hk : k < 64) : sh64 (lN n) (k : Int) = lN (n / 2 ^ k) := by
  unfold sh64
  rw [show iI (k : Int) = nI k from rfl]
  exact wb_shr hn hk
theorem bc123 {bs : List Nat} (hl : bs.length = 8) (hb : ∀ b ∈ bs, b < 256) : bc3 (bc2 (bc1 (lN (bval bs)))) = lN (bval (bs.map bpop)) := by
  have L0 : bval bs < 2 ^ 64 := by have := bval_lt bs hb; rw [hl] at this; exact this
  have h1 : ∀ b ∈ bs.map bs1, b < 256 := by
    intro b hm
    obtain ⟨x, hx, rfl⟩ := List.mem_map.mp hm
    exact (bt4 x (hb x hx)).1
  have L1 : bval (bs.map bs1) < 2 ^ 64 := by have := bval_lt _ h1; rw [List.length_map, hl] at this; exact this
  have h2 : ∀ b ∈ (bs.map bs1).map bs2, b < 256 := by
    intro b hm
    obtain ⟨x, hx, rfl⟩ := List.mem_map.mp hm
    obtain ⟨y, hy, rfl⟩ := List.mem_map.mp hx
    exact (bt4 y (hb y hy)).2.1
  have L2 : bval ((bs.map bs1).map bs2) < 2 ^ 64 := by have := bval_lt _ h2; rw [List.length_map, List.length_map, hl] at this; exact this
  have h3 : ∀ b ∈ (bs.map bs1).map bs2, b % 16 ≤ 4 ∧ b / 16 ≤ 4 := by
    intro b hm
    obtain ⟨x, hx, rfl⟩ := List.mem_map.mp hm
    obtain ⟨y, hy, rfl⟩ := List.mem_map.mp hx
    exact bt3 y (hb y hy)
  have e1 : bc1 (lN (bval bs)) = lN (bval (bs.map bs1)) := by
    obtain ⟨i1, i2⟩ := bS1 bs hb
    unfold bc1
    rw [show (1 : Int) = ((1 : Nat) : Int) from rfl, sh64_lN L0 (by decide), show (6148914691236517205 : Int64) = lN (bmask 85 8) by decide +kernel, wb_and (Nat.lt_of_le_of_lt (Nat.div_le_self _ _) L0) (by decide +kernel), ← hl, show (2 : Nat) ^ 1 = 2 from rfl, wb_sub i2, i1]
  have e2 : bc2 (lN (bval (bs.map bs1))) = lN (bval ((bs.map bs1).map bs2)) := by
    have i1 := bS2 (bs.map bs1) h1
    unfold bc2
    rw [show (2 : Int) = ((2 : Nat) : Int) from rfl, sh64_lN L1 (by decide), show (3689348814741910323 : Int64) = lN (bmask 51 8) by decide +kernel, wb_and (Nat.lt_of_le_of_lt (Nat.div_le_self _ _) L1) (by decide +kernel), wb_and L1 (by decide +kernel), wb_add, show (2 : Nat) ^ 2 = 4 from rfl]
    rw [List.length_map, hl] at i1
    rw [i1]
  have e3 : bc3 (lN (bval ((bs.map bs1).map bs2))) = lN (bval (((bs.map bs1).map bs2).map bs3)) := by
    obtain ⟨i1, _⟩ := bS3 _ h3
    unfold bc3
    rw [show (4 : Int) = ((4 : Nat) : Int) from rfl, sh64_lN L2 (by decide), show (1085102592571150095 : Int64) = lN (bmask 15 8) by decide +kernel, wb_add]
    rw [List.length_map, List.length_map, hl] at i1
    rw [wb_mod (_ + _), wb_and (Nat.mod_lt _ (by decide)) (by decide +kernel), ← i1]
    congr 1
    rw [show bmask 15 8 = bmask 15 8 % 2 ^ 64 by decide +kernel, ← Nat.and_mod_two_pow]
    exact Nat.mod_eq_of_lt (Nat.lt_of_le_of_lt Nat.and_le_right (by decide +kernel))
  rw [e1, e2, e3, List.map_map, List.map_map]
  rfl
theorem bc456 {a b c d e f g i : Nat} (h : a ≤ 8 ∧ b ≤ 8 ∧ c ≤ 8 ∧ d ≤ 8 ∧ e ≤ 8 ∧ f ≤ 8 ∧ g ≤ 8 ∧ i ≤ 8) : (bc6 (bc5 (bc4 (lN (bval [a, b, c, d, e, f, g, i]))))).toInt32 &&& iI 127 = nI (a + b + c + d + e + f + g + i) := by
  obtain ⟨ha, hb, hc, hd, he, hf, hg, hi⟩ := h
  have e0 : bval [a, b, c, d, e, f, g, i] = a + 256 * (b + 256 * (c + 256 * (d + 256 * (e + 256 * (f + 256 * (g + 256 * i)))))) := by simp [bval]
  rw [e0]
  have f4 : bc4 (lN (a + 256 * (b + 256 * (c + 256 * (d + 256 * (e + 256 * (f + 256 * (g + 256 * i)))))))) = lN ((a + b) + 256 * ((b + c) + 256 * ((c + d) + 256 * ((d + e) + 256 * ((e + f) + 256 * ((f + g) + 256 * ((g + i) + 256 * i))))))) := by
    unfold bc4
    rw [show (8 : Int) = ((8 : Nat) : Int) from rfl, sh64_lN (by omega) (by decide), wb_add]
    congr 1
    omega
  have f5 : bc5 (lN ((a + b) + 256 * ((b + c) + 256 * ((c + d) + 256 * ((d + e) + 256 * ((e + f) + 256 * ((f + g) + 256 * ((g + i) + 256 * i)))))))) = lN ((a + b + c + d) + 256 * ((b + c + d + e) + 256 * ((c + d + e + f) + 256 * ((d + e + f + g) + 256 * ((e + f + g + i) + 256 * ((f + g + i) + 256 * ((g + i) + 256 * i))))))) := by
    unfold bc5
    rw [show (16 : Int) = ((16 : Nat) : Int) from rfl, sh64_lN (by omega) (by decide), wb_add]
    congr 1
    omega
  have f6 : bc6 (lN ((a + b + c + d) + 256 * ((b + c + d + e) + 256 * ((c + d + e + f) + 256 * ((d + e + f + g) + 256 * ((e + f + g + i) + 256 * ((f + g + i) + 256 * ((g + i) + 256 * i)))))))) = lN ((a + b + c + d + e + f + g + i) + 256 * ((b + c + d + e + f + g + i) + 256 * ((c + d + e + f + g + i) + 256 * ((d + e + f + g + i) + 256 * ((e + f + g + i) + 256 * ((f + g + i) + 256 * ((g + i) + 256 * i))))))) := by
    unfold bc6
    rw [show (32 : Int) = ((32 : Nat) : Int) from rfl, sh64_lN (by omega) (by decide), wb_add]
    congr 1
    omega
  rw [f4, f5, f6]
  generalize hR : (b + c + d + e + f + g + i) + 256 * ((c + d + e + f + g + i) + 256 * ((d + e + f + g + i) + 256 * ((e + f + g + i) + 256 * ((f + g + i) + 256 * ((g + i) + 256 * i))))) = R
  have hs : a + b + c + d + e + f + g + i < 128 := by omega
  generalize a + b + c + d + e + f + g + i = s at hs ⊢
  clear f4 f5 f6 e0 hR
  apply Int32.toBitVec_inj.mp
  apply BitVec.eq_of_toNat_eq
  rw [Int32.toBitVec_and, BitVec.toNat_and]
  have g1 : ((lN (s + 256 * R)).toInt32).toBitVec.toNat = (s + 256 * R) % 2 ^ 32 := by
    rw [Int64.toBitVec_toInt32, wb_tb, BitVec.signExtend_eq_setWidth_of_le _ (by decide), BitVec.toNat_setWidth, BitVec.toNat_ofNat]
    omega
  rw [g1, show (iI 127).toBitVec.toNat = 2 ^ 7 - 1 by decide, Nat.and_two_pow_sub_one_eq_mod]
  show _ = (BitVec.ofNat 32 _).toNat
  rw [BitVec.toNat_ofNat]
  omega
def mv (p : Nat → Bool) : Nat → Nat
  | 0 => 0
  | n + 1 => mv p n + (if p n then 2 ^ n else 0)
theorem mv_lt (p : Nat → Bool) : ∀ n, mv p n < 2 ^ n
  | 0 => Nat.zero_lt_one
  | n + 1 => by
    have := mv_lt p n
    show mv p n + _ < _
    rw [Nat.pow_succ]
    split <;> omega
theorem mv_add (p : Nat → Bool) (n : Nat) : ∀ m, mv p (n + m) = mv p n + 2 ^ n * mv (fun j => p (n + j)) m
  | 0 => by simp [mv]
  | m + 1 => by
    show mv p (n + m) + (if p (n + m) then 2 ^ (n + m) else 0) = mv p n + 2 ^ n * (mv (fun j => p (n + j)) m + (if p (n + m) then 2 ^ m else 0))
    rw [mv_add p n m, Nat.mul_add, Nat.pow_add]
    split <;> omega
theorem mv_bit (p : Nat → Bool) : ∀ n i, (mv p n).testBit i = (decide (i < n) && p i)
  | 0, i => by simp [mv]
  | n + 1, i => by
    have hl := mv_lt p n
    show (mv p n + (if p n then 2 ^ n else 0)).testBit i = _
    by_cases h : p n = true
    · rw [if_pos h, Nat.add_comm, ← Nat.mul_one (2 ^ n), Nat.testBit_two_pow_mul_add 1 hl]
      by_cases e : i < n
      · rw [if_pos e, mv_bit p n i, decide_eq_decide.mpr (show i < n ↔ i < n + 1 by omega)]
      · rw [if_neg e]
        by_cases e2 : i = n
        · subst e2; simp [h]
        · obtain ⟨d, hd⟩ : ∃ d, i - n = d + 1 := ⟨i - n - 1, by omega⟩
          rw [hd, Nat.testBit_succ, decide_eq_false (show ¬ i < n + 1 by omega)]
          simp
    · rw [if_neg h, Nat.add_zero, mv_bit p n i]
      by_cases e : i = n
      · subst e; simp [h]
      · rw [decide_eq_decide.mpr (show i < n ↔ i < n + 1 by omega)]
theorem zcnt_eqn {p q : Nat → Bool} : ∀ n, (∀ x, x < n → p x = q x) → zcnt p n = zcnt q n
  | 0, _ => rfl
  | n + 1, h => by
    show zcnt p n + _ = zcnt q n + _
    rw [zcnt_eqn n (fun x hx => h x (by omega)), h n (by omega)]
theorem zcnt_app (p : Nat → Bool) (n : Nat) : ∀ m, zcnt p (n + m) = zcnt p n + zcnt (fun j => p (n + j)) m
  | 0 => rfl
  | m + 1 => by
    show zcnt p (n + m) + _ = zcnt p n + (zcnt (fun j => p (n + j)) m + _)
    rw [zcnt_app p n m, Nat.add_assoc]
    rfl
theorem bpop_mv (q : Nat → Bool) : bpop (mv q 8) = zcnt q 8 := by
  rw [(bt4 _ (mv_lt q 8)).2.2.2]
  exact zcnt_eqn 8 (fun x hx => by rw [mv_bit, decide_eq_true hx, Bool.true_and])
theorem mv_bytes (p : Nat → Bool) : mv p 64 = bval [mv p 8, mv (fun j => p (8 + j)) 8, mv (fun j => p (16 + j)) 8, mv (fun j => p (24 + j)) 8, mv (fun j => p (32 + j)) 8, mv (fun j => p (40 + j)) 8, mv (fun j => p (48 + j)) 8, mv (fun j => p (56 + j)) 8] := by
  rw [mv_add p 56 8, mv_add p 48 8, mv_add p 40 8, mv_add p 32 8, mv_add p 24 8, mv_add p 16 8, mv_add p 8 8]
  simp only [bval]
  omega
theorem zcnt_bytes (p : Nat → Bool) : zcnt p 64 = zcnt p 8 + zcnt (fun j => p (8 + j)) 8 + zcnt (fun j => p (16 + j)) 8 + zcnt (fun j => p (24 + j)) 8 + zcnt (fun j => p (32 + j)) 8 + zcnt (fun j => p (40 + j)) 8 + zcnt (fun j => p (48 + j)) 8 + zcnt (fun j => p (56 + j)) 8 := by
  rw [zcnt_app p 56 8, zcnt_app p 48 8, zcnt_app p 40 8, zcnt_app p 32 8, zcnt_app p 24 8, zcnt_app p 16 8, zcnt_app p 8 8]
theorem bc64_mv (p : Nat → Bool) : bc64 (lN (mv p 64)) = nI (zcnt p 64) := by
  unfold bc64
  rw [mv_bytes, bc123 rfl (by
    intro b hb
    simp only [List.mem_cons, List.not_mem_nil, or_false] at hb
    rcases hb with rfl | rfl | rfl | rfl | rfl | rfl | rfl | rfl <;> exact mv_lt _ 8), zcnt_bytes]
  simp only [List.map, bpop_mv]
  exact bc456 ⟨zcnt_le _ 8, zcnt_le _ 8, zcnt_le _ 8, zcnt_le _ 8, zcnt_le _ 8, zcnt_le _ 8, zcnt_le _ 8, zcnt_le _ 8⟩
theorem mbit_lN : ∀ i, i < 64 → mbit i = lN (2 ^ i) := by decide +kernel
theorem mv_inj {p q : Nat → Bool} {n : Nat} (h : mv p n = mv q n) {i : Nat} (hi : i < n) : p i = q i := by
  have e := mv_bit p n i
  rw [h, mv_bit, decide_eq_true hi, Bool.true_and, Bool.true_and] at e
  exact e.symm
theorem mv_or (p q : Nat → Bool) (n : Nat) : mv p n ||| mv q n = mv (fun i => p i || q i) n := by
  apply Nat.eq_of_testBit_eq
  intro i
  rw [Nat.testBit_or, mv_bit, mv_bit, mv_bit]
  cases decide (i < n) <;> simp
theorem mv_orL (p q : Nat → Bool) : lN (mv p 64) ||| lN (mv q 64) = lN (mv (fun i => p i || q i) 64) := by
  rw [wb_or (mv_lt p 64) (mv_lt q 64), mv_or]
theorem mk_mv (p : Nat → Bool) : ∀ n, n ≤ 64 → mk p n = lN (mv p n)
  | 0, _ => rfl
  | n + 1, h => by
    have i := mk_mv p n (by omega)
    unfold mk mv
    by_cases e : p n = true
    · rw [if_pos e, if_pos e, i, mbit_lN n (by omega), wb_or (Nat.lt_of_lt_of_le (mv_lt p n) (Nat.pow_le_pow_right (by decide) (by omega))) (wb_lt2 (by omega))]
      congr 1
      apply Nat.eq_of_testBit_eq
      intro j
      have := mv_bit p (n + 1) j
      rw [show mv p (n + 1) = mv p n + 2 ^ n by simp [mv, e]] at this
      rw [this, Nat.testBit_or, mv_bit, Nat.testBit_two_pow]
      by_cases q : n = j
      · subst q; simp [e]
      · rw [decide_eq_false q, Bool.or_false, decide_eq_decide.mpr (show j < n ↔ j < n + 1 by omega)]
    · rw [if_neg e, if_neg e, i]; rfl
