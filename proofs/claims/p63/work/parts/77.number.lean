/-! numbers are appended; a ship is written -/
theorem iI_ndiv {n : Nat} (hn : n < 2147483648) : iI (-(n : Int)) / iI 100 = iI (-((n / 100 : Nat) : Int)) := by
  have h1 : (-(n : Int)).tdiv 100 = -((n / 100 : Nat) : Int) := by
    rw [Int.neg_tdiv]
    rfl
  rw [← h1]
  exact (Int32.ofInt_tdiv (by rw [show Int32.minValue.toInt = -2147483648 from rfl]; omega) (by rw [show Int32.maxValue.toInt = 2147483647 from rfl]; omega) (by rw [show Int32.minValue.toInt = -2147483648 from rfl]; omega) (by rw [show Int32.maxValue.toInt = 2147483647 from rfl]; omega)).symm
theorem p10_two : ∀ {n c : Nat}, n < 10 ^ c → 100 ≤ n → ∃ d, c = d + 2 ∧ 1 ≤ d ∧ n / 100 < 10 ^ d
  | n, 0, h, h2 => by have : n < 1 := h; omega
  | n, 1, h, h2 => by have : n < 10 := h; omega
  | n, 2, h, h2 => by have : n < 100 := h; omega
  | n, d + 3, h, h2 => ⟨d + 1, rfl, by omega, Nat.div_lt_of_lt_mul (by
      have e : 10 ^ (d + 3) = 100 * 10 ^ (d + 1) := by rw [show d + 3 = (d + 1) + 2 by omega, Nat.pow_add, Nat.mul_comm]
      rw [← e]; exact h)⟩
theorem p10_one {n c : Nat} (h : n < 10 ^ c) (h2 : 10 ≤ n) : 2 ≤ c := by
  rcases c with _ | _ | c
  · have : n < 1 := h; omega
  · have : n < 10 := h; omega
  · omega
section
variable {a cnt bv mb m : Nat} {f : Nat → Int32} {h : zH}
theorem m_strSize {n : Nat} (hn7 : n < 10000000) : zMet yJ6_stringSize_0f7a4 cJ6_stringSize_0f7a4 4 (some .int) 1 0 0 [.int (iI (n : Int))] h (fun v h' => ∃ s : Nat, 1 ≤ s ∧ s ≤ 7 ∧ n < 10 ^ s ∧ (n < 10 → s = 1) ∧ v = some (.int (iI (s : Int))) ∧ h' = h) (fun _ _ => False) := by
  refine zMet.go (by decide +kernel) (Nat.le_of_ble_eq_true rfl) ?_
  intro X F B hnl hR hn
  suffices KK : ∀ k i P : Nat, k + i = 7 → 1 ≤ i → P = 10 ^ i → (i = 1 ∨ 10 ≤ n) → Z X 0 0 16 [(3, .int (iI (i : Int))), (2, .int (iI (-(P : Int)))), (0, .int (iI (-(n : Int)))), (1, .int (iI 0))] [] h by
    refine zi_iconst F dJ6_stringSize_0f7a4_0 ?_
    refine z_istore_n F dJ6_stringSize_0f7a4_1 rfl rfl (hnl _ rfl) ?_
    refine z_iload_n F dJ6_stringSize_0f7a4_2 rfl rfl ?_
    refine zi_if_lt (tgt := 11) F dJ6_stringSize_0f7a4_3 (by decide) (by first | omega | (dsimp only at *; omega)) (fun c3 => False.elim (by first | omega | (dsimp only at *; omega))) (fun c3 => ?_)
    refine zi_iconst F dJ6_stringSize_0f7a4_6 ?_
    refine z_istore_n F dJ6_stringSize_0f7a4_7 rfl rfl (hnl _ rfl) ?_
    refine z_iload_n F dJ6_stringSize_0f7a4_8 rfl rfl ?_
    refine zi_ineg F dJ6_stringSize_0f7a4_9 ?_
    refine z_istore_n F dJ6_stringSize_0f7a4_10 rfl rfl (hnl _ rfl) ?_
    refine zi_bipush F dJ6_stringSize_0f7a4_11 (by decide) ?_
    refine z_istore_n F dJ6_stringSize_0f7a4_13 rfl rfl (hnl _ rfl) ?_
    refine zi_iconst F dJ6_stringSize_0f7a4_14 ?_
    refine z_istore_n F dJ6_stringSize_0f7a4_15 rfl rfl (hnl _ rfl) ?_
    exact Z.keys [3, 2, 0, 1] rfl (KK 6 1 10 rfl (Nat.le_refl _) rfl (Or.inl rfl))
  intro k
  induction k with
  | zero =>
    intro i P hi h1 hP ho
    have hi7 : i = 7 := by omega
    subst hi7
    have hP : P = 10000000 := hP
    refine z_iload_n F dJ6_stringSize_0f7a4_16 rfl rfl ?_
    refine zi_bipush F dJ6_stringSize_0f7a4_17 (by decide) ?_
    refine zi_icmp_ge (tgt := 42) F dJ6_stringSize_0f7a4_19 (by decide) (by first | omega | (dsimp only at *; omega)) (fun c19 => False.elim (by first | omega | (dsimp only at *; omega))) (fun c19 => ?_)
    refine z_iload_n F dJ6_stringSize_0f7a4_22 rfl rfl ?_
    refine z_iload_n F dJ6_stringSize_0f7a4_23 rfl rfl ?_
    refine zi_icmp_le (tgt := 31) F dJ6_stringSize_0f7a4_24 (by decide) (by first | omega | (dsimp only at *; omega)) (fun c24 => False.elim (by first | omega | (dsimp only at *; omega))) (fun c24 => ?_)
    refine z_iload_n F dJ6_stringSize_0f7a4_27 rfl rfl ?_
    refine z_iload_n F dJ6_stringSize_0f7a4_28 rfl rfl ?_
    refine zi_iadd F dJ6_stringSize_0f7a4_29 ?_
    rw [show (((7 : Nat) : Int) + 0) = ((7 : Nat) : Int) from rfl]
    exact Z.widen (by decide) (by decide) (z_ireturn F rfl B dJ6_stringSize_0f7a4_30 ⟨7, by omega, by omega, by omega, by omega, rfl, rfl⟩)
  | succ k ih =>
    intro i P hi h1 hP ho
    have hP7 : P ≤ 10000000 := by rw [hP]; exact Nat.pow_le_pow_right (n := 10) (i := i) (j := 7) (by decide) (by omega)
    refine z_iload_n F dJ6_stringSize_0f7a4_16 rfl rfl ?_
    refine zi_bipush F dJ6_stringSize_0f7a4_17 (by decide) ?_
    refine zi_icmp_ge (tgt := 42) F dJ6_stringSize_0f7a4_19 (by decide) (by first | omega | (dsimp only at *; omega)) (fun c19 => False.elim (by first | omega | (dsimp only at *; omega))) (fun c19 => ?_)
    refine z_iload_n F dJ6_stringSize_0f7a4_22 rfl rfl ?_
    refine z_iload_n F dJ6_stringSize_0f7a4_23 rfl rfl ?_
    refine zi_icmp_le (tgt := 31) F dJ6_stringSize_0f7a4_24 (by decide) (by first | omega | (dsimp only at *; omega)) (fun c24 => ?_) (fun c24 => ?_)
    · refine zi_bipush F dJ6_stringSize_0f7a4_31 (by decide) ?_
      refine z_iload_n F dJ6_stringSize_0f7a4_33 rfl rfl ?_
      refine zi_imul F dJ6_stringSize_0f7a4_34 ?_
      rw [show ((10 : Int) * -(P : Int)) = -((10 * P : Nat) : Int) by omega]
      refine z_istore_n F dJ6_stringSize_0f7a4_35 rfl rfl (hnl _ rfl) ?_
      refine zi_iinc F dJ6_stringSize_0f7a4_36 rfl rfl (hnl _ rfl) ?_
      refine z_goto (tgt := 16) F dJ6_stringSize_0f7a4_39 (by decide) ?_
      exact Z.keys [3, 2, 0, 1] rfl (ih (i + 1) (10 * P) (by omega) (by omega) (by rw [hP, Nat.pow_succ, Nat.mul_comm]) (Or.inr (by have : 10 ≤ P := (by rw [hP]; exact Nat.pow_le_pow_right (n := 10) (i := 1) (j := i) (by decide) h1); omega)))
    · refine z_iload_n F dJ6_stringSize_0f7a4_27 rfl rfl ?_
      refine z_iload_n F dJ6_stringSize_0f7a4_28 rfl rfl ?_
      refine zi_iadd F dJ6_stringSize_0f7a4_29 ?_
      rw [show ((i : Int) + 0) = (i : Int) by omega]
      exact Z.widen (by decide) (by decide) (z_ireturn F rfl B dJ6_stringSize_0f7a4_30 ⟨i, h1, by omega, by omega, by omega, rfl, rfl⟩)
/-- a row of bytes, whatever they are -/
def zBy (b m : Nat) (h : zH) : Prop := ∃ f : Nat → Int32, h[b]? = some (104, zar m (fun j => .int (f j)))
theorem zBy.set {b m : Nat} {h : zH} {f : Nat → Int32} {i : Nat} {x : Int32} (e : h[b]? = some (104, zar m (fun j => .int (f j)))) : zBy b m (h.set b (104, (zar m (fun j => .int (f j))).set i (.int x))) := by
  refine ⟨fun j => if j = i then x else f j, ?_⟩
  rw [zset_same e, zar_set]
  congr 2
  exact zar_congr fun k hk => by
    show zup (fun j => Value.int (f j)) i (.int x) k = Value.int (if k = i then x else f k)
    unfold zup
    by_cases e : k = i
    · rw [if_pos e, if_pos e]
    · rw [if_neg e, if_neg e]
theorem m_getChars {n c : Nat} (hn7 : n < 10000000) (hc : n < 10 ^ c) (hc1 : 1 ≤ c) (hcm : c ≤ m) (hm : m ≤ 65536) (hz : zNR ≤ bv) (Bs : zRs h) (hv : zBy bv m h) : zMet yJ6_getChars_ba4f3 cJ6_getChars_ba4f3 7 (some .int) 1 0 0 [.int (iI (n : Int)), .int (iI (c : Int)), .ref bv] h (fun v h' => (∃ x, v = some (.int x)) ∧ zBy bv m h' ∧ zSame (fun q => q = bv) h h') (fun _ _ => False) := by
  refine zMet.go (by decide +kernel) (Nat.le_of_ble_eq_true rfl) ?_
  intro X F B hnl hR hn
  have hBs : ∀ h1, zSame (fun q => q = bv) h h1 → zRs h1 := fun h1 q => Bs.same q (fun a ha g => by omega)
  have hend : ∀ (n1 c1 : Nat) (h1 : zH), n1 < 100 → n1 < 10 ^ c1 → 1 ≤ c1 → c1 ≤ m → zBy bv m h1 → zSame (fun q => q = bv) h h1 → Z X 0 0 72 [(5, .int (iI (c1 : Int))), (0, .int (iI (-(n1 : Int)))), (6, .int (iI 0)), (2, .ref bv)] [] h1 := by
    intro n1 c1 h1 hn1 hp1 h11 h1m y1 s1
    have B1 := hBs h1 s1
    obtain ⟨f1, e1⟩ := y1
    have hp2 : 10 ≤ n1 → 2 ≤ c1 := fun q => p10_one hp1 q
    refine z_aload_n F dJ6_getChars_ba4f3_72 rfl rfl ?_
    refine zi_iinc F dJ6_getChars_ba4f3_73 rfl rfl (hnl _ rfl) ?_
    refine z_iload F dJ6_getChars_ba4f3_76 rfl ?_
    refine z_getstatic F gs_J6_83 dJ6_getChars_ba4f3_78 ?_
    refine z_iload_n F dJ6_getChars_ba4f3_81 rfl rfl ?_
    refine zi_ineg F dJ6_getChars_ba4f3_82 ?_
    refine zi_baload (i := n1) F dJ6_getChars_ba4f3_83 B1.2.2.1 (by omega) (by omega) (zar_get (by omega)) ?_
    refine zi_bastore (i := (c1 - 1)) F dJ6_getChars_ba4f3_84 (zmut_of F (by omega)) e1 (by omega) (by rw [zar_len]; omega) ?_
    refine zgen (P := fun h' => zBy bv m h' ∧ zSame (fun q => q = bv) h h') ⟨zBy.set e1, s1.set rfl⟩ (fun h2 q2 => ?_)
    obtain ⟨⟨f2, e2⟩, s2⟩ := q2
    have B2 := hBs h2 s2
    refine z_iload_n F dJ6_getChars_ba4f3_85 rfl rfl ?_
    refine zi_bipush F dJ6_getChars_ba4f3_86 (by decide) ?_
    refine zi_icmp_ge (tgt := 104) F dJ6_getChars_ba4f3_88 (by decide) (by first | omega | (dsimp only at *; omega)) (fun c88 => ?_) (fun c88 => ?_)
    · refine z_iload F dJ6_getChars_ba4f3_104 rfl ?_
      refine zi_if_eq (tgt := 118) F dJ6_getChars_ba4f3_106 (by decide) (by first | omega | (dsimp only at *; omega)) (fun c106 => ?_) (fun c106 => False.elim (by first | omega | (dsimp only at *; omega)))
      refine z_iload F dJ6_getChars_ba4f3_118 rfl ?_
      exact Z.widen (by decide) (by decide) (z_ireturn F rfl B dJ6_getChars_ba4f3_120 ⟨⟨_, rfl⟩, by first | exact zBy.set e2 | exact ⟨f2, e2⟩, by first | exact s2 | exact s2.set rfl⟩)
    · have hc2 := hp2 (by omega)
      refine z_aload_n F dJ6_getChars_ba4f3_91 rfl rfl ?_
      refine zi_iinc F dJ6_getChars_ba4f3_92 rfl rfl (hnl _ rfl) ?_
      refine z_iload F dJ6_getChars_ba4f3_95 rfl ?_
      refine z_getstatic F gs_J6_87 dJ6_getChars_ba4f3_97 ?_
      refine z_iload_n F dJ6_getChars_ba4f3_100 rfl rfl ?_
      refine zi_ineg F dJ6_getChars_ba4f3_101 ?_
      refine zi_baload (i := n1) F dJ6_getChars_ba4f3_102 B2.2.2.2.1 (by omega) (by omega) (zar_get (by omega)) ?_
      refine zi_bastore (i := (c1 - 2)) F dJ6_getChars_ba4f3_103 (zmut_of F (by omega)) e2 (by omega) (by rw [zar_len]; omega) ?_
      refine z_iload F dJ6_getChars_ba4f3_104 rfl ?_
      refine zi_if_eq (tgt := 118) F dJ6_getChars_ba4f3_106 (by decide) (by first | omega | (dsimp only at *; omega)) (fun c106 => ?_) (fun c106 => False.elim (by first | omega | (dsimp only at *; omega)))
      refine z_iload F dJ6_getChars_ba4f3_118 rfl ?_
      exact Z.widen (by decide) (by decide) (z_ireturn F rfl B dJ6_getChars_ba4f3_120 ⟨⟨_, rfl⟩, by first | exact zBy.set e2 | exact ⟨f2, e2⟩, by first | exact s2 | exact s2.set rfl⟩)
  suffices KK : ∀ (k n1 c1 : Nat) (h1 : zH), n1 ≤ k → n1 < 10000000 → n1 < 10 ^ c1 → 1 ≤ c1 → c1 ≤ m → zBy bv m h1 → zSame (fun q => q = bv) h h1 → Z X 0 0 22 [(5, .int (iI (c1 : Int))), (0, .int (iI (-(n1 : Int)))), (6, .int (iI 0)), (2, .ref bv)] [] h1 by
    refine z_iload_n F dJ6_getChars_ba4f3_0 rfl rfl ?_
    refine z_istore F dJ6_getChars_ba4f3_1 rfl (hnl _ rfl) ?_
    refine z_iload_n F dJ6_getChars_ba4f3_3 rfl rfl ?_
    refine zi_if_ge (tgt := 11) F dJ6_getChars_ba4f3_4 (by decide) (by first | omega | (dsimp only at *; omega)) (fun c4 => ?_) (fun c4 => False.elim (by first | omega | (dsimp only at *; omega)))
    refine zi_iconst F dJ6_getChars_ba4f3_11 ?_
    refine z_istore F dJ6_getChars_ba4f3_12 rfl (hnl _ rfl) ?_
    refine z_iload F dJ6_getChars_ba4f3_14 rfl ?_
    refine zi_if_ne (tgt := 22) F dJ6_getChars_ba4f3_16 (by decide) (by first | omega | (dsimp only at *; omega)) (fun c16 => False.elim (by first | omega | (dsimp only at *; omega))) (fun c16 => ?_)
    refine z_iload_n F dJ6_getChars_ba4f3_19 rfl rfl ?_
    refine zi_ineg F dJ6_getChars_ba4f3_20 ?_
    refine z_istore_n F dJ6_getChars_ba4f3_21 rfl rfl (hnl _ rfl) ?_
    exact Z.keys [5, 0, 6, 2] rfl (KK n n c h (Nat.le_refl _) hn7 hc hc1 hcm hv zSame.rf)
  intro k
  induction k with
  | zero =>
    intro n1 c1 h1 hk hn1 hp1 h11 h1m y1 s1
    refine z_iload_n F dJ6_getChars_ba4f3_22 rfl rfl ?_
    refine zi_bipush F dJ6_getChars_ba4f3_23 (by decide) ?_
    refine zi_icmp_gt (tgt := 72) F dJ6_getChars_ba4f3_25 (by decide) (by first | omega | (dsimp only at *; omega)) (fun c25 => ?_) (fun c25 => False.elim (by first | omega | (dsimp only at *; omega)))
    exact hend n1 c1 h1 (by omega) hp1 h11 h1m y1 s1
  | succ k ih =>
    intro n1 c1 h1 hk hn1 hp1 h11 h1m y1 s1
    by_cases h100 : n1 < 100
    · refine z_iload_n F dJ6_getChars_ba4f3_22 rfl rfl ?_
      refine zi_bipush F dJ6_getChars_ba4f3_23 (by decide) ?_
      refine zi_icmp_gt (tgt := 72) F dJ6_getChars_ba4f3_25 (by decide) (by first | omega | (dsimp only at *; omega)) (fun c25 => ?_) (fun c25 => False.elim (by first | omega | (dsimp only at *; omega)))
      exact hend n1 c1 h1 (by omega) hp1 h11 h1m y1 s1
    · obtain ⟨d1, hd1, hd2, hd3⟩ := p10_two hp1 (by omega)
      have B1 := hBs h1 s1
      obtain ⟨f1, e1⟩ := y1
      refine z_iload_n F dJ6_getChars_ba4f3_22 rfl rfl ?_
      refine zi_bipush F dJ6_getChars_ba4f3_23 (by decide) ?_
      refine zi_icmp_gt (tgt := 72) F dJ6_getChars_ba4f3_25 (by decide) (by first | omega | (dsimp only at *; omega)) (fun c25 => False.elim (by first | omega | (dsimp only at *; omega))) (fun c25 => ?_)
      refine z_iload_n F dJ6_getChars_ba4f3_28 rfl rfl ?_
      refine zi_bipush F dJ6_getChars_ba4f3_29 (by decide) ?_
      refine z_idiv F dJ6_getChars_ba4f3_31 (iI_ne0 (by omega)) ?_
      rw [iI_ndiv (by omega)]
      refine z_istore_n F dJ6_getChars_ba4f3_32 rfl rfl (hnl _ rfl) ?_
      refine z_iload_n F dJ6_getChars_ba4f3_33 rfl rfl ?_
      refine zi_bipush F dJ6_getChars_ba4f3_34 (by decide) ?_
      refine zi_imul F dJ6_getChars_ba4f3_36 ?_
      refine z_iload_n F dJ6_getChars_ba4f3_37 rfl rfl ?_
      refine zi_isub F dJ6_getChars_ba4f3_38 ?_
      rw [show (-((n1 / 100 : Nat) : Int) * 100 - -(n1 : Int)) = ((n1 % 100 : Nat) : Int) by omega]
      refine z_istore F dJ6_getChars_ba4f3_39 rfl (hnl _ rfl) ?_
      refine z_iload_n F dJ6_getChars_ba4f3_41 rfl rfl ?_
      refine z_istore_n F dJ6_getChars_ba4f3_42 rfl rfl (hnl _ rfl) ?_
      refine z_aload_n F dJ6_getChars_ba4f3_43 rfl rfl ?_
      refine zi_iinc F dJ6_getChars_ba4f3_44 rfl rfl (hnl _ rfl) ?_
      refine z_iload F dJ6_getChars_ba4f3_47 rfl ?_
      refine z_getstatic F gs_J6_83 dJ6_getChars_ba4f3_49 ?_
      refine z_iload F dJ6_getChars_ba4f3_52 rfl ?_
      refine zi_baload (i := (n1 % 100)) F dJ6_getChars_ba4f3_54 B1.2.2.1 rfl (by omega) (zar_get (by omega)) ?_
      refine zi_bastore (i := (c1 - 1)) F dJ6_getChars_ba4f3_55 (zmut_of F (by omega)) e1 (by omega) (by rw [zar_len]; omega) ?_
      refine zgen (P := fun h' => zBy bv m h' ∧ zSame (fun q => q = bv) h h') ⟨zBy.set e1, s1.set rfl⟩ (fun h2 q2 => ?_)
      obtain ⟨⟨f2, e2⟩, s2⟩ := q2
      have B2 := hBs h2 s2
      refine z_aload_n F dJ6_getChars_ba4f3_56 rfl rfl ?_
      refine zi_iinc F dJ6_getChars_ba4f3_57 rfl rfl (hnl _ rfl) ?_
      refine z_iload F dJ6_getChars_ba4f3_60 rfl ?_
      refine z_getstatic F gs_J6_87 dJ6_getChars_ba4f3_62 ?_
      refine z_iload F dJ6_getChars_ba4f3_65 rfl ?_
      refine zi_baload (i := (n1 % 100)) F dJ6_getChars_ba4f3_67 B2.2.2.2.1 rfl (by omega) (zar_get (by omega)) ?_
      refine zi_bastore (i := (c1 - 2)) F dJ6_getChars_ba4f3_68 (zmut_of F (by omega)) e2 (by omega) (by rw [zar_len]; omega) ?_
      refine z_goto (tgt := 22) F dJ6_getChars_ba4f3_69 (by decide) ?_
      exact Z.keys (ls' := [(5, .int (iI (d1 : Int))), (0, .int (iI (-((n1 / 100 : Nat) : Int)))), (6, .int (iI 0)), (2, .ref bv)]) [5, 0, 6, 2] (by rw [show (d1 : Int) = ((c1 : Int) + -1) + -1 by omega]; rfl) (ih (n1 / 100) d1 _ (by omega) (by omega) hd3 hd2 (by omega) (zBy.set e2) (s2.set rfl))
theorem m_sbInt {n : Nat} (hn7 : n < 10000000) (hz : zNR ≤ a) (Bs : zRs h) (L : zLc a cnt h) (hc16 : cnt + (if n < 10 then 1 else 7) ≤ 16) : zMet yJ5_append_c97b9 cJ5_append_c97b9 4 (some (.object "java/lang/AbstractStringBuilder")) 2 0 0 [.ref a, .int (iI (n : Int))] h (fun v h' => v = some (.ref a) ∧ ∃ s, 1 ≤ s ∧ s ≤ 7 ∧ (n < 10 → s = 1) ∧ zLc a (cnt + s) h' ∧ zSame (zFrom a) h h') (fun _ _ => False) := by
  refine zMet.go (by decide +kernel) (Nat.le_of_ble_eq_true rfl) ?_
  intro X F B hnl hR hn
  have L0 := L
  obtain ⟨w, mb, m, f, h1, h2, h3, h4, h5, h6⟩ := L
  refine z_aload_n F dJ5_append_c97b9_0 rfl rfl ?_
  refine z_getfield F fl_J5_79 dJ5_append_c97b9_1 h2 (by decide) rfl ?_
  refine z_istore_n F dJ5_append_c97b9_4 rfl rfl (hnl _ rfl) ?_
  refine z_iload_n F dJ5_append_c97b9_5 rfl rfl ?_
  refine z_iload_n F dJ5_append_c97b9_6 rfl rfl ?_
  refine z_callS F B cal_yJ6_stringSize_0f7a4 (m_strSize hn7) dJ5_append_c97b9_7 rfl rfl (Nat.le_of_ble_eq_true rfl) (by decide) (by decide) (by decide) ml_J5_245 st_yJ6_stringSize_0f7a4 (fun v hX qX => ?_) (fun C h1 q => q.elim)
  obtain ⟨s, q1, q2, q3, q4, rfl, qX⟩ := qX
  rw [qX]
  clear qX hX
  have hs16 : cnt + s ≤ 16 := by by_cases h10 : n < 10; (rw [if_pos h10] at hc16; have := q4 h10; omega); (rw [if_neg h10] at hc16; omega)
  refine zi_iadd F dJ5_append_c97b9_10 ?_
  rw [show ((cnt : Int) + (s : Int)) = ((cnt + s : Nat) : Int) by omega]
  refine z_istore_n F dJ5_append_c97b9_11 rfl rfl (hnl _ rfl) ?_
  refine z_aload_n F dJ5_append_c97b9_12 rfl rfl ?_
  refine z_iload_n F dJ5_append_c97b9_13 rfl rfl ?_
  refine z_callVg (r := (RJ4, TJ4, 4)) F B cal_yJ5_ensureCapacityInternal_d00df (m_sbEnsure (n := cnt + s) L0 hs16) dJ5_append_c97b9_14 rfl rfl (Nat.le_of_ble_eq_true rfl) (by decide) (by decide) (by decide) ml_J5_100 im_yJ5_ensureCapacityInternal_d00df se_ens h2 (by decide) rfl (fun v hX qX => ?_) (fun C h1 q => q.elim)
  obtain ⟨rfl, qX⟩ := qX
  rw [qX]
  clear qX hX
  refine z_aload_n F dJ5_append_c97b9_17 rfl rfl ?_
  refine z_callVg (r := (RJ4, TJ4, 4)) F B cal_yJ5_isLatin1_aae02 (m_sbLatin L0) dJ5_append_c97b9_18 rfl rfl (Nat.le_of_ble_eq_true rfl) (by decide) (by decide) (by decide) ml_J5_83 im_yJ5_isLatin1_aae02 se_lat h2 (by decide) rfl (fun v hX qX => ?_) (fun C h1 q => q.elim)
  obtain ⟨rfl, qX⟩ := qX
  rw [qX]
  clear qX hX
  refine zi_if_eq (tgt := 37) F dJ5_append_c97b9_21 (by decide) (by first | omega | (dsimp only at *; omega)) (fun c21 => False.elim (by first | omega | (dsimp only at *; omega))) (fun c21 => ?_)
  refine z_iload_n F dJ5_append_c97b9_24 rfl rfl ?_
  refine z_iload_n F dJ5_append_c97b9_25 rfl rfl ?_
  refine z_aload_n F dJ5_append_c97b9_26 rfl rfl ?_
  refine z_getfield F fl_J5_15 dJ5_append_c97b9_27 h2 (by decide) rfl ?_
  refine z_callS F B cal_yJ6_getChars_ba4f3 (m_getChars (c := cnt + s) hn7 (Nat.lt_of_lt_of_le q3 (Nat.pow_le_pow_right (by decide) (by omega))) (by omega) (by omega) h6 (by omega) Bs ⟨f, h3⟩) dJ5_append_c97b9_30 rfl rfl (Nat.le_of_ble_eq_true rfl) (by decide) (by decide) (by decide) ml_J5_248 st_yJ6_getChars_ba4f3 (fun v hX qX => ?_) (fun C h1 q => q.elim)
  obtain ⟨⟨x, rfl⟩, ⟨f2, e2⟩, s2⟩ := qX
  have h22 := s2.get h2 (by omega)
  refine z_pop F dJ5_append_c97b9_33 rfl ?_
  refine z_goto (tgt := 48) F dJ5_append_c97b9_34 (by decide) ?_
  refine z_aload_n F dJ5_append_c97b9_48 rfl rfl ?_
  refine z_iload_n F dJ5_append_c97b9_49 rfl rfl ?_
  refine z_putfield F fp_J5_79 dJ5_append_c97b9_50 (zmut_of F (by omega)) h22 (by decide) (Nat.le_of_ble_eq_true rfl) ⟨rfl, rfl⟩ ?_
  refine z_aload_n F dJ5_append_c97b9_53 rfl rfl ?_
  exact Z.widen (by decide) (by decide) (z_areturn F (Or.inl ⟨_, rfl⟩) B dJ5_append_c97b9_54 ⟨rfl, s, q1, q2, q4, ⟨w, mb, m, f2, h1, zset_same h22, zkeep e2 (by omega), by omega, h5, h6⟩, (s2.weak (fun q e => by have e : q = w := e; show a ≤ q; omega)).set (Nat.le_refl a)⟩)
theorem m_sbInt4 {n : Nat} (hn7 : n < 10000000) (hz : zNR ≤ a) (Bs : zRs h) (L : zLc a cnt h) (hc16 : cnt + (if n < 10 then 1 else 7) ≤ 16) : zMet yJ4_append_bf812 cJ4_append_bf812 2 (some (.object "java/lang/StringBuilder")) 3 0 0 [.ref a, .int (iI (n : Int))] h (fun v h' => v = some (.ref a) ∧ ∃ s, 1 ≤ s ∧ s ≤ 7 ∧ (n < 10 → s = 1) ∧ zLc a (cnt + s) h' ∧ zSame (zFrom a) h h') (fun _ _ => False) := by
  refine zMet.go (by decide +kernel) (Nat.le_of_ble_eq_true rfl) ?_
  intro X F B hnl hR hn
  obtain ⟨fs, hob⟩ := L.ob
  refine z_aload_n F dJ4_append_bf812_0 rfl rfl ?_
  refine z_iload_n F dJ4_append_bf812_1 rfl rfl ?_
  refine z_callSU F B cal_yJ5_append_c97b9 (m_sbInt hn7 hz Bs L hc16) dJ4_append_bf812_2 rfl rfl (Nat.le_of_ble_eq_true rfl) (by decide) (by decide) (by decide) ml_J4_53 sm_append_c97b9 zs_sup im_yJ5_append_c97b9 (by decide) hob (by decide) rfl (fun v hX qX => ?_) (fun C h1 q => q.elim)
  obtain ⟨rfl, q1⟩ := qX
  refine z_pop F dJ4_append_bf812_5 rfl ?_
  refine z_aload_n F dJ4_append_bf812_6 rfl rfl ?_
  exact Z.widen (by decide) (by decide) (z_areturn F (Or.inl ⟨_, rfl⟩) B dJ4_append_bf812_7 ⟨rfl, q1⟩)
end
