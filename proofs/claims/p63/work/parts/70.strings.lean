/-! texts' signs, constants' numbers -/
theorem ishr0 (x : Int32) : x >>> (iI 0 &&& 31) = x := by
  rw [show (iI 0 &&& 31 : Int32) = 0 by decide, Int32.shiftRight_zero]
theorem ch_lo : ∀ c : Nat, c < 128 → ((iI (c : Int) &&& iI 255).toUInt32 % 65536).toInt32 = iI (c : Int) := by decide +kernel
theorem ch_nar0 : ∀ c : Nat, c < 128 → vp_nar .char (iI (c : Int)) = iI (c : Int) := by decide +kernel
theorem ch_nar {c : Nat} (h : c < 128) : narrow .char (.int (iI (c : Int))) = .int (iI (c : Int)) := by
  rw [show narrow .char (.int (iI (c : Int))) = .int (vp_nar .char (iI (c : Int))) from rfl, ch_nar0 c h]
def bys (l : List Nat) : List Value := l.map (fun c : Nat => .int (iI (c : Int)))
theorem bys_len (l : List Nat) : (bys l).length = l.length := List.length_map _
theorem bys_get {l : List Nat} {i : Nat} (h : i < l.length) : (bys l)[i]? = some (.int (iI ((l.getD i 0 : Nat) : Int))) := by
  unfold bys
  rw [List.getElem?_map, List.getElem?_eq_getElem h, List.getD_eq_getElem?_getD, List.getElem?_eq_getElem h]
  rfl
/-- a text that nobody writes -/
def zSg (s : Nat) (l : List Nat) (h : zH) : Prop := ∃ b, h[s]? = some (0, [.ref b, .int (iI 0)]) ∧ h[b]? = some (104, bys l) ∧ (∀ i, i < l.length → l.getD i 0 < 128) ∧ l.length < 2147483648
section
variable {s b : Nat} {l : List Nat} {h : zH}
theorem m_ckIndex3 {i n : Int} {f : Nat} (hi : 0 ≤ i ∧ i < n) (hm : n < 2147483648) : zMet yJ3_checkIndex_8e157 cJ3_checkIndex_8e157 3 (some .int) 1 0 0 [.int (iI i), .int (iI n), .ref f] h (fun v h' => v = some (.int (iI (i))) ∧ h' = h) (fun _ _ => False) := by
  refine zMet.go (by decide +kernel) (Nat.le_of_ble_eq_true rfl) ?_
  intro X F B hnl hR hn
  refine z_iload_n F dJ3_checkIndex_8e157_0 rfl rfl ?_
  refine zi_if_lt (tgt := 9) F dJ3_checkIndex_8e157_1 (by decide) (by first | omega | (dsimp only at *; omega)) (fun c1 => False.elim (by first | omega | (dsimp only at *; omega))) (fun c1 => ?_)
  refine z_iload_n F dJ3_checkIndex_8e157_4 rfl rfl ?_
  refine z_iload_n F dJ3_checkIndex_8e157_5 rfl rfl ?_
  refine zi_icmp_lt (tgt := 16) F dJ3_checkIndex_8e157_6 (by decide) (by first | omega | (dsimp only at *; omega)) (fun c6 => ?_) (fun c6 => False.elim (by first | omega | (dsimp only at *; omega)))
  refine z_iload_n F dJ3_checkIndex_8e157_16 rfl rfl ?_
  exact Z.widen (by decide) (by decide) (z_ireturn F rfl B dJ3_checkIndex_8e157_17 ⟨rfl, rfl⟩)
theorem m_ckIndexN {i n : Int} (hi : 0 ≤ i ∧ i < n) (hm : n < 2147483648) : zMet yJ3_checkIndex_8e157 cJ3_checkIndex_8e157 3 (some .int) 1 0 0 [.int (iI i), .int (iI n), .null] h (fun v h' => v = some (.int (iI (i))) ∧ h' = h) (fun _ _ => False) := by
  refine zMet.go (by decide +kernel) (Nat.le_of_ble_eq_true rfl) ?_
  intro X F B hnl hR hn
  refine z_iload_n F dJ3_checkIndex_8e157_0 rfl rfl ?_
  refine zi_if_lt (tgt := 9) F dJ3_checkIndex_8e157_1 (by decide) (by first | omega | (dsimp only at *; omega)) (fun c1 => False.elim (by first | omega | (dsimp only at *; omega))) (fun c1 => ?_)
  refine z_iload_n F dJ3_checkIndex_8e157_4 rfl rfl ?_
  refine z_iload_n F dJ3_checkIndex_8e157_5 rfl rfl ?_
  refine zi_icmp_lt (tgt := 16) F dJ3_checkIndex_8e157_6 (by decide) (by first | omega | (dsimp only at *; omega)) (fun c6 => ?_) (fun c6 => False.elim (by first | omega | (dsimp only at *; omega)))
  refine z_iload_n F dJ3_checkIndex_8e157_16 rfl rfl ?_
  exact Z.widen (by decide) (by decide) (z_ireturn F rfl B dJ3_checkIndex_8e157_17 ⟨rfl, rfl⟩)
theorem m_ckIndex {i n : Int} (hi : 0 ≤ i ∧ i < n) (hm : n < 2147483648) : zMet yJ0_checkIndex_df160 cJ0_checkIndex_df160 2 none 2 0 0 [.int (iI i), .int (iI n)] h (fun v h' => v = none ∧ h' = h) (fun _ _ => False) := by
  refine zMet.go (by decide +kernel) (Nat.le_of_ble_eq_true rfl) ?_
  intro X F B hnl hR hn
  refine z_iload_n F dJ0_checkIndex_df160_0 rfl rfl ?_
  refine z_iload_n F dJ0_checkIndex_df160_1 rfl rfl ?_
  refine z_getstaticQ F gs_J0_1053 dJ0_checkIndex_df160_2 (fun v hv => ?_)
  rcases hv with rfl | rfl
  · refine z_callS F B cal_yJ3_checkIndex_8e157 (m_ckIndex3 hi hm) dJ0_checkIndex_df160_5 rfl rfl (Nat.le_of_ble_eq_true rfl) (by decide) (by decide) (by decide) ml_J0_1059 st_yJ3_checkIndex_8e157 (fun v hX qX => ?_) (fun C h1 q => q.elim)
    obtain ⟨rfl, qX⟩ := qX
    rw [qX]
    clear qX hX
    refine z_pop F dJ0_checkIndex_df160_8 rfl ?_
    exact Z.widen (by decide) (by decide) (z_return F B dJ0_checkIndex_df160_9 ⟨rfl, rfl⟩)
  · refine z_callS F B cal_yJ3_checkIndex_8e157 (m_ckIndexN hi hm) dJ0_checkIndex_df160_5 rfl rfl (Nat.le_of_ble_eq_true rfl) (by decide) (by decide) (by decide) ml_J0_1059 st_yJ3_checkIndex_8e157 (fun v hX qX => ?_) (fun C h1 q => q.elim)
    obtain ⟨rfl, qX⟩ := qX
    rw [qX]
    clear qX hX
    refine z_pop F dJ0_checkIndex_df160_8 rfl ?_
    exact Z.widen (by decide) (by decide) (z_return F B dJ0_checkIndex_df160_9 ⟨rfl, rfl⟩)
theorem m_charAt1 {i : Nat} (hb : h[b]? = some (104, bys l)) (hl : ∀ i, i < l.length → l.getD i 0 < 128) (hm : l.length < 2147483648) (hi : i < l.length) : zMet yJ1_charAt_3b067 cJ1_charAt_3b067 2 (some .char) 3 0 0 [.ref b, .int (iI (i : Int))] h (fun v h' => v = some (.int (iI (((l.getD i 0 : Nat) : Int)))) ∧ h' = h) (fun _ _ => False) := by
  refine zMet.go (by decide +kernel) (Nat.le_of_ble_eq_true rfl) ?_
  intro X F B hnl hR hn
  refine z_iload_n F dJ1_charAt_3b067_0 rfl rfl ?_
  refine z_aload_n F dJ1_charAt_3b067_1 rfl rfl ?_
  refine zi_alen F dJ1_charAt_3b067_2 hb (by decide) (by decide) (bys_len l) ?_
  refine z_callS F B cal_yJ0_checkIndex_df160 (m_ckIndex (by omega) (by omega)) dJ1_charAt_3b067_3 rfl rfl (Nat.le_of_ble_eq_true rfl) (by decide) (by decide) (by decide) ml_J1_9 st_yJ0_checkIndex_df160 (fun v hX qX => ?_) (fun C h1 q => q.elim)
  obtain ⟨rfl, qX⟩ := qX
  rw [qX]
  clear qX hX
  refine z_aload_n F dJ1_charAt_3b067_6 rfl rfl ?_
  refine z_iload_n F dJ1_charAt_3b067_7 rfl rfl ?_
  refine zi_baload (i := i) F dJ1_charAt_3b067_8 hb rfl (by omega) (bys_get hi) ?_
  refine zi_sipush F dJ1_charAt_3b067_9 (by decide) ?_
  refine z_iand F dJ1_charAt_3b067_12 ?_
  refine z_i2c F dJ1_charAt_3b067_13 (ch_lo _ (hl i hi)) ?_
  exact Z.widen (by decide) (by decide) (z_ireturn F (ch_nar (hl i hi)) B dJ1_charAt_3b067_14 ⟨rfl, rfl⟩)
theorem m_isLatin1 (hs : h[s]? = some (0, [.ref b, .int (iI 0)])) : zMet yJ0_isLatin1_aae02 cJ0_isLatin1_aae02 1 (some .boolean) 1 0 0 [.ref s] h (fun v h' => v = some (.int (iI (1))) ∧ h' = h) (fun _ _ => False) := by
  refine zMet.go (by decide +kernel) (Nat.le_of_ble_eq_true rfl) ?_
  intro X F B hnl hR hn
  refine z_getstatic F gs_J0_38 dJ0_isLatin1_aae02_0 ?_
  refine zi_if_eq (tgt := 17) F dJ0_isLatin1_aae02_3 (by decide) (by first | omega | (dsimp only at *; omega)) (fun c3 => False.elim (by first | omega | (dsimp only at *; omega))) (fun c3 => ?_)
  refine z_aload_n F dJ0_isLatin1_aae02_6 rfl rfl ?_
  refine z_getfield F fl_J0_15 dJ0_isLatin1_aae02_7 hs (by decide) rfl ?_
  refine zi_if_ne (tgt := 17) F dJ0_isLatin1_aae02_10 (by decide) (by first | omega | (dsimp only at *; omega)) (fun c10 => False.elim (by first | omega | (dsimp only at *; omega))) (fun c10 => ?_)
  refine zi_iconst F dJ0_isLatin1_aae02_13 ?_
  refine z_goto (tgt := 18) F dJ0_isLatin1_aae02_14 (by decide) ?_
  exact Z.widen (by decide) (by decide) (z_ireturn F rfl B dJ0_isLatin1_aae02_18 ⟨rfl, rfl⟩)
theorem m_coder (hs : h[s]? = some (0, [.ref b, .int (iI 0)])) : zMet yJ0_coder_7d493 cJ0_coder_7d493 1 (some .byte) 1 0 0 [.ref s] h (fun v h' => v = some (.int (iI (0))) ∧ h' = h) (fun _ _ => False) := by
  refine zMet.go (by decide +kernel) (Nat.le_of_ble_eq_true rfl) ?_
  intro X F B hnl hR hn
  refine z_getstatic F gs_J0_38 dJ0_coder_7d493_0 ?_
  refine zi_if_eq (tgt := 13) F dJ0_coder_7d493_3 (by decide) (by first | omega | (dsimp only at *; omega)) (fun c3 => False.elim (by first | omega | (dsimp only at *; omega))) (fun c3 => ?_)
  refine z_aload_n F dJ0_coder_7d493_6 rfl rfl ?_
  refine z_getfield F fl_J0_15 dJ0_coder_7d493_7 hs (by decide) rfl ?_
  refine z_goto (tgt := 14) F dJ0_coder_7d493_10 (by decide) ?_
  exact Z.widen (by decide) (by decide) (z_ireturn F rfl B dJ0_coder_7d493_14 ⟨rfl, rfl⟩)
theorem m_strlen (G : zSg s l h) : zMet yJ0_length_8abf5 cJ0_length_8abf5 1 (some .int) 2 0 0 [.ref s] h (fun v h' => v = some (.int (iI ((l.length : Int)))) ∧ h' = h) (fun _ _ => False) := by
  refine zMet.go (by decide +kernel) (Nat.le_of_ble_eq_true rfl) ?_
  intro X F B hnl hR hn
  obtain ⟨b, hs, hb, hl, hm⟩ := G
  refine z_aload_n F dJ0_length_8abf5_0 rfl rfl ?_
  refine z_getfield F fl_J0_9 dJ0_length_8abf5_1 hs (by decide) rfl ?_
  refine zi_alen F dJ0_length_8abf5_4 hb (by decide) (by decide) (bys_len l) ?_
  refine z_aload_n F dJ0_length_8abf5_5 rfl rfl ?_
  refine z_callV F B cal_yJ0_coder_7d493 (m_coder hs) dJ0_length_8abf5_6 rfl rfl (Nat.le_of_ble_eq_true rfl) (by decide) (by decide) (by decide) ml_J0_335 im_yJ0_coder_7d493 se_yJ0_coder_7d493 hs (by decide) rfl rfl (fun v hX qX => ?_) (fun C h1 q => q.elim)
  obtain ⟨rfl, qX⟩ := qX
  rw [qX]
  clear qX hX
  refine z_ishr F dJ0_length_8abf5_9 ?_
  rw [ishr0]
  exact Z.widen (by decide) (by decide) (z_ireturn F rfl B dJ0_length_8abf5_10 ⟨rfl, rfl⟩)
theorem m_charAt {i : Nat} (G : zSg s l h) (hi : i < l.length) : zMet yJ0_charAt_5068e cJ0_charAt_5068e 2 (some .char) 4 0 0 [.ref s, .int (iI (i : Int))] h (fun v h' => v = some (.int (iI (((l.getD i 0 : Nat) : Int)))) ∧ h' = h) (fun _ _ => False) := by
  refine zMet.go (by decide +kernel) (Nat.le_of_ble_eq_true rfl) ?_
  intro X F B hnl hR hn
  obtain ⟨b, hs, hb, hl, hm⟩ := G
  refine z_aload_n F dJ0_charAt_5068e_0 rfl rfl ?_
  refine z_callV F B cal_yJ0_isLatin1_aae02 (m_isLatin1 hs) dJ0_charAt_5068e_1 rfl rfl (Nat.le_of_ble_eq_true rfl) (by decide) (by decide) (by decide) ml_J0_492 im_yJ0_isLatin1_aae02 se_yJ0_isLatin1_aae02 hs (by decide) rfl rfl (fun v hX qX => ?_) (fun C h1 q => q.elim)
  obtain ⟨rfl, qX⟩ := qX
  rw [qX]
  clear qX hX
  refine zi_if_eq (tgt := 16) F dJ0_charAt_5068e_4 (by decide) (by first | omega | (dsimp only at *; omega)) (fun c4 => False.elim (by first | omega | (dsimp only at *; omega))) (fun c4 => ?_)
  refine z_aload_n F dJ0_charAt_5068e_7 rfl rfl ?_
  refine z_getfield F fl_J0_9 dJ0_charAt_5068e_8 hs (by decide) rfl ?_
  refine z_iload_n F dJ0_charAt_5068e_11 rfl rfl ?_
  refine z_callS F B cal_yJ1_charAt_3b067 (m_charAt1 hb hl hm hi) dJ0_charAt_5068e_12 rfl rfl (Nat.le_of_ble_eq_true rfl) (by decide) (by decide) (by decide) ml_J0_495 st_yJ1_charAt_3b067 (fun v hX qX => ?_) (fun C h1 q => q.elim)
  obtain ⟨rfl, qX⟩ := qX
  rw [qX]
  clear qX hX
  exact Z.widen (by decide) (by decide) (z_ireturn F (ch_nar (hl i hi)) B dJ0_charAt_5068e_15 ⟨rfl, rfl⟩)
theorem m_ordinal {i : Nat} (hi : i < 8) : zMet yJx29ce0_ordinal_8abf5 cJx29ce0_ordinal_8abf5 1 (some .int) 1 0 0 [.ref (1 + i)] h (fun v h' => v = some (.int (iI ((i : Int)))) ∧ h' = h) (fun _ _ => False) := by
  refine zMet.go (by decide +kernel) (Nat.le_of_ble_eq_true rfl) ?_
  intro X F B hnl hR hn
  refine z_aload_n F dJx29ce0_ordinal_8abf5_0 rfl rfl ?_
  refine z_getfieldR F (gr_ord i hi) dJx29ce0_ordinal_8abf5_1 ?_
  exact Z.widen (by decide) (by decide) (z_ireturn F rfl B dJx29ce0_ordinal_8abf5_4 ⟨rfl, rfl⟩)
end
