/-! leaf methods -/
def f_tide (m : Nat) : Nat := if 4 ≤ m % 12 ∧ m % 12 ≤ 7 then 2 else if 2 ≤ m % 12 ∧ m % 12 ≤ 9 then 1 else 0
theorem m_tideAt (m : Nat) (hm0 : m < 2 ^ 31) (h : zH) : zMet yX10_tideAt cX10_tideAt 2 (some .int) 1 0 0 [.int (nI m)] h (fun v h' => v = some (.int (nI (f_tide m))) ∧ h' = h) (fun _ _ => False) := by
  refine zMet.go (by decide +kernel) (Nat.le_of_ble_eq_true rfl) ?_
  intro X F B hnl hR hn
  have hr := zmod hm0 (d := 12) (by decide) (by decide)
  have h12 : m % 12 < 12 := Nat.mod_lt _ (by decide)
  have ht : (nI (m % 12)).toInt = ((m % 12 : Nat) : Int) := nI_toInt (by omega)
  refine z_iload_n F dX10_tideAt_0 rfl rfl ?_
  refine z_bipush (v := 12) F dX10_tideAt_1 (by decide) ?_
  refine z_irem F dX10_tideAt_3 (by decide) ?_
  rw [show (nI m - nI m / 12 * 12 : Int32) = nI (m % 12) from hr]
  refine z_istore_n F dX10_tideAt_4 rfl rfl (hnl _ rfl) ?_
  refine z_iload_n F dX10_tideAt_5 rfl rfl ?_
  refine z_iconst (v := 4) F dX10_tideAt_6 (by decide) ?_
  refine z_icmp_lt (tgt := 18) F dX10_tideAt_7 (by decide) (fun c7 => ?_) (fun c7 => ?_)
  · simp only [zlt, zle, ht, zn4, zn7, zn2, zn9] at c7
    refine z_iload_n F dX10_tideAt_18 rfl rfl ?_
    refine z_iconst (v := 2) F dX10_tideAt_19 (by decide) ?_
    refine z_icmp_lt (tgt := 33) F dX10_tideAt_20 (by decide) (fun c20 => ?_) (fun c20 => ?_)
    · simp only [zlt, zle, ht, zn4, zn7, zn2, zn9] at c20
      refine z_iconst (v := 0) F dX10_tideAt_33 (by decide) ?_
      exact z_ireturn F rfl B dX10_tideAt_34 ⟨by unfold f_tide; (repeat' split) <;> first | rfl | (exfalso; omega), rfl⟩
    · simp only [zlt, zle, ht, zn4, zn7, zn2, zn9] at c20
      refine z_iload_n F dX10_tideAt_23 rfl rfl ?_
      refine z_bipush (v := 9) F dX10_tideAt_24 (by decide) ?_
      refine z_icmp_gt (tgt := 33) F dX10_tideAt_26 (by decide) (fun c26 => ?_) (fun c26 => ?_)
      · simp only [zlt, zle, ht, zn4, zn7, zn2, zn9] at c26
        refine z_iconst (v := 0) F dX10_tideAt_33 (by decide) ?_
        exact z_ireturn F rfl B dX10_tideAt_34 ⟨by unfold f_tide; (repeat' split) <;> first | rfl | (exfalso; omega), rfl⟩
      · simp only [zlt, zle, ht, zn4, zn7, zn2, zn9] at c26
        refine z_iconst (v := 1) F dX10_tideAt_29 (by decide) ?_
        refine z_goto (tgt := 34) F dX10_tideAt_30 (by decide) ?_
        exact z_ireturn F rfl B dX10_tideAt_34 ⟨by unfold f_tide; (repeat' split) <;> first | rfl | (exfalso; omega), rfl⟩
  · simp only [zlt, zle, ht, zn4, zn7, zn2, zn9] at c7
    refine z_iload_n F dX10_tideAt_10 rfl rfl ?_
    refine z_bipush (v := 7) F dX10_tideAt_11 (by decide) ?_
    refine z_icmp_gt (tgt := 18) F dX10_tideAt_13 (by decide) (fun c13 => ?_) (fun c13 => ?_)
    · simp only [zlt, zle, ht, zn4, zn7, zn2, zn9] at c13
      refine z_iload_n F dX10_tideAt_18 rfl rfl ?_
      refine z_iconst (v := 2) F dX10_tideAt_19 (by decide) ?_
      refine z_icmp_lt (tgt := 33) F dX10_tideAt_20 (by decide) (fun c20 => ?_) (fun c20 => ?_)
      · simp only [zlt, zle, ht, zn4, zn7, zn2, zn9] at c20
        refine z_iconst (v := 0) F dX10_tideAt_33 (by decide) ?_
        exact z_ireturn F rfl B dX10_tideAt_34 ⟨by unfold f_tide; (repeat' split) <;> first | rfl | (exfalso; omega), rfl⟩
      · simp only [zlt, zle, ht, zn4, zn7, zn2, zn9] at c20
        refine z_iload_n F dX10_tideAt_23 rfl rfl ?_
        refine z_bipush (v := 9) F dX10_tideAt_24 (by decide) ?_
        refine z_icmp_gt (tgt := 33) F dX10_tideAt_26 (by decide) (fun c26 => ?_) (fun c26 => ?_)
        · simp only [zlt, zle, ht, zn4, zn7, zn2, zn9] at c26
          refine z_iconst (v := 0) F dX10_tideAt_33 (by decide) ?_
          exact z_ireturn F rfl B dX10_tideAt_34 ⟨by unfold f_tide; (repeat' split) <;> first | rfl | (exfalso; omega), rfl⟩
        · simp only [zlt, zle, ht, zn4, zn7, zn2, zn9] at c26
          refine z_iconst (v := 1) F dX10_tideAt_29 (by decide) ?_
          refine z_goto (tgt := 34) F dX10_tideAt_30 (by decide) ?_
          exact z_ireturn F rfl B dX10_tideAt_34 ⟨by unfold f_tide; (repeat' split) <;> first | rfl | (exfalso; omega), rfl⟩
    · simp only [zlt, zle, ht, zn4, zn7, zn2, zn9] at c13
      refine z_iconst (v := 2) F dX10_tideAt_16 (by decide) ?_
      exact z_ireturn F rfl B dX10_tideAt_17 ⟨by unfold f_tide; (repeat' split) <;> first | rfl | (exfalso; omega), rfl⟩
theorem m_isCell (x y : Int32) (h : zH) : zMet yX10_isCell cX10_isCell 2 (some .boolean) 1 0 0 [.int x, .int y] h (fun v h' => v = some (.int (if zisC x && zisC y then 1 else 0)) ∧ h' = h) (fun _ _ => False) := by
  refine zMet.go (by decide +kernel) (Nat.le_of_ble_eq_true rfl) ?_
  intro X F B hnl hR hn
  refine z_iload_n F dX10_isCell_0 rfl rfl ?_
  refine z_if_lt (tgt := 24) F dX10_isCell_1 (by decide) (fun c1 => ?_) (fun c1 => ?_)
  · simp only [zlt, zle, zn0, zn8] at c1
    refine z_iconst (v := 0) F dX10_isCell_24 (by decide) ?_
    exact z_ireturn F rfl B dX10_isCell_25 ⟨by unfold zisC; split <;> rename_i hq <;> simp only [Bool.and_eq_true, decide_eq_true_eq] at hq <;> first | rfl | (exfalso; omega), rfl⟩
  · simp only [zlt, zle, zn0, zn8] at c1
    refine z_iload_n F dX10_isCell_4 rfl rfl ?_
    refine z_bipush (v := 8) F dX10_isCell_5 (by decide) ?_
    refine z_icmp_ge (tgt := 24) F dX10_isCell_7 (by decide) (fun c7 => ?_) (fun c7 => ?_)
    · simp only [zlt, zle, zn0, zn8] at c7
      refine z_iconst (v := 0) F dX10_isCell_24 (by decide) ?_
      exact z_ireturn F rfl B dX10_isCell_25 ⟨by unfold zisC; split <;> rename_i hq <;> simp only [Bool.and_eq_true, decide_eq_true_eq] at hq <;> first | rfl | (exfalso; omega), rfl⟩
    · simp only [zlt, zle, zn0, zn8] at c7
      refine z_iload_n F dX10_isCell_10 rfl rfl ?_
      refine z_if_lt (tgt := 24) F dX10_isCell_11 (by decide) (fun c11 => ?_) (fun c11 => ?_)
      · simp only [zlt, zle, zn0, zn8] at c11
        refine z_iconst (v := 0) F dX10_isCell_24 (by decide) ?_
        exact z_ireturn F rfl B dX10_isCell_25 ⟨by unfold zisC; split <;> rename_i hq <;> simp only [Bool.and_eq_true, decide_eq_true_eq] at hq <;> first | rfl | (exfalso; omega), rfl⟩
      · simp only [zlt, zle, zn0, zn8] at c11
        refine z_iload_n F dX10_isCell_14 rfl rfl ?_
        refine z_bipush (v := 8) F dX10_isCell_15 (by decide) ?_
        refine z_icmp_ge (tgt := 24) F dX10_isCell_17 (by decide) (fun c17 => ?_) (fun c17 => ?_)
        · simp only [zlt, zle, zn0, zn8] at c17
          refine z_iconst (v := 0) F dX10_isCell_24 (by decide) ?_
          exact z_ireturn F rfl B dX10_isCell_25 ⟨by unfold zisC; split <;> rename_i hq <;> simp only [Bool.and_eq_true, decide_eq_true_eq] at hq <;> first | rfl | (exfalso; omega), rfl⟩
        · simp only [zlt, zle, zn0, zn8] at c17
          refine z_iconst (v := 1) F dX10_isCell_20 (by decide) ?_
          refine z_goto (tgt := 25) F dX10_isCell_21 (by decide) ?_
          exact z_ireturn F rfl B dX10_isCell_25 ⟨by unfold zisC; split <;> rename_i hq <;> simp only [Bool.and_eq_true, decide_eq_true_eq] at hq <;> first | rfl | (exfalso; omega), rfl⟩
theorem m_columnIn (m : Nat) (hm0 : m < 2 ^ 31) (h : zH) : zMet yX10_columnIn cX10_columnIn 1 (some .int) 1 0 0 [.int (nI m)] h (fun v h' => v = some (.int (nI (m % 8))) ∧ h' = h) (fun _ _ => False) := by
  refine zMet.go (by decide +kernel) (Nat.le_of_ble_eq_true rfl) ?_
  intro X F B hnl hR hn
  refine z_iload_n F dX10_columnIn_0 rfl rfl ?_
  refine z_bipush (v := 8) F dX10_columnIn_1 (by decide) ?_
  refine z_irem F dX10_columnIn_3 (by decide) ?_
  exact z_ireturn F rfl B dX10_columnIn_4 ⟨congrArg (fun q => some (Value.int q)) (zmod hm0 (d := 8) (by decide) (by decide)), rfl⟩
theorem m_rowIn (m : Nat) (hm0 : m < 2 ^ 31) (h : zH) : zMet yX10_rowIn cX10_rowIn 1 (some .int) 1 0 0 [.int (nI m)] h (fun v h' => v = some (.int (nI (m / 8))) ∧ h' = h) (fun _ _ => False) := by
  refine zMet.go (by decide +kernel) (Nat.le_of_ble_eq_true rfl) ?_
  intro X F B hnl hR hn
  refine z_iload_n F dX10_rowIn_0 rfl rfl ?_
  refine z_bipush (v := 8) F dX10_rowIn_1 (by decide) ?_
  refine z_idiv F dX10_rowIn_3 (by decide) ?_
  exact z_ireturn F rfl B dX10_rowIn_4 ⟨congrArg (fun q => some (Value.int q)) (pk_div hm0 (d := 8) (by decide) (by decide)), rfl⟩
