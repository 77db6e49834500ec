/-! reads of a coast -/
theorem zIx {X : Sort _} {i : Int32} {n : Nat} (e : i = nI n) (hn : n < 2 ^ 31) : i.toNatClampNeg = n := by rw [e, nI_clamp hn]
theorem zdI {x : Int32} (h0 : ¬ x < 0) : ∃ n, n < 2 ^ 31 ∧ x = nI n := nI_of h0
def zNb (c d : Nat) : Option Nat := match d with
  | 0 => if c + 8 < 64 then some (c + 8) else none
  | 1 => if c % 8 < 7 then some (c + 1) else none
  | 2 => if 8 ≤ c then some (c - 8) else none
  | _ => if 0 < c % 8 then some (c - 1) else none
theorem zNb_lt {c d e : Nat} (hc : c < 64) (h : zNb c d = some e) : e < 64 := by
  unfold zNb at h
  split at h <;> split at h <;> simp at h <;> omega
theorem m_neighbour (c d : Nat) (hc : c < 64) (hd : d < 4) (h : zH) : zMet yX10_neighbour cX10_neighbour 2 (some .int) 1 0 0 [.int (nI c), .int (nI d)] h (fun v h' => v = some (.int (zGo (zNb c d))) ∧ h' = h) (fun _ _ => False) := by
  refine zMet.go (by decide +kernel) (Nat.le_of_ble_eq_true rfl) ?_
  intro X F B hnl hR hn
  have hr := zmod (m := c) (d := 8) (by omega) (by decide) (by decide)
  have h8 : (nI (c % 8)).toInt = ((c % 8 : Nat) : Int) := nI_toInt (by omega)
  have hct : (nI c).toInt = (c : Int) := nI_toInt (by omega)
  have hc8 : (nI c + 8 : Int32) = nI (c + 8) := nI_add c 8
  have hc8t : (nI (c + 8)).toInt = ((c + 8 : Nat) : Int) := nI_toInt (by omega)
  have hc1 : (nI c + 1 : Int32) = nI (c + 1) := nI_add c 1
  rcases (show d = 0 ∨ d = 1 ∨ d = 2 ∨ d = 3 by omega) with rfl | rfl | rfl | rfl
  · refine z_iload_n F dX10_neighbour_0 rfl rfl ?_
    refine z_tableIn (tgt := 28) F dX10_neighbour_1 (by decide) (by decide) rfl (by decide) ?_
    refine z_iload_n F dX10_neighbour_28 rfl rfl ?_
    refine z_bipush (v := 8) F dX10_neighbour_29 (by decide) ?_
    refine z_iadd F dX10_neighbour_31 ?_
    refine z_bipush (v := 64) F dX10_neighbour_32 (by decide) ?_
    refine z_icmp_ge (tgt := 44) F dX10_neighbour_34 (by decide) (fun c34 => ?_) (fun c34 => ?_)
    · simp only [zlt, zle, hc8, hc8t, zn64] at c34
      refine z_iconst (v := (-1)) F dX10_neighbour_44 (by decide) ?_
      exact z_ireturn F rfl B dX10_neighbour_45 ⟨by simp only [zNb, hc8]; split <;> first | rfl | (exfalso; omega), rfl⟩
    · simp only [zlt, zle, hc8, hc8t, zn64] at c34
      refine z_iload_n F dX10_neighbour_37 rfl rfl ?_
      refine z_bipush (v := 8) F dX10_neighbour_38 (by decide) ?_
      refine z_iadd F dX10_neighbour_40 ?_
      refine z_goto (tgt := 45) F dX10_neighbour_41 (by decide) ?_
      exact z_ireturn F rfl B dX10_neighbour_45 ⟨by simp only [zNb, hc8]; split <;> first | rfl | (exfalso; omega), rfl⟩
  · refine z_iload_n F dX10_neighbour_0 rfl rfl ?_
    refine z_tableIn (tgt := 46) F dX10_neighbour_1 (by decide) (by decide) rfl (by decide) ?_
    refine z_iload_n F dX10_neighbour_46 rfl rfl ?_
    refine z_bipush (v := 8) F dX10_neighbour_47 (by decide) ?_
    refine z_irem F dX10_neighbour_49 (by decide) ?_
    rw [show (nI c - nI c / 8 * 8 : Int32) = nI (c % 8) from hr]
    refine z_bipush (v := 7) F dX10_neighbour_50 (by decide) ?_
    refine z_icmp_ge (tgt := 61) F dX10_neighbour_52 (by decide) (fun c52 => ?_) (fun c52 => ?_)
    · simp only [zlt, zle, h8, zn7] at c52
      refine z_iconst (v := (-1)) F dX10_neighbour_61 (by decide) ?_
      exact z_ireturn F rfl B dX10_neighbour_62 ⟨by simp only [zNb, hc1]; split <;> first | rfl | (exfalso; omega), rfl⟩
    · simp only [zlt, zle, h8, zn7] at c52
      refine z_iload_n F dX10_neighbour_55 rfl rfl ?_
      refine z_iconst (v := 1) F dX10_neighbour_56 (by decide) ?_
      refine z_iadd F dX10_neighbour_57 ?_
      refine z_goto (tgt := 62) F dX10_neighbour_58 (by decide) ?_
      exact z_ireturn F rfl B dX10_neighbour_62 ⟨by simp only [zNb, hc1]; split <;> first | rfl | (exfalso; omega), rfl⟩
  · refine z_iload_n F dX10_neighbour_0 rfl rfl ?_
    refine z_tableIn (tgt := 63) F dX10_neighbour_1 (by decide) (by decide) rfl (by decide) ?_
    refine z_iload_n F dX10_neighbour_63 rfl rfl ?_
    refine z_bipush (v := 8) F dX10_neighbour_64 (by decide) ?_
    refine z_icmp_lt (tgt := 76) F dX10_neighbour_66 (by decide) (fun c66 => ?_) (fun c66 => ?_)
    · simp only [zlt, zle, hct, zn8] at c66
      refine z_iconst (v := (-1)) F dX10_neighbour_76 (by decide) ?_
      exact z_ireturn F rfl B dX10_neighbour_77 ⟨by simp only [zNb]; split <;> first | rfl | (exfalso; omega) | exact congrArg (fun q => some (Value.int q)) (pk_sub (b := 8) (by omega)), rfl⟩
    · simp only [zlt, zle, hct, zn8] at c66
      refine z_iload_n F dX10_neighbour_69 rfl rfl ?_
      refine z_bipush (v := 8) F dX10_neighbour_70 (by decide) ?_
      refine z_isub F dX10_neighbour_72 ?_
      refine z_goto (tgt := 77) F dX10_neighbour_73 (by decide) ?_
      exact z_ireturn F rfl B dX10_neighbour_77 ⟨by simp only [zNb]; split <;> first | rfl | (exfalso; omega) | exact congrArg (fun q => some (Value.int q)) (pk_sub (b := 8) (by omega)), rfl⟩
  · refine z_iload_n F dX10_neighbour_0 rfl rfl ?_
    refine z_tableOut (tgt := 78) F dX10_neighbour_1 (by decide) (by decide) ?_
    refine z_iload_n F dX10_neighbour_78 rfl rfl ?_
    refine z_bipush (v := 8) F dX10_neighbour_79 (by decide) ?_
    refine z_irem F dX10_neighbour_81 (by decide) ?_
    rw [show (nI c - nI c / 8 * 8 : Int32) = nI (c % 8) from hr]
    refine z_if_le (tgt := 91) F dX10_neighbour_82 (by decide) (fun c82 => ?_) (fun c82 => ?_)
    · simp only [zlt, zle, h8, zn0] at c82
      refine z_iconst (v := (-1)) F dX10_neighbour_91 (by decide) ?_
      exact z_ireturn F rfl B dX10_neighbour_92 ⟨by simp only [zNb]; split <;> first | rfl | (exfalso; omega) | exact congrArg (fun q => some (Value.int q)) (pk_sub (b := 1) (by omega)), rfl⟩
    · simp only [zlt, zle, h8, zn0] at c82
      refine z_iload_n F dX10_neighbour_85 rfl rfl ?_
      refine z_iconst (v := 1) F dX10_neighbour_86 (by decide) ?_
      refine z_isub F dX10_neighbour_87 ?_
      refine z_goto (tgt := 92) F dX10_neighbour_88 (by decide) ?_
      exact z_ireturn F rfl B dX10_neighbour_92 ⟨by simp only [zNb]; split <;> first | rfl | (exfalso; omega) | exact congrArg (fun q => some (Value.int q)) (pk_sub (b := 1) (by omega)), rfl⟩
theorem m_existingCell (x y : Int32) (h : zH) : zMet yX10_existingCell cX10_existingCell 2 (some .int) 8 1 6 [.int x, .int y] h (fun v h' => ∃ c r, c < 8 ∧ r < 8 ∧ x = nI c ∧ y = nI r ∧ v = some (.int (nI (8 * r + c))) ∧ h' = h) (fun C h' => C = "java/lang/IndexOutOfBoundsException" ∧ (zisC x && zisC y) = false ∧ ∃ j, h' = h ++ List.replicate j (98, [])) := by
  refine zMet.go (by decide +kernel) (Nat.le_of_ble_eq_true rfl) ?_
  intro X F B hnl hR hn
  refine z_iload_n F dX10_existingCell_0 rfl rfl ?_
  refine z_iload_n F dX10_existingCell_1 rfl rfl ?_
  refine z_callS F B cal_yX10_isCell (m_isCell x y h) dX10_existingCell_2 rfl rfl (by decide) (by decide) (by decide) (by decide) ml_X10_410 st_yX10_isCell (fun v h1 q => ?_) (fun C h1 q => q.elim)
  obtain ⟨rfl, rfl⟩ := q
  by_cases hv : (zisC x && zisC y) = true
  · rw [if_pos hv]; refine z_if_ne (tgt := 19) F dX10_existingCell_5 (by decide) (fun c5 => ?_) (fun c5 => absurd c5 (by decide))
    obtain ⟨c, hc, rfl⟩ := zisC_nI (Bool.and_eq_true_iff.mp hv).1
    obtain ⟨r, hr, rfl⟩ := zisC_nI (Bool.and_eq_true_iff.mp hv).2
    refine z_iload_n F dX10_existingCell_19 rfl rfl ?_
    refine z_bipush (v := 8) F dX10_existingCell_20 (by decide) ?_
    refine z_imul F dX10_existingCell_22 ?_
    refine z_iload_n F dX10_existingCell_23 rfl rfl ?_
    refine z_iadd F dX10_existingCell_24 ?_
    refine Z.widen (k' := 1) (n' := 6) (by decide) (by decide) ?_
    exact z_ireturn F rfl B dX10_existingCell_25 ⟨c, r, hc, hr, rfl, rfl, by rw [show (nI r * 8 + nI c : Int32) = nI (8 * r + c) from by rw [show (8 : Int32) = nI 8 from rfl, pk_mul, nI_add, Nat.mul_comm]], rfl⟩
  · rw [if_neg hv]
    refine z_if_ne (tgt := 19) F dX10_existingCell_5 (by decide) (fun c5 => absurd rfl c5) (fun c5 => ?_)
    exact z_throwSW F B thr_X10_357_474_361 dX10_existingCell_8 dX10_existingCell_11 dX10_existingCell_12 dX10_existingCell_15 dX10_existingCell_18 (by decide) (by decide) (by decide) (by decide) (fun j => ⟨rfl, by simpa using hv, j, rfl⟩)
def zdA (C : zCo) (c : Int32) : Nat := if 0 ≤ c.toInt ∧ c.toInt < 64 then C.1 c.toInt.toNat else 0
theorem m_depthOf {b : Nat} {σ τ : Nat → Nat} {C : zCo} {h : zH} (hb : zNR ≤ b) (R : zRepC b σ τ C h) (c : Int32) : zMet yX2_depthOf cX2_depthOf 2 (some .int) 1 0 0 [.ref b, .int c] h (fun v h' => v = some (.int (nI (zdA C c))) ∧ h' = h) (fun _ _ => False) := by
  refine zMet.go (by decide +kernel) (Nat.le_of_ble_eq_true rfl) ?_
  intro X F B hnl hR hn
  obtain ⟨h1, h2, -⟩ := R
  refine z_iload_n F dX2_depthOf_0 rfl rfl ?_
  refine z_if_lt (tgt := 19) F dX2_depthOf_1 (by decide) (fun c1 => ?_) (fun c1 => ?_)
  · simp only [zlt, zle, zn0, zn64] at c1
    refine z_iconst (v := 0) F dX2_depthOf_19 (by decide) ?_
    exact z_ireturn F rfl B dX2_depthOf_20 ⟨by unfold zdA; split <;> first | rfl | (exfalso; omega), rfl⟩
  · simp only [zlt, zle, zn0, zn64] at c1
    refine z_iload_n F dX2_depthOf_4 rfl rfl ?_
    refine z_bipush (v := 64) F dX2_depthOf_5 (by decide) ?_
    refine z_icmp_ge (tgt := 19) F dX2_depthOf_7 (by decide) (fun c7 => ?_) (fun c7 => ?_)
    · simp only [zlt, zle, zn0, zn64] at c7
      refine z_iconst (v := 0) F dX2_depthOf_19 (by decide) ?_
      exact z_ireturn F rfl B dX2_depthOf_20 ⟨by unfold zdA; split <;> first | rfl | (exfalso; omega), rfl⟩
    · simp only [zlt, zle, zn0, zn64] at c7
      have ha : 0 ≤ c.toInt ∧ c.toInt < 64 := by omega
      have hk := znat ha.1
      have hv : (zar 64 (fun c => Value.int (nI (C.1 c))))[c.toNatClampNeg]? = some (.int (nI (C.1 c.toInt.toNat))) := by rw [zIx (X := True) hk (by omega)]; exact zar_get (by omega)
      refine z_aload_n F dX2_depthOf_10 rfl rfl ?_
      refine z_getfield F fl_X2_9 dX2_depthOf_11 (by assumption) (by decide) rfl ?_
      refine z_iload_n F dX2_depthOf_14 rfl rfl ?_
      refine z_iaload F dX2_depthOf_15 (by assumption) (by rw [zlt, zn0]; omega) (by assumption) ?_
      refine z_goto (tgt := 20) F dX2_depthOf_16 (by decide) ?_
      exact z_ireturn F rfl B dX2_depthOf_20 ⟨by unfold zdA; split <;> first | rfl | (exfalso; omega), rfl⟩
