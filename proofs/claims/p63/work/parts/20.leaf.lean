/-! leaf methods -/
def f_tide (m : Nat) : Nat := if 4 ≤ m % 12 ∧ m % 12 ≤ 7 then 2 else if 2 ≤ m % 12 ∧ m % 12 ≤ 9 then 1 else 0
theorem f_tide_le (m : Nat) : f_tide m ≤ 2 := by unfold f_tide; (repeat' split) <;> omega
theorem vInt {a b : Int} (h : a = b) : some (Value.int (iI a)) = some (Value.int (iI b)) := by rw [h]
theorem m_tideAt (m : Nat) (hm0 : m < 2147483648) (h : zH) : zMet yX10_tideAt cX10_tideAt 2 (some .int) 1 0 0 [.int (iI m)] h (fun v h' => v = some (.int (iI (f_tide m))) ∧ h' = h) (fun _ _ => False) := by
  refine zMet.go (by decide +kernel) (Nat.le_of_ble_eq_true rfl) ?_
  intro X F B hnl hR hn
  refine z_iload_n F dX10_tideAt_0 rfl rfl ?_
  refine zi_bipush F dX10_tideAt_1 (by decide) ?_
  refine zi_irem F dX10_tideAt_3 (by omega) ?_
  refine z_istore_n F dX10_tideAt_4 rfl rfl (hnl _ rfl) ?_
  refine z_iload_n F dX10_tideAt_5 rfl rfl ?_
  refine zi_iconst F dX10_tideAt_6 ?_
  refine zi_icmp_lt (tgt := 18) F dX10_tideAt_7 (by decide) (by omega) (fun c7 => ?_) (fun c7 => ?_)
  · refine z_iload_n F dX10_tideAt_18 rfl rfl ?_
    refine zi_iconst F dX10_tideAt_19 ?_
    refine zi_icmp_lt (tgt := 33) F dX10_tideAt_20 (by decide) (by omega) (fun c20 => ?_) (fun c20 => ?_)
    · refine zi_iconst F dX10_tideAt_33 ?_
      exact z_ireturn F rfl B dX10_tideAt_34 ⟨vInt (by unfold f_tide; (repeat' split) <;> omega), rfl⟩
    · refine z_iload_n F dX10_tideAt_23 rfl rfl ?_
      refine zi_bipush F dX10_tideAt_24 (by decide) ?_
      refine zi_icmp_gt (tgt := 33) F dX10_tideAt_26 (by decide) (by omega) (fun c26 => ?_) (fun c26 => ?_)
      · refine zi_iconst F dX10_tideAt_33 ?_
        exact z_ireturn F rfl B dX10_tideAt_34 ⟨vInt (by unfold f_tide; (repeat' split) <;> omega), rfl⟩
      · refine zi_iconst F dX10_tideAt_29 ?_
        refine z_goto (tgt := 34) F dX10_tideAt_30 (by decide) ?_
        exact z_ireturn F rfl B dX10_tideAt_34 ⟨vInt (by unfold f_tide; (repeat' split) <;> omega), rfl⟩
  · refine z_iload_n F dX10_tideAt_10 rfl rfl ?_
    refine zi_bipush F dX10_tideAt_11 (by decide) ?_
    refine zi_icmp_gt (tgt := 18) F dX10_tideAt_13 (by decide) (by omega) (fun c13 => ?_) (fun c13 => ?_)
    · refine z_iload_n F dX10_tideAt_18 rfl rfl ?_
      refine zi_iconst F dX10_tideAt_19 ?_
      refine zi_icmp_lt (tgt := 33) F dX10_tideAt_20 (by decide) (by omega) (fun c20 => ?_) (fun c20 => ?_)
      · refine zi_iconst F dX10_tideAt_33 ?_
        exact z_ireturn F rfl B dX10_tideAt_34 ⟨vInt (by unfold f_tide; (repeat' split) <;> omega), rfl⟩
      · refine z_iload_n F dX10_tideAt_23 rfl rfl ?_
        refine zi_bipush F dX10_tideAt_24 (by decide) ?_
        refine zi_icmp_gt (tgt := 33) F dX10_tideAt_26 (by decide) (by omega) (fun c26 => ?_) (fun c26 => ?_)
        · refine zi_iconst F dX10_tideAt_33 ?_
          exact z_ireturn F rfl B dX10_tideAt_34 ⟨vInt (by unfold f_tide; (repeat' split) <;> omega), rfl⟩
        · refine zi_iconst F dX10_tideAt_29 ?_
          refine z_goto (tgt := 34) F dX10_tideAt_30 (by decide) ?_
          exact z_ireturn F rfl B dX10_tideAt_34 ⟨vInt (by unfold f_tide; (repeat' split) <;> omega), rfl⟩
    · refine zi_iconst F dX10_tideAt_16 ?_
      exact z_ireturn F rfl B dX10_tideAt_17 ⟨vInt (by unfold f_tide; (repeat' split) <;> omega), rfl⟩
theorem m_isCell {x y : Int} (hx : -2147483648 ≤ x ∧ x < 2147483648) (hy : -2147483648 ≤ y ∧ y < 2147483648) (h : zH) : zMet yX10_isCell cX10_isCell 2 (some .boolean) 1 0 0 [.int (iI x), .int (iI y)] h (fun v h' => v = some (.int (iI (if 0 ≤ x ∧ x < 8 ∧ 0 ≤ y ∧ y < 8 then 1 else 0))) ∧ h' = h) (fun _ _ => False) := by
  refine zMet.go (by decide +kernel) (Nat.le_of_ble_eq_true rfl) ?_
  intro X F B hnl hR hn
  refine z_iload_n F dX10_isCell_0 rfl rfl ?_
  refine zi_if_lt (tgt := 24) F dX10_isCell_1 (by decide) (by omega) (fun c1 => ?_) (fun c1 => ?_)
  · refine zi_iconst F dX10_isCell_24 ?_
    exact z_ireturn F rfl B dX10_isCell_25 ⟨vInt (by split <;> omega), rfl⟩
  · refine z_iload_n F dX10_isCell_4 rfl rfl ?_
    refine zi_bipush F dX10_isCell_5 (by decide) ?_
    refine zi_icmp_ge (tgt := 24) F dX10_isCell_7 (by decide) (by omega) (fun c7 => ?_) (fun c7 => ?_)
    · refine zi_iconst F dX10_isCell_24 ?_
      exact z_ireturn F rfl B dX10_isCell_25 ⟨vInt (by split <;> omega), rfl⟩
    · refine z_iload_n F dX10_isCell_10 rfl rfl ?_
      refine zi_if_lt (tgt := 24) F dX10_isCell_11 (by decide) (by omega) (fun c11 => ?_) (fun c11 => ?_)
      · refine zi_iconst F dX10_isCell_24 ?_
        exact z_ireturn F rfl B dX10_isCell_25 ⟨vInt (by split <;> omega), rfl⟩
      · refine z_iload_n F dX10_isCell_14 rfl rfl ?_
        refine zi_bipush F dX10_isCell_15 (by decide) ?_
        refine zi_icmp_ge (tgt := 24) F dX10_isCell_17 (by decide) (by omega) (fun c17 => ?_) (fun c17 => ?_)
        · refine zi_iconst F dX10_isCell_24 ?_
          exact z_ireturn F rfl B dX10_isCell_25 ⟨vInt (by split <;> omega), rfl⟩
        · refine zi_iconst F dX10_isCell_20 ?_
          refine z_goto (tgt := 25) F dX10_isCell_21 (by decide) ?_
          exact z_ireturn F rfl B dX10_isCell_25 ⟨vInt (by split <;> omega), rfl⟩
theorem m_columnIn {m : Int} (hm0 : 0 ≤ m ∧ m < 2147483648) (h : zH) : zMet yX10_columnIn cX10_columnIn 1 (some .int) 1 0 0 [.int (iI m)] h (fun v h' => v = some (.int (iI (m % 8))) ∧ h' = h) (fun _ _ => False) := by
  refine zMet.go (by decide +kernel) (Nat.le_of_ble_eq_true rfl) ?_
  intro X F B hnl hR hn
  refine z_iload_n F dX10_columnIn_0 rfl rfl ?_
  refine zi_bipush F dX10_columnIn_1 (by decide) ?_
  refine zi_irem F dX10_columnIn_3 (by omega) ?_
  exact z_ireturn F rfl B dX10_columnIn_4 ⟨rfl, rfl⟩
theorem m_rowIn {m : Int} (hm0 : 0 ≤ m ∧ m < 2147483648) (h : zH) : zMet yX10_rowIn cX10_rowIn 1 (some .int) 1 0 0 [.int (iI m)] h (fun v h' => v = some (.int (iI (m / 8))) ∧ h' = h) (fun _ _ => False) := by
  refine zMet.go (by decide +kernel) (Nat.le_of_ble_eq_true rfl) ?_
  intro X F B hnl hR hn
  refine z_iload_n F dX10_rowIn_0 rfl rfl ?_
  refine zi_bipush F dX10_rowIn_1 (by decide) ?_
  refine zi_idiv F dX10_rowIn_3 (by omega) ?_
  exact z_ireturn F rfl B dX10_rowIn_4 ⟨rfl, rfl⟩
def zNb (c d : Nat) : Option Nat := match d with
  | 0 => if c + 8 < 64 then some (c + 8) else none
  | 1 => if c % 8 < 7 then some (c + 1) else none
  | 2 => if 8 ≤ c then some (c - 8) else none
  | _ => if 0 < c % 8 then some (c - 1) else none
theorem zNb_lt {c d e : Nat} (hc : c < 64) (h : zNb c d = some e) : e < 64 := by
  unfold zNb at h
  split at h <;> split at h <;> simp at h <;> omega
theorem zGo_b {o : Option Nat} (h : ∀ c, o = some c → c < 64) : -1 ≤ zGo o ∧ zGo o < 64 := by
  cases o with
  | none => decide
  | some c => have := h c rfl; simp only [zGo]; omega
theorem m_neighbour {c d : Nat} (hc : c < 64) (hd : d < 4) (h : zH) : zMet yX10_neighbour cX10_neighbour 2 (some .int) 1 0 0 [.int (iI c), .int (iI d)] h (fun v h' => v = some (.int (iI (zGo (zNb c d)))) ∧ h' = h) (fun _ _ => False) := by
  refine zMet.go (by decide +kernel) (Nat.le_of_ble_eq_true rfl) ?_
  intro X F B hnl hR hn
  rcases (show d = 0 ∨ d = 1 ∨ d = 2 ∨ d = 3 by omega) with rfl | rfl | rfl | rfl
  · refine z_iload_n F dX10_neighbour_0 rfl rfl ?_
    refine z_tableIn (tgt := 28) F dX10_neighbour_1 (by decide) (by decide) rfl (by decide) ?_
    refine z_iload_n F dX10_neighbour_28 rfl rfl ?_
    refine zi_bipush F dX10_neighbour_29 (by decide) ?_
    refine zi_iadd F dX10_neighbour_31 ?_
    refine zi_bipush F dX10_neighbour_32 (by decide) ?_
    refine zi_icmp_ge (tgt := 44) F dX10_neighbour_34 (by decide) (by omega) (fun c34 => ?_) (fun c34 => ?_)
    · refine zi_iconst F dX10_neighbour_44 ?_
      exact z_ireturn F rfl B dX10_neighbour_45 ⟨vInt (by simp only [zNb]; split <;> simp only [zGo] <;> omega), rfl⟩
    · refine z_iload_n F dX10_neighbour_37 rfl rfl ?_
      refine zi_bipush F dX10_neighbour_38 (by decide) ?_
      refine zi_iadd F dX10_neighbour_40 ?_
      refine z_goto (tgt := 45) F dX10_neighbour_41 (by decide) ?_
      exact z_ireturn F rfl B dX10_neighbour_45 ⟨vInt (by simp only [zNb]; split <;> simp only [zGo] <;> omega), rfl⟩
  · refine z_iload_n F dX10_neighbour_0 rfl rfl ?_
    refine z_tableIn (tgt := 46) F dX10_neighbour_1 (by decide) (by decide) rfl (by decide) ?_
    refine z_iload_n F dX10_neighbour_46 rfl rfl ?_
    refine zi_bipush F dX10_neighbour_47 (by decide) ?_
    refine zi_irem F dX10_neighbour_49 (by omega) ?_
    refine zi_bipush F dX10_neighbour_50 (by decide) ?_
    refine zi_icmp_ge (tgt := 61) F dX10_neighbour_52 (by decide) (by omega) (fun c52 => ?_) (fun c52 => ?_)
    · refine zi_iconst F dX10_neighbour_61 ?_
      exact z_ireturn F rfl B dX10_neighbour_62 ⟨vInt (by simp only [zNb]; split <;> simp only [zGo] <;> omega), rfl⟩
    · refine z_iload_n F dX10_neighbour_55 rfl rfl ?_
      refine zi_iconst F dX10_neighbour_56 ?_
      refine zi_iadd F dX10_neighbour_57 ?_
      refine z_goto (tgt := 62) F dX10_neighbour_58 (by decide) ?_
      exact z_ireturn F rfl B dX10_neighbour_62 ⟨vInt (by simp only [zNb]; split <;> simp only [zGo] <;> omega), rfl⟩
  · refine z_iload_n F dX10_neighbour_0 rfl rfl ?_
    refine z_tableIn (tgt := 63) F dX10_neighbour_1 (by decide) (by decide) rfl (by decide) ?_
    refine z_iload_n F dX10_neighbour_63 rfl rfl ?_
    refine zi_bipush F dX10_neighbour_64 (by decide) ?_
    refine zi_icmp_lt (tgt := 76) F dX10_neighbour_66 (by decide) (by omega) (fun c66 => ?_) (fun c66 => ?_)
    · refine zi_iconst F dX10_neighbour_76 ?_
      exact z_ireturn F rfl B dX10_neighbour_77 ⟨vInt (by simp only [zNb]; split <;> simp only [zGo] <;> omega), rfl⟩
    · refine z_iload_n F dX10_neighbour_69 rfl rfl ?_
      refine zi_bipush F dX10_neighbour_70 (by decide) ?_
      refine zi_isub F dX10_neighbour_72 ?_
      refine z_goto (tgt := 77) F dX10_neighbour_73 (by decide) ?_
      exact z_ireturn F rfl B dX10_neighbour_77 ⟨vInt (by simp only [zNb]; split <;> simp only [zGo] <;> omega), rfl⟩
  · refine z_iload_n F dX10_neighbour_0 rfl rfl ?_
    refine z_tableOut (tgt := 78) F dX10_neighbour_1 (by decide) (by decide) ?_
    refine z_iload_n F dX10_neighbour_78 rfl rfl ?_
    refine zi_bipush F dX10_neighbour_79 (by decide) ?_
    refine zi_irem F dX10_neighbour_81 (by omega) ?_
    refine zi_if_le (tgt := 91) F dX10_neighbour_82 (by decide) (by omega) (fun c82 => ?_) (fun c82 => ?_)
    · refine zi_iconst F dX10_neighbour_91 ?_
      exact z_ireturn F rfl B dX10_neighbour_92 ⟨vInt (by simp only [zNb]; split <;> simp only [zGo] <;> omega), rfl⟩
    · refine z_iload_n F dX10_neighbour_85 rfl rfl ?_
      refine zi_iconst F dX10_neighbour_86 ?_
      refine zi_isub F dX10_neighbour_87 ?_
      refine z_goto (tgt := 92) F dX10_neighbour_88 (by decide) ?_
      exact z_ireturn F rfl B dX10_neighbour_92 ⟨vInt (by simp only [zNb]; split <;> simp only [zGo] <;> omega), rfl⟩
/-- thrown: an object of this class, one cell more -/
def zThn (cls : String) (h : zH) (C : String) (h' : zH) : Prop := C = cls ∧ ∃ j : Nat, h' = h ++ List.replicate j (98, [])
theorem m_existingCell {x y : Int} (hx : -2147483648 ≤ x ∧ x < 2147483648) (hy : -2147483648 ≤ y ∧ y < 2147483648) (h : zH) : zMet yX10_existingCell cX10_existingCell 2 (some .int) 8 1 6 [.int (iI x), .int (iI y)] h (fun v h' => (0 ≤ x ∧ x < 8 ∧ 0 ≤ y ∧ y < 8) ∧ v = some (.int (iI (8 * y + x))) ∧ h' = h) (fun C h' => ¬ (0 ≤ x ∧ x < 8 ∧ 0 ≤ y ∧ y < 8) ∧ zThn "java/lang/IndexOutOfBoundsException" h C h') := by
  refine zMet.go (by decide +kernel) (Nat.le_of_ble_eq_true rfl) ?_
  intro X F B hnl hR hn
  by_cases hv : 0 ≤ x ∧ x < 8 ∧ 0 ≤ y ∧ y < 8
  · refine z_iload_n F dX10_existingCell_0 rfl rfl ?_
    refine z_iload_n F dX10_existingCell_1 rfl rfl ?_
    refine z_callS F B cal_yX10_isCell (m_isCell hx hy h) dX10_existingCell_2 rfl rfl (Nat.le_of_ble_eq_true rfl) (by decide) (by decide) (by decide) ml_X10_410 st_yX10_isCell (fun v h1 q => ?_) (fun C h1 q => q.elim)
    obtain ⟨rfl, rfl⟩ := q
    rw [if_pos hv]
    refine zi_if_ne (tgt := 19) F dX10_existingCell_5 (by decide) (by omega) (fun c5 => ?_) (fun c5 => False.elim (by omega))
    refine z_iload_n F dX10_existingCell_19 rfl rfl ?_
    refine zi_bipush F dX10_existingCell_20 (by decide) ?_
    refine zi_imul F dX10_existingCell_22 ?_
    refine z_iload_n F dX10_existingCell_23 rfl rfl ?_
    refine zi_iadd F dX10_existingCell_24 ?_
    refine Z.widen (k' := 1) (n' := 6) (by decide) (by decide) ?_
    exact z_ireturn F rfl B dX10_existingCell_25 ⟨hv, vInt (by omega), rfl⟩
  · refine z_iload_n F dX10_existingCell_0 rfl rfl ?_
    refine z_iload_n F dX10_existingCell_1 rfl rfl ?_
    refine z_callS F B cal_yX10_isCell (m_isCell hx hy h) dX10_existingCell_2 rfl rfl (Nat.le_of_ble_eq_true rfl) (by decide) (by decide) (by decide) ml_X10_410 st_yX10_isCell (fun v h1 q => ?_) (fun C h1 q => q.elim)
    obtain ⟨rfl, rfl⟩ := q
    rw [if_neg hv]
    refine zi_if_ne (tgt := 19) F dX10_existingCell_5 (by decide) (by omega) (fun c5 => False.elim (by omega)) (fun c5 => ?_)
    exact z_throwSW F B thr_X10_357_474_361 dX10_existingCell_8 dX10_existingCell_11 dX10_existingCell_12 dX10_existingCell_15 dX10_existingCell_18 (by decide) (by decide) (by decide) (by decide) (fun j => ⟨hv, rfl, j, rfl⟩)
/-! reads of a coast -/
def f_dep (C : zCo) (c : Int) : Nat := if 0 ≤ c ∧ c < 64 then C.1 c.toNat else 0
theorem f_dep_le {K : Nat} {C : zCo} (hO : zOk K C) (c : Int) : f_dep C c ≤ 9 := by
  unfold f_dep
  split
  · exact hO.1 _
  · omega
theorem f_dep_n {C : zCo} {c : Nat} (hc : c < 64) : f_dep C c = C.1 c := by
  unfold f_dep
  rw [if_pos (by omega)]
  rfl
section
variable {b : Nat} {σ τ : Nat → Nat} {C : zCo} {h : zH} {K : Nat}
theorem m_depthOf (R : zRepC b σ τ C h) {c : Int} (hc : -2147483648 ≤ c ∧ c < 2147483648) : zMet yX2_depthOf cX2_depthOf 2 (some .int) 1 0 0 [.ref b, .int (iI c)] h (fun v h' => v = some (.int (iI (f_dep C c))) ∧ h' = h) (fun _ _ => False) := by
  refine zMet.go (by decide +kernel) (Nat.le_of_ble_eq_true rfl) ?_
  intro X F B hnl hR hn
  refine z_iload_n F dX2_depthOf_0 rfl rfl ?_
  refine zi_if_lt (tgt := 19) F dX2_depthOf_1 (by decide) (by omega) (fun c1 => ?_) (fun c1 => ?_)
  · refine zi_iconst F dX2_depthOf_19 ?_
    exact z_ireturn F rfl B dX2_depthOf_20 ⟨vInt (by unfold f_dep; split <;> first | rfl | (exfalso; omega)), rfl⟩
  · refine z_iload_n F dX2_depthOf_4 rfl rfl ?_
    refine zi_bipush F dX2_depthOf_5 (by decide) ?_
    refine zi_icmp_ge (tgt := 19) F dX2_depthOf_7 (by decide) (by omega) (fun c7 => ?_) (fun c7 => ?_)
    · refine zi_iconst F dX2_depthOf_19 ?_
      exact z_ireturn F rfl B dX2_depthOf_20 ⟨vInt (by unfold f_dep; split <;> first | rfl | (exfalso; omega)), rfl⟩
    · refine z_aload_n F dX2_depthOf_10 rfl rfl ?_
      refine z_getfield F fl_X2_9 dX2_depthOf_11 R.ob (by decide) rfl ?_
      refine z_iload_n F dX2_depthOf_14 rfl rfl ?_
      refine zi_iaload F dX2_depthOf_15 R.dp (Int.toNat_of_nonneg (by omega)).symm (by omega) (zar_get (by omega)) ?_
      refine z_goto (tgt := 20) F dX2_depthOf_16 (by decide) ?_
      exact z_ireturn F rfl B dX2_depthOf_20 ⟨vInt (by unfold f_dep; split <;> first | rfl | (exfalso; omega)), rfl⟩
def f_ww (C : zCo) (c : Int) (t : Nat) : Nat := if f_dep C c = 0 then 0 else f_dep C c + t
theorem m_waterWith (R : zRepC b σ τ C h) (hO : zOk K C) {c : Int} {t : Nat} (hc : -2147483648 ≤ c ∧ c < 2147483648) (ht : t ≤ 2) : zMet yX2_waterWith cX2_waterWith 4 (some .int) 2 0 0 [.ref b, .int (iI c), .int (iI t)] h (fun v h' => v = some (.int (iI (f_ww C c t))) ∧ h' = h) (fun _ _ => False) := by
  refine zMet.go (by decide +kernel) (Nat.le_of_ble_eq_true rfl) ?_
  intro X F B hnl hR hn
  have hd := f_dep_le hO c
  refine z_aload_n F dX2_waterWith_0 rfl rfl ?_
  refine z_iload_n F dX2_waterWith_1 rfl rfl ?_
  refine z_callV F B cal_yX2_depthOf (m_depthOf R hc) dX2_waterWith_2 rfl rfl (Nat.le_of_ble_eq_true rfl) (by decide) (by decide) (by decide) ml_X2_72 im_yX2_depthOf se_yX2_depthOf R.ob (by decide) rfl rfl (fun v h1 q => ?_) (fun C h1 q => q.elim)
  obtain ⟨rfl, rfl⟩ := q
  refine z_istore_n F dX2_waterWith_5 rfl rfl (hnl _ rfl) ?_
  refine z_iload_n F dX2_waterWith_6 rfl rfl ?_
  refine zi_if_ne (tgt := 14) F dX2_waterWith_7 (by decide) (by omega) (fun c7 => ?_) (fun c7 => ?_)
  · refine z_iload_n F dX2_waterWith_14 rfl rfl ?_
    refine z_iload_n F dX2_waterWith_15 rfl rfl ?_
    refine zi_iadd F dX2_waterWith_16 ?_
    exact z_ireturn F rfl B dX2_waterWith_17 ⟨vInt (by unfold f_ww; split <;> omega), rfl⟩
  · refine zi_iconst F dX2_waterWith_10 ?_
    refine z_goto (tgt := 17) F dX2_waterWith_11 (by decide) ?_
    exact z_ireturn F rfl B dX2_waterWith_17 ⟨vInt (by unfold f_ww; split <;> omega), rfl⟩
def f_wa (C : zCo) (c : Int) : Nat := f_ww C c (f_tide C.2.2.2.2.1)
theorem m_waterOf (R : zRepC b σ τ C h) (hO : zOk K C) (hK : K < 2000000) {c : Int} (hc : -2147483648 ≤ c ∧ c < 2147483648) : zMet yX2_waterOf cX2_waterOf 2 (some .int) 3 0 0 [.ref b, .int (iI c)] h (fun v h' => v = some (.int (iI (f_wa C c))) ∧ h' = h) (fun _ _ => False) := by
  refine zMet.go (by decide +kernel) (Nat.le_of_ble_eq_true rfl) ?_
  intro X F B hnl hR hn
  have hm := hO.2.2.2.2.2.1
  refine z_aload_n F dX2_waterOf_0 rfl rfl ?_
  refine z_iload_n F dX2_waterOf_1 rfl rfl ?_
  refine z_aload_n F dX2_waterOf_2 rfl rfl ?_
  refine z_getfield F fl_X2_49 dX2_waterOf_3 R.ob (by decide) rfl ?_
  refine z_callSN F B cal_yX10_tideAt (m_tideAt _ (by omega) h) dX2_waterOf_6 rfl rfl (Nat.le_of_ble_eq_true rfl) (by decide) (by decide) (by decide) ml_X2_64 st_yX10_tideAt (fun v h1 q => ?_) (fun C h1 q => q.elim)
  obtain ⟨rfl, rfl⟩ := q
  refine z_callV F B cal_yX2_waterWith (m_waterWith R hO hc (f_tide_le _)) dX2_waterOf_9 rfl rfl (Nat.le_of_ble_eq_true rfl) (by decide) (by decide) (by decide) ml_X2_68 im_yX2_waterWith se_yX2_waterWith R.ob (by decide) rfl rfl (fun v h1 q => ?_) (fun C h1 q => q.elim)
  obtain ⟨rfl, rfl⟩ := q
  exact z_ireturn F rfl B dX2_waterOf_12 ⟨rfl, rfl⟩
theorem m_hasLight (R : zRepC b σ τ C h) (hO : zOk K C) {z : Int} (hz : -2147483648 ≤ z ∧ z < 2147483648) : zMet yX2_hasLight cX2_hasLight 2 (some .boolean) 1 0 0 [.ref b, .int (iI z)] h (fun v h' => v = some (.int (iI (if 0 ≤ z ∧ z < C.2.2.2.1.1 then 1 else 0))) ∧ h' = h) (fun _ _ => False) := by
  refine zMet.go (by decide +kernel) (Nat.le_of_ble_eq_true rfl) ?_
  intro X F B hnl hR hn
  have hl := hO.2.2.2.1
  refine z_iload_n F dX2_hasLight_0 rfl rfl ?_
  refine zi_if_lt (tgt := 22) F dX2_hasLight_1 (by decide) (by omega) (fun c1 => ?_) (fun c1 => ?_)
  · refine zi_iconst F dX2_hasLight_22 ?_
    exact z_ireturn F rfl B dX2_hasLight_23 ⟨vInt (by split <;> omega), rfl⟩
  · refine z_iload_n F dX2_hasLight_4 rfl rfl ?_
    refine z_aload_n F dX2_hasLight_5 rfl rfl ?_
    refine z_getfield F fl_X2_42 dX2_hasLight_6 R.ob (by decide) rfl ?_
    refine zi_icmp_ge (tgt := 22) F dX2_hasLight_9 (by decide) (by omega) (fun c9 => ?_) (fun c9 => ?_)
    · refine zi_iconst F dX2_hasLight_22 ?_
      exact z_ireturn F rfl B dX2_hasLight_23 ⟨vInt (by split <;> omega), rfl⟩
    · refine z_iload_n F dX2_hasLight_12 rfl rfl ?_
      refine zi_bipush F dX2_hasLight_13 (by decide) ?_
      refine zi_icmp_ge (tgt := 22) F dX2_hasLight_15 (by decide) (by omega) (fun c15 => ?_) (fun c15 => ?_)
      · refine zi_iconst F dX2_hasLight_22 ?_
        exact z_ireturn F rfl B dX2_hasLight_23 ⟨vInt (by split <;> omega), rfl⟩
      · refine zi_iconst F dX2_hasLight_18 ?_
        refine z_goto (tgt := 23) F dX2_hasLight_19 (by decide) ?_
        exact z_ireturn F rfl B dX2_hasLight_23 ⟨vInt (by split <;> omega), rfl⟩
theorem m_hasShip (R : zRepC b σ τ C h) (hO : zOk K C) {z : Int} (hz : -2147483648 ≤ z ∧ z < 2147483648) : zMet yX2_hasShip cX2_hasShip 2 (some .boolean) 1 0 0 [.ref b, .int (iI z)] h (fun v h' => v = some (.int (iI (if 0 ≤ z ∧ z < C.2.2.2.1.2 then 1 else 0))) ∧ h' = h) (fun _ _ => False) := by
  refine zMet.go (by decide +kernel) (Nat.le_of_ble_eq_true rfl) ?_
  intro X F B hnl hR hn
  have hl := hO.2.2.2.2.1
  refine z_iload_n F dX2_hasShip_0 rfl rfl ?_
  refine zi_if_lt (tgt := 22) F dX2_hasShip_1 (by decide) (by omega) (fun c1 => ?_) (fun c1 => ?_)
  · refine zi_iconst F dX2_hasShip_22 ?_
    exact z_ireturn F rfl B dX2_hasShip_23 ⟨vInt (by split <;> omega), rfl⟩
  · refine z_iload_n F dX2_hasShip_4 rfl rfl ?_
    refine z_aload_n F dX2_hasShip_5 rfl rfl ?_
    refine z_getfield F fl_X2_46 dX2_hasShip_6 R.ob (by decide) rfl ?_
    refine zi_icmp_ge (tgt := 22) F dX2_hasShip_9 (by decide) (by omega) (fun c9 => ?_) (fun c9 => ?_)
    · refine zi_iconst F dX2_hasShip_22 ?_
      exact z_ireturn F rfl B dX2_hasShip_23 ⟨vInt (by split <;> omega), rfl⟩
    · refine z_iload_n F dX2_hasShip_12 rfl rfl ?_
      refine zi_bipush F dX2_hasShip_13 (by decide) ?_
      refine zi_icmp_ge (tgt := 22) F dX2_hasShip_15 (by decide) (by omega) (fun c15 => ?_) (fun c15 => ?_)
      · refine zi_iconst F dX2_hasShip_22 ?_
        exact z_ireturn F rfl B dX2_hasShip_23 ⟨vInt (by split <;> omega), rfl⟩
      · refine zi_iconst F dX2_hasShip_18 ?_
        refine z_goto (tgt := 23) F dX2_hasShip_19 (by decide) ?_
        exact z_ireturn F rfl B dX2_hasShip_23 ⟨vInt (by split <;> omega), rfl⟩
/-- the first light on a cell, from place i on -/
def f_lix (C : zCo) (c : Nat) : Nat → Nat → Option Nat
  | 0, _ => none
  | n + 1, i => if (C.2.1 i).1 = c then some i else f_lix C c n (i + 1)
theorem f_lix_lt {C : zCo} {c : Nat} : ∀ {n i j : Nat}, f_lix C c n i = some j → i ≤ j ∧ j < i + n ∧ (C.2.1 j).1 = c
  | 0, i, j, h => by simp [f_lix] at h
  | n + 1, i, j, h => by
    unfold f_lix at h
    split at h
    · cases h; exact ⟨Nat.le_refl _, by omega, by assumption⟩
    · have := f_lix_lt h; omega
theorem m_lightIndexOn (R : zRepC b σ τ C h) (hO : zOk K C) {c : Nat} (hc : c < 64) : zMet yX2_lightIndexOn cX2_lightIndexOn 3 (some .int) 1 0 0 [.ref b, .int (iI c)] h (fun v h' => v = some (.int (iI (zGo (f_lix C c C.2.2.2.1.1 0)))) ∧ h' = h) (fun _ _ => False) := by
  refine zMet.go (by decide +kernel) (Nat.le_of_ble_eq_true rfl) ?_
  intro X F B hnl hR hn
  have hl := hO.2.2.2.1
  refine zi_iconst F dX2_lightIndexOn_0 ?_
  refine z_istore_n F dX2_lightIndexOn_1 rfl rfl (hnl _ rfl) ?_
  suffices KK : ∀ n i : Nat, n + i = C.2.2.2.1.1 → f_lix C c C.2.2.2.1.1 0 = f_lix C c n i → Z X 0 0 2 [(2, .int (iI i)), (0, .ref b), (1, .int (iI c))] [] h from Z.keys [2, 0, 1] rfl (KK C.2.2.2.1.1 0 (by omega) rfl)
  intro n
  induction n with
  | zero =>
    intro i hi he
    refine z_iload_n F dX2_lightIndexOn_2 rfl rfl ?_
    refine z_aload_n F dX2_lightIndexOn_3 rfl rfl ?_
    refine z_getfield F fl_X2_42 dX2_lightIndexOn_4 R.ob (by decide) rfl ?_
    refine zi_icmp_ge (tgt := 31) F dX2_lightIndexOn_7 (by decide) (by omega) (fun c7 => ?_) (fun c7 => False.elim (by omega))
    refine zi_iconst F dX2_lightIndexOn_31 ?_
    exact z_ireturn F rfl B dX2_lightIndexOn_32 ⟨vInt (by rw [he]; rfl), rfl⟩
  | succ n ih =>
    intro i hi he
    have hb2 := (hO.2.1 i).1
    refine z_iload_n F dX2_lightIndexOn_2 rfl rfl ?_
    refine z_aload_n F dX2_lightIndexOn_3 rfl rfl ?_
    refine z_getfield F fl_X2_42 dX2_lightIndexOn_4 R.ob (by decide) rfl ?_
    refine zi_icmp_ge (tgt := 31) F dX2_lightIndexOn_7 (by decide) (by omega) (fun c7 => False.elim (by omega)) (fun c7 => ?_)
    refine z_aload_n F dX2_lightIndexOn_10 rfl rfl ?_
    refine z_getfield F fl_X2_17 dX2_lightIndexOn_11 R.ob (by decide) rfl ?_
    refine z_iload_n F dX2_lightIndexOn_14 rfl rfl ?_
    refine zi_aaload (i := i) F dX2_lightIndexOn_15 R.la (by decide) (by decide) rfl rfl (by omega) (zar_get (by omega)) rfl ?_
    refine z_getfield F fl_X2_75 dX2_lightIndexOn_16 (R.li (by omega)) (by decide) rfl ?_
    refine z_iload_n F dX2_lightIndexOn_19 rfl rfl ?_
    refine zi_icmp_ne (tgt := 25) F dX2_lightIndexOn_20 (by decide) (by omega) (fun c20 => ?_) (fun c20 => ?_)
    · refine zi_iinc F dX2_lightIndexOn_25 rfl rfl (hnl _ rfl) ?_
      refine z_goto (tgt := 2) F dX2_lightIndexOn_28 (by decide) ?_
      exact Z.keys [2, 0, 1] rfl (ih (i + 1) (by omega) (by rw [he]; conv => lhs; unfold f_lix; rw [if_neg (by omega)]))
    · refine z_iload_n F dX2_lightIndexOn_23 rfl rfl ?_
      exact z_ireturn F rfl B dX2_lightIndexOn_24 ⟨vInt (by rw [he]; unfold f_lix; rw [if_pos (by omega)]; rfl), rfl⟩
end
