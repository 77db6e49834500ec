/-! whole numbers of the JDK; lights; reads of a coast -/
theorem m_floorDiv {a b : Int} (hab : (-1073741824 < a ∧ a < 1073741824) ∧ 0 < b ∧ b < 1073741824) (h : zH) : zMet yJ9_floorDiv_7cf53 cJ9_floorDiv_7cf53 3 (some .int) 1 0 0 [.int (iI a), .int (iI b)] h (fun v h' => v = some (.int (iI (a / b))) ∧ h' = h) (fun _ _ => False) := by
  refine zMet.goF (by decide +kernel) (Nat.le_of_ble_eq_true rfl) ?_
  intro X F B hnl hR hn
  have h3 := hab.2.1
  have hq := nZ_div (a := a) (b := b) (by omega) (by omega) h3 (by omega)
  have hx : (iI a ^^^ iI b < 0) ↔ a < 0 := by rw [zxor_neg, iI_0, iI_lt (by omega), iI_lt (by omega)]; omega
  have hf := tdiv_floor (a := a) h3
  have habs : (a.tdiv b * b).natAbs ≤ a.natAbs := by
    rw [Int.natAbs_mul, Int.natAbs_tdiv]; exact Nat.div_mul_le_self _ _
  have hge : (0 ≤ iI a ^^^ iI b) ↔ ¬ a < 0 := by rw [← hx, zlt, zle]; show 0 ≤ _ ↔ ¬ _ < (0 : Int); omega
  refine z_iload_n F dJ9_floorDiv_7cf53_0 rfl rfl ?_
  refine z_iload_n F dJ9_floorDiv_7cf53_1 rfl rfl ?_
  refine z_idiv F dJ9_floorDiv_7cf53_2 (iI_ne0 (by omega)) ?_
  rw [hq]
  refine z_istore_n F dJ9_floorDiv_7cf53_3 rfl rfl (hnl _ rfl) ?_
  refine z_iload_n F dJ9_floorDiv_7cf53_4 rfl rfl ?_
  refine z_iload_n F dJ9_floorDiv_7cf53_5 rfl rfl ?_
  refine z_ixor F dJ9_floorDiv_7cf53_6 ?_
  refine z_if_ge (tgt := 21) F dJ9_floorDiv_7cf53_7 (by decide) (fun c7 => ?_) (fun c7 => ?_)
  · rw [hge] at c7
    rw [if_neg (fun q => c7 q.1)] at hf
    refine z_iload_n F dJ9_floorDiv_7cf53_21 rfl rfl ?_
    exact Z.widen (by decide) (by decide) (z_ireturn F rfl B dJ9_floorDiv_7cf53_22 ⟨by rw [hf], rfl⟩)
  · rw [hge] at c7
    refine z_iload_n F dJ9_floorDiv_7cf53_10 rfl rfl ?_
    refine z_iload_n F dJ9_floorDiv_7cf53_11 rfl rfl ?_
    refine zi_imul F dJ9_floorDiv_7cf53_12 ?_
    refine z_iload_n F dJ9_floorDiv_7cf53_13 rfl rfl ?_
    refine zi_icmp_eq (tgt := 21) F dJ9_floorDiv_7cf53_14 (by decide) (by omega) (fun c14 => ?_) (fun c14 => ?_)
    · rw [if_neg (fun q => q.2 c14)] at hf
      refine z_iload_n F dJ9_floorDiv_7cf53_21 rfl rfl ?_
      exact Z.widen (by decide) (by decide) (z_ireturn F rfl B dJ9_floorDiv_7cf53_22 ⟨by rw [hf], rfl⟩)
    · rw [if_pos ⟨by omega, c14⟩] at hf
      refine z_iload_n F dJ9_floorDiv_7cf53_17 rfl rfl ?_
      refine zi_iconst F dJ9_floorDiv_7cf53_18 ?_
      refine zi_isub F dJ9_floorDiv_7cf53_19 ?_
      exact Z.widen (by decide) (by decide) (z_ireturn F rfl B dJ9_floorDiv_7cf53_20 ⟨vInt (by rw [hf]; omega), rfl⟩)
theorem m_floorMod {a b : Int} (hab : (-1073741824 < a ∧ a < 1073741824) ∧ 0 < b ∧ b < 1073741824) (h : zH) : zMet yJ9_floorMod_7cf53 cJ9_floorMod_7cf53 3 (some .int) 1 0 0 [.int (iI a), .int (iI b)] h (fun v h' => v = some (.int (iI (a % b))) ∧ h' = h) (fun _ _ => False) := by
  refine zMet.goF (by decide +kernel) (Nat.le_of_ble_eq_true rfl) ?_
  intro X F B hnl hR hn
  have h3 := hab.2.1
  have hq := nZ_div (a := a) (b := b) (by omega) (by omega) h3 (by omega)
  have hx : (iI a ^^^ iI b < 0) ↔ a < 0 := by rw [zxor_neg, iI_0, iI_lt (by omega), iI_lt (by omega)]; omega
  have hge : (0 ≤ iI a ^^^ iI b) ↔ ¬ a < 0 := by rw [← hx, zlt, zle]; show 0 ≤ _ ↔ ¬ _ < (0 : Int); omega
  have hf := tdiv_floor (a := a) h3
  have hm : a % b = a - a / b * b := by rw [Int.emod_def, Int.mul_comm]
  have hm0 := Int.emod_nonneg a (show b ≠ 0 by omega)
  have hmb := Int.emod_lt_of_pos a h3
  have hr : iI a - iI a / iI b * iI b = iI (a - a.tdiv b * b) := by rw [hq, nZ_mul, nZ_sub]
  refine z_iload_n F dJ9_floorMod_7cf53_0 rfl rfl ?_
  refine z_iload_n F dJ9_floorMod_7cf53_1 rfl rfl ?_
  refine z_irem F dJ9_floorMod_7cf53_2 (iI_ne0 (by omega)) ?_
  rw [hr]
  refine z_istore_n F dJ9_floorMod_7cf53_3 rfl rfl (hnl _ rfl) ?_
  refine z_iload_n F dJ9_floorMod_7cf53_4 rfl rfl ?_
  refine z_iload_n F dJ9_floorMod_7cf53_5 rfl rfl ?_
  refine z_ixor F dJ9_floorMod_7cf53_6 ?_
  refine z_if_ge (tgt := 18) F dJ9_floorMod_7cf53_7 (by decide) (fun c7 => ?_) (fun c7 => ?_)
  · rw [hge] at c7
    rw [if_neg (fun q => c7 q.1)] at hf
    refine z_iload_n F dJ9_floorMod_7cf53_18 rfl rfl ?_
    exact Z.widen (by decide) (by decide) (z_ireturn F rfl B dJ9_floorMod_7cf53_19 ⟨by rw [hf, hm], rfl⟩)
  · rw [hge] at c7
    by_cases hd : a.tdiv b * b = a
    · rw [if_neg (fun q => q.2 hd)] at hf
      refine z_iload_n F dJ9_floorMod_7cf53_10 rfl rfl ?_
      refine zi_if_eq (tgt := 18) F dJ9_floorMod_7cf53_11 (by decide) (by rw [hd]; omega) (fun c11 => ?_) (fun c11 => False.elim (by rw [hd] at c11; omega))
      refine z_iload_n F dJ9_floorMod_7cf53_18 rfl rfl ?_
      exact Z.widen (by decide) (by decide) (z_ireturn F rfl B dJ9_floorMod_7cf53_19 ⟨by rw [hf, hm], rfl⟩)
    · rw [if_pos ⟨by omega, hd⟩] at hf
      have hv : a - a.tdiv b * b = a % b - b := by rw [hf, hm, Int.add_mul, Int.one_mul]; omega
      refine z_iload_n F dJ9_floorMod_7cf53_10 rfl rfl ?_
      refine zi_if_eq (tgt := 18) F dJ9_floorMod_7cf53_11 (by decide) (by rw [hv]; omega) (fun c11 => False.elim (by rw [hv] at c11; omega)) (fun c11 => ?_)
      refine z_iload_n F dJ9_floorMod_7cf53_14 rfl rfl ?_
      refine z_iload_n F dJ9_floorMod_7cf53_15 rfl rfl ?_
      refine zi_iadd F dJ9_floorMod_7cf53_16 ?_
      exact Z.widen (by decide) (by decide) (z_ireturn F rfl B dJ9_floorMod_7cf53_17 ⟨vInt (by rw [hv]; omega), rfl⟩)
def zUp (dx dy : Int) : Nat := if 0 < dx then (if dy < dx then 0 else 1) else (if -dx < dy then 2 else 3)
def zSecD (dx dy : Int) : Nat := if 0 < dy ∨ (dy = 0 ∧ 0 < dx) then zUp dx dy else 4 + zUp (-dx) (-dy)
def zDx (p c : Nat) : Int := (c : Int) % 8 - (p : Int) % 8
def zDy (p c : Nat) : Int := (c : Int) / 8 - (p : Int) / 8
/-- the sector of cell c, seen from p -/
def zSec (p c : Nat) : Nat := zSecD (zDx p c) (zDy p c)
def zTurn (l : zLt) (m : Nat) : Nat := 8 * m / l.2.2.1
/-- the sector to which the beam points -/
def zBeam (l : zLt) (m : Nat) : Nat := (l.2.2.2.1 + zTurn l m) % 8
def zLok (K : Nat) (l : zLt) : Prop := l.1 < 64 ∧ l.2.1 ≤ 9 ∧ 8 ≤ l.2.2.1 ∧ l.2.2.1 ≤ 24 ∧ l.2.2.2.1 < 8 ∧ l.2.2.2.2 ≤ K
theorem zTurn_le {K : Nat} {l : zLt} (hl : zLok K l) (m : Nat) : zTurn l m ≤ m := by
  unfold zTurn
  have := hl.2.2.1
  exact Nat.div_le_of_le_mul (Nat.mul_le_mul_right m this)
theorem zUp_lt (dx dy : Int) : zUp dx dy < 4 := by unfold zUp; (repeat' split) <;> omega
theorem zSec_lt (p c : Nat) : zSec p c < 8 := by
  unfold zSec zSecD
  have h1 := zUp_lt (zDx p c) (zDy p c)
  have h2 := zUp_lt (-zDx p c) (-zDy p c)
  split <;> omega
theorem m_upperSector {dx dy : Int} (hd : (-100 < dx ∧ dx < 100) ∧ -100 < dy ∧ dy < 100) (h : zH) : zMet yX7_upperSector cX7_upperSector 2 (some .int) 1 0 0 [.int (iI dx), .int (iI dy)] h (fun v h' => v = some (.int (iI (zUp dx dy))) ∧ h' = h) (fun _ _ => False) := by
  refine zMet.go (by decide +kernel) (Nat.le_of_ble_eq_true rfl) ?_
  intro X F B hnl hR hn
  refine z_iload_n F dX7_upperSector_0 rfl rfl ?_
  refine zi_if_le (tgt := 15) F dX7_upperSector_1 (by decide) (by first | omega | (dsimp only at *; omega)) (fun c1 => ?_) (fun c1 => ?_)
  · refine z_iload_n F dX7_upperSector_15 rfl rfl ?_
    refine zi_ineg F dX7_upperSector_16 ?_
    refine z_iload_n F dX7_upperSector_17 rfl rfl ?_
    refine zi_icmp_ge (tgt := 25) F dX7_upperSector_18 (by decide) (by first | omega | (dsimp only at *; omega)) (fun c18 => ?_) (fun c18 => ?_)
    · refine zi_iconst F dX7_upperSector_25 ?_
      exact Z.widen (by decide) (by decide) (z_ireturn F rfl B dX7_upperSector_26 ⟨vInt (by unfold zUp; split <;> split <;> first | rfl | (exfalso; omega)), rfl⟩)
    · refine zi_iconst F dX7_upperSector_21 ?_
      refine z_goto (tgt := 26) F dX7_upperSector_22 (by decide) ?_
      exact Z.widen (by decide) (by decide) (z_ireturn F rfl B dX7_upperSector_26 ⟨vInt (by unfold zUp; split <;> split <;> first | rfl | (exfalso; omega)), rfl⟩)
  · refine z_iload_n F dX7_upperSector_4 rfl rfl ?_
    refine z_iload_n F dX7_upperSector_5 rfl rfl ?_
    refine zi_icmp_ge (tgt := 13) F dX7_upperSector_6 (by decide) (by first | omega | (dsimp only at *; omega)) (fun c6 => ?_) (fun c6 => ?_)
    · refine zi_iconst F dX7_upperSector_13 ?_
      exact Z.widen (by decide) (by decide) (z_ireturn F rfl B dX7_upperSector_14 ⟨vInt (by unfold zUp; split <;> split <;> first | rfl | (exfalso; omega)), rfl⟩)
    · refine zi_iconst F dX7_upperSector_9 ?_
      refine z_goto (tgt := 14) F dX7_upperSector_10 (by decide) ?_
      exact Z.widen (by decide) (by decide) (z_ireturn F rfl B dX7_upperSector_14 ⟨vInt (by unfold zUp; split <;> split <;> first | rfl | (exfalso; omega)), rfl⟩)
section
variable {a m K : Nat} {l : zLt} {h : zH}
theorem m_turnAt (ha : h[a]? = some (9, zLf l)) (hl : zLok K l) (hm : m < 20000000) : zMet yX7_turnAt cX7_turnAt 2 (some .int) 1 0 0 [.ref a, .int (iI m)] h (fun v h' => v = some (.int (iI (zTurn l m))) ∧ h' = h) (fun _ _ => False) := by
  refine zMet.go (by decide +kernel) (Nat.le_of_ble_eq_true rfl) ?_
  intro X F B hnl hR hn
  obtain ⟨-, -, hp, hp2, -⟩ := hl
  refine z_aload_n F dX7_turnAt_0 rfl rfl ?_
  refine z_getfield F fl_X7_9 dX7_turnAt_1 (by assumption) (by decide) rfl ?_
  refine zi_if_le (tgt := 19) F dX7_turnAt_4 (by decide) (by first | omega | (dsimp only at *; omega)) (fun c4 => False.elim (by first | omega | (dsimp only at *; omega))) (fun c4 => ?_)
  refine zi_bipush F dX7_turnAt_7 (by decide) ?_
  refine z_iload_n F dX7_turnAt_9 rfl rfl ?_
  refine zi_imul F dX7_turnAt_10 ?_
  refine z_aload_n F dX7_turnAt_11 rfl rfl ?_
  refine z_getfield F fl_X7_9 dX7_turnAt_12 (by assumption) (by decide) rfl ?_
  refine zi_idiv F dX7_turnAt_15 (by omega) ?_
  refine z_goto (tgt := 20) F dX7_turnAt_16 (by decide) ?_
  exact Z.widen (by decide) (by decide) (z_ireturn F rfl B dX7_turnAt_20 ⟨vInt (by simp [zTurn]), rfl⟩)
theorem m_sectorAt (ha : h[a]? = some (9, zLf l)) (hl : zLok K l) (hm : m < 20000000) : zMet yX7_sectorAt cX7_sectorAt 2 (some .int) 2 0 0 [.ref a, .int (iI m)] h (fun v h' => v = some (.int (iI (zBeam l m))) ∧ h' = h) (fun _ _ => False) := by
  refine zMet.go (by decide +kernel) (Nat.le_of_ble_eq_true rfl) ?_
  intro X F B hnl hR hn
  have ht := zTurn_le hl m
  have hp := hl.2.2.2.2.1
  refine z_aload_n F dX7_sectorAt_0 rfl rfl ?_
  refine z_getfield F fl_X7_21 dX7_sectorAt_1 (by assumption) (by decide) rfl ?_
  refine z_aload_n F dX7_sectorAt_4 rfl rfl ?_
  refine z_iload_n F dX7_sectorAt_5 rfl rfl ?_
  refine z_callV F B cal_yX7_turnAt (m_turnAt ha hl hm) dX7_sectorAt_6 rfl rfl (Nat.le_of_ble_eq_true rfl) (by decide) (by decide) (by decide) ml_X7_27 im_yX7_turnAt se_yX7_turnAt (by assumption) (by decide) rfl rfl (fun v hX qX => ?_) (fun C h1 q => q.elim)
  obtain ⟨rfl, qX⟩ := qX
  rw [qX]
  clear qX hX
  refine zi_iadd F dX7_sectorAt_9 ?_
  refine zi_bipush F dX7_sectorAt_10 (by decide) ?_
  refine z_callS F B cal_yJ9_floorMod_7cf53 (m_floorMod (by omega) _) dX7_sectorAt_12 rfl rfl (Nat.le_of_ble_eq_true rfl) (by decide) (by decide) (by decide) ml_X7_31 st_yJ9_floorMod_7cf53 (fun v hX qX => ?_) (fun C h1 q => q.elim)
  obtain ⟨rfl, qX⟩ := qX
  rw [qX]
  clear qX hX
  exact Z.widen (by decide) (by decide) (z_ireturn F rfl B dX7_sectorAt_15 ⟨vInt (by unfold zBeam; omega), rfl⟩)
theorem m_sectorWith {c : Nat} (ha : h[a]? = some (9, zLf l)) (hl : l.1 < 64) (hc : c < 64) : zMet yX7_sectorWith cX7_sectorWith 4 (some .int) 2 0 0 [.ref a, .int (iI c)] h (fun v h' => v = some (.int (iI (zSec l.1 c))) ∧ h' = h) (fun _ _ => False) := by
  refine zMet.go (by decide +kernel) (Nat.le_of_ble_eq_true rfl) ?_
  intro X F B hnl hR hn
  have h1 : zSec l.1 c = zSecD ((c : Int) % 8 - (l.1 : Int) % 8) ((c : Int) / 8 - (l.1 : Int) / 8) := rfl
  refine z_iload_n F dX7_sectorWith_0 rfl rfl ?_
  refine z_callSN F B cal_yX10_columnIn (m_columnIn (by omega) _) dX7_sectorWith_1 rfl rfl (Nat.le_of_ble_eq_true rfl) (by decide) (by decide) (by decide) ml_X7_37 st_yX10_columnIn (fun v hX qX => ?_) (fun C h1 q => q.elim)
  obtain ⟨rfl, qX⟩ := qX
  rw [qX]
  clear qX hX
  refine z_aload_n F dX7_sectorWith_4 rfl rfl ?_
  refine z_getfield F fl_X7_15 dX7_sectorWith_5 (by assumption) (by decide) rfl ?_
  refine z_callSN F B cal_yX10_columnIn (m_columnIn (by omega) _) dX7_sectorWith_8 rfl rfl (Nat.le_of_ble_eq_true rfl) (by decide) (by decide) (by decide) ml_X7_37 st_yX10_columnIn (fun v hX qX => ?_) (fun C h1 q => q.elim)
  obtain ⟨rfl, qX⟩ := qX
  rw [qX]
  clear qX hX
  refine zi_isub F dX7_sectorWith_11 ?_
  refine z_istore_n F dX7_sectorWith_12 rfl rfl (hnl _ rfl) ?_
  refine z_iload_n F dX7_sectorWith_13 rfl rfl ?_
  refine z_callSN F B cal_yX10_rowIn (m_rowIn (by omega) _) dX7_sectorWith_14 rfl rfl (Nat.le_of_ble_eq_true rfl) (by decide) (by decide) (by decide) ml_X7_40 st_yX10_rowIn (fun v hX qX => ?_) (fun C h1 q => q.elim)
  obtain ⟨rfl, qX⟩ := qX
  rw [qX]
  clear qX hX
  refine z_aload_n F dX7_sectorWith_17 rfl rfl ?_
  refine z_getfield F fl_X7_15 dX7_sectorWith_18 (by assumption) (by decide) rfl ?_
  refine z_callSN F B cal_yX10_rowIn (m_rowIn (by omega) _) dX7_sectorWith_21 rfl rfl (Nat.le_of_ble_eq_true rfl) (by decide) (by decide) (by decide) ml_X7_40 st_yX10_rowIn (fun v hX qX => ?_) (fun C h1 q => q.elim)
  obtain ⟨rfl, qX⟩ := qX
  rw [qX]
  clear qX hX
  refine zi_isub F dX7_sectorWith_24 ?_
  refine z_istore_n F dX7_sectorWith_25 rfl rfl (hnl _ rfl) ?_
  generalize hx : (c : Int) % 8 - (l.1 : Int) % 8 = dx at h1 ⊢
  generalize hy : (c : Int) / 8 - (l.1 : Int) / 8 = dy at h1 ⊢
  have hd : (-100 < dx ∧ dx < 100) ∧ -100 < dy ∧ dy < 100 := by omega
  have hd2 : (-100 < -dx ∧ -dx < 100) ∧ -100 < -dy ∧ -dy < 100 := by omega
  refine z_iload_n F dX7_sectorWith_26 rfl rfl ?_
  refine zi_if_gt (tgt := 38) F dX7_sectorWith_27 (by decide) (by first | omega | (dsimp only at *; omega)) (fun c27 => ?_) (fun c27 => ?_)
  · refine z_iload_n F dX7_sectorWith_38 rfl rfl ?_
    refine z_iload_n F dX7_sectorWith_39 rfl rfl ?_
    refine z_callS F B cal_yX7_upperSector (m_upperSector hd _) dX7_sectorWith_40 rfl rfl (Nat.le_of_ble_eq_true rfl) (by decide) (by decide) (by decide) ml_X7_43 st_yX7_upperSector (fun v hX qX => ?_) (fun C h1 q => q.elim)
    obtain ⟨rfl, qX⟩ := qX
    rw [qX]
    clear qX hX
    exact Z.widen (by decide) (by decide) (z_ireturn F rfl B dX7_sectorWith_43 ⟨vInt (by rw [h1]; unfold zSecD; rw [if_pos (by omega)]), rfl⟩)
  · refine z_iload_n F dX7_sectorWith_30 rfl rfl ?_
    refine zi_if_ne (tgt := 44) F dX7_sectorWith_31 (by decide) (by first | omega | (dsimp only at *; omega)) (fun c31 => ?_) (fun c31 => ?_)
    · refine zi_iconst F dX7_sectorWith_44 ?_
      refine z_iload_n F dX7_sectorWith_45 rfl rfl ?_
      refine zi_ineg F dX7_sectorWith_46 ?_
      refine z_iload_n F dX7_sectorWith_47 rfl rfl ?_
      refine zi_ineg F dX7_sectorWith_48 ?_
      refine z_callS F B cal_yX7_upperSector (m_upperSector hd2 _) dX7_sectorWith_49 rfl rfl (Nat.le_of_ble_eq_true rfl) (by decide) (by decide) (by decide) ml_X7_43 st_yX7_upperSector (fun v hX qX => ?_) (fun C h1 q => q.elim)
      obtain ⟨rfl, qX⟩ := qX
      rw [qX]
      clear qX hX
      refine zi_iadd F dX7_sectorWith_52 ?_
      exact Z.widen (by decide) (by decide) (z_ireturn F rfl B dX7_sectorWith_53 ⟨vInt (by rw [h1]; unfold zSecD; rw [if_neg (by omega)]; omega), rfl⟩)
    · refine z_iload_n F dX7_sectorWith_34 rfl rfl ?_
      refine zi_if_le (tgt := 44) F dX7_sectorWith_35 (by decide) (by first | omega | (dsimp only at *; omega)) (fun c35 => ?_) (fun c35 => ?_)
      · refine zi_iconst F dX7_sectorWith_44 ?_
        refine z_iload_n F dX7_sectorWith_45 rfl rfl ?_
        refine zi_ineg F dX7_sectorWith_46 ?_
        refine z_iload_n F dX7_sectorWith_47 rfl rfl ?_
        refine zi_ineg F dX7_sectorWith_48 ?_
        refine z_callS F B cal_yX7_upperSector (m_upperSector hd2 _) dX7_sectorWith_49 rfl rfl (Nat.le_of_ble_eq_true rfl) (by decide) (by decide) (by decide) ml_X7_43 st_yX7_upperSector (fun v hX qX => ?_) (fun C h1 q => q.elim)
        obtain ⟨rfl, qX⟩ := qX
        rw [qX]
        clear qX hX
        refine zi_iadd F dX7_sectorWith_52 ?_
        exact Z.widen (by decide) (by decide) (z_ireturn F rfl B dX7_sectorWith_53 ⟨vInt (by rw [h1]; unfold zSecD; rw [if_neg (by omega)]; omega), rfl⟩)
      · refine z_iload_n F dX7_sectorWith_38 rfl rfl ?_
        refine z_iload_n F dX7_sectorWith_39 rfl rfl ?_
        refine z_callS F B cal_yX7_upperSector (m_upperSector hd _) dX7_sectorWith_40 rfl rfl (Nat.le_of_ble_eq_true rfl) (by decide) (by decide) (by decide) ml_X7_43 st_yX7_upperSector (fun v hX qX => ?_) (fun C h1 q => q.elim)
        obtain ⟨rfl, qX⟩ := qX
        rw [qX]
        clear qX hX
        exact Z.widen (by decide) (by decide) (z_ireturn F rfl B dX7_sectorWith_43 ⟨vInt (by rw [h1]; unfold zSecD; rw [if_pos (by omega)]), rfl⟩)
end
def f_stp (dx dy : Int) : Nat := if dx.natAbs < dy.natAbs then dy.natAbs else dx.natAbs
/-- no land on the line from p, from step s on, n steps -/
def f_btw (C : zCo) (p : Nat) (dx dy : Int) (S : Nat) : Nat → Nat → Bool
  | 0, _ => true
  | n + 1, s => if f_dep C (p + (2 * s * dy + S) / (2 * S) * 8 + (2 * s * dx + S) / (2 * S)) = 0 then false else f_btw C p dx dy S n (s + 1)
def f_rch (C : zCo) (l : zLt) (c : Nat) : Bool := if (l.2.1 : Int) * l.2.1 < zDx l.1 c * zDx l.1 c + zDy l.1 c * zDy l.1 c then false else f_btw C l.1 (zDx l.1 c) (zDy l.1 c) (f_stp (zDx l.1 c) (zDy l.1 c)) (f_stp (zDx l.1 c) (zDy l.1 c) - 1) 1
theorem zsq {d : Int} (h : -10 < d ∧ d < 10) : 0 ≤ d * d ∧ d * d ≤ 81 := by
  have : d = -9 ∨ d = -8 ∨ d = -7 ∨ d = -6 ∨ d = -5 ∨ d = -4 ∨ d = -3 ∨ d = -2 ∨ d = -1 ∨ d = 0 ∨ d = 1 ∨ d = 2 ∨ d = 3 ∨ d = 4 ∨ d = 5 ∨ d = 6 ∨ d = 7 ∨ d = 8 ∨ d = 9 := by omega
  rcases this with rfl | rfl | rfl | rfl | rfl | rfl | rfl | rfl | rfl | rfl | rfl | rfl | rfl | rfl | rfl | rfl | rfl | rfl | rfl <;> decide
theorem zprod {d s : Int} (h : -8 < d ∧ d < 8) (hs : 0 ≤ s ∧ s < 8) : -200 < 2 * s * d ∧ 2 * s * d < 200 := by
  have : d = -7 ∨ d = -6 ∨ d = -5 ∨ d = -4 ∨ d = -3 ∨ d = -2 ∨ d = -1 ∨ d = 0 ∨ d = 1 ∨ d = 2 ∨ d = 3 ∨ d = 4 ∨ d = 5 ∨ d = 6 ∨ d = 7 := by omega
  rcases this with rfl | rfl | rfl | rfl | rfl | rfl | rfl | rfl | rfl | rfl | rfl | rfl | rfl | rfl | rfl <;> omega
theorem zdivb {a d : Int} (h : -1000 < a ∧ a < 1000) (hd : 0 < d) : -1000 ≤ a / d ∧ a / d < 1000 := by
  constructor
  · rw [Int.le_ediv_iff_mul_le hd]; omega
  · rw [Int.ediv_lt_iff_lt_mul hd]; omega
section
variable {b K : Nat} {σ τ : Nat → Nat} {C : zCo} {h : zH}
theorem m_canReach {a c : Nat} {l : zLt} (R : zRepC b σ τ C h) (hO : zOk K C) (ha : h[a]? = some (9, zLf l)) (hl : zLok K l) (hc : c < 64) : zMet yX2_canReach cX2_canReach 9 (some .boolean) 2 0 0 [.ref b, .ref a, .int (iI c)] h (fun v h' => v = some (.int (iI (zBo (f_rch C l c)))) ∧ h' = h) (fun _ _ => False) := by
  refine zMet.go (by decide +kernel) (Nat.le_of_ble_eq_true rfl) ?_
  intro X F B hnl hR hn
  obtain ⟨hl1, hl2, -⟩ := hl
  have hdx : zDx l.1 c = (c : Int) % 8 - (l.1 : Int) % 8 := rfl
  have hdy : zDy l.1 c = (c : Int) / 8 - (l.1 : Int) / 8 := rfl
  have h1 : f_rch C l c = if (l.2.1 : Int) * l.2.1 < zDx l.1 c * zDx l.1 c + zDy l.1 c * zDy l.1 c then false else f_btw C l.1 (zDx l.1 c) (zDy l.1 c) (f_stp (zDx l.1 c) (zDy l.1 c)) (f_stp (zDx l.1 c) (zDy l.1 c) - 1) 1 := rfl
  have hq := zsq (d := (l.2.1 : Int)) (by omega)
  refine z_iload_n F dX2_canReach_0 rfl rfl ?_
  refine z_callSN F B cal_yX10_columnIn (m_columnIn (by omega) _) dX2_canReach_1 rfl rfl (Nat.le_of_ble_eq_true rfl) (by decide) (by decide) (by decide) ml_X2_78 st_yX10_columnIn (fun v hX qX => ?_) (fun C h1 q => q.elim)
  obtain ⟨rfl, qX⟩ := qX
  rw [qX]
  clear qX hX
  refine z_aload_n F dX2_canReach_4 rfl rfl ?_
  refine z_getfield F fl_X2_75 dX2_canReach_5 (by assumption) (by decide) rfl ?_
  refine z_callSN F B cal_yX10_columnIn (m_columnIn (by omega) _) dX2_canReach_8 rfl rfl (Nat.le_of_ble_eq_true rfl) (by decide) (by decide) (by decide) ml_X2_78 st_yX10_columnIn (fun v hX qX => ?_) (fun C h1 q => q.elim)
  obtain ⟨rfl, qX⟩ := qX
  rw [qX]
  clear qX hX
  refine zi_isub F dX2_canReach_11 ?_
  refine z_istore_n F dX2_canReach_12 rfl rfl (hnl _ rfl) ?_
  refine z_iload_n F dX2_canReach_13 rfl rfl ?_
  refine z_callSN F B cal_yX10_rowIn (m_rowIn (by omega) _) dX2_canReach_14 rfl rfl (Nat.le_of_ble_eq_true rfl) (by decide) (by decide) (by decide) ml_X2_81 st_yX10_rowIn (fun v hX qX => ?_) (fun C h1 q => q.elim)
  obtain ⟨rfl, qX⟩ := qX
  rw [qX]
  clear qX hX
  refine z_aload_n F dX2_canReach_17 rfl rfl ?_
  refine z_getfield F fl_X2_75 dX2_canReach_18 (by assumption) (by decide) rfl ?_
  refine z_callSN F B cal_yX10_rowIn (m_rowIn (by omega) _) dX2_canReach_21 rfl rfl (Nat.le_of_ble_eq_true rfl) (by decide) (by decide) (by decide) ml_X2_81 st_yX10_rowIn (fun v hX qX => ?_) (fun C h1 q => q.elim)
  obtain ⟨rfl, qX⟩ := qX
  rw [qX]
  clear qX hX
  refine zi_isub F dX2_canReach_24 ?_
  refine z_istore F dX2_canReach_25 rfl (hnl _ rfl) ?_
  rw [← hdx, ← hdy]
  have hb1 : -8 < zDx l.1 c ∧ zDx l.1 c < 8 := by omega
  have hb2 : -8 < zDy l.1 c ∧ zDy l.1 c < 8 := by omega
  generalize zDx l.1 c = dx at *
  generalize zDy l.1 c = dy at *
  have hq1 := zsq (d := dx) (by omega)
  have hq2 := zsq (d := dy) (by omega)
  refine z_iload_n F dX2_canReach_27 rfl rfl ?_
  refine z_iload_n F dX2_canReach_28 rfl rfl ?_
  refine zi_imul F dX2_canReach_29 ?_
  refine z_iload F dX2_canReach_30 rfl ?_
  refine z_iload F dX2_canReach_32 rfl ?_
  refine zi_imul F dX2_canReach_34 ?_
  refine zi_iadd F dX2_canReach_35 ?_
  refine z_aload_n F dX2_canReach_36 rfl rfl ?_
  refine z_getfield F fl_X2_84 dX2_canReach_37 (by assumption) (by decide) rfl ?_
  refine z_aload_n F dX2_canReach_40 rfl rfl ?_
  refine z_getfield F fl_X2_84 dX2_canReach_41 (by assumption) (by decide) rfl ?_
  refine zi_imul F dX2_canReach_44 ?_
  refine zi_icmp_le (tgt := 50) F dX2_canReach_45 (by decide) (by omega) (fun c45 => ?_) (fun c45 => ?_); rotate_left
  · refine zi_iconst F dX2_canReach_48 ?_
    exact Z.widen (by decide) (by decide) (z_ireturn F rfl B dX2_canReach_49 ⟨vInt (by rw [h1, if_pos (by omega)]; rfl), rfl⟩)
  rw [if_neg (by omega)] at h1
  refine z_iload_n F dX2_canReach_50 rfl rfl ?_
  refine zi_abs F dX2_canReach_51 ml_X2_87 st_yJ9_abs_0f7a4 cal_yJ9_abs_0f7a4.2.1 cal_yJ9_abs_0f7a4.1 hR (by decide) (by decide) (by decide) (Nat.le_of_ble_eq_true rfl) (by omega) ?_
  refine z_iload F dX2_canReach_54 rfl ?_
  refine zi_abs F dX2_canReach_56 ml_X2_87 st_yJ9_abs_0f7a4 cal_yJ9_abs_0f7a4.2.1 cal_yJ9_abs_0f7a4.1 hR (by decide) (by decide) (by decide) (Nat.le_of_ble_eq_true rfl) (by omega) ?_
  refine zi_max F dX2_canReach_59 ml_X2_92 st_yJ9_max_7cf53 cal_yJ9_max_7cf53.2.1 cal_yJ9_max_7cf53.1 hR (by decide) (by decide) (by decide) (Nat.le_of_ble_eq_true rfl) (by omega) ?_
  have hS : (if (dx.natAbs : Int) < dy.natAbs then (dy.natAbs : Int) else dx.natAbs) = (f_stp dx dy : Nat) := by unfold f_stp; split <;> split <;> omega
  rw [hS]
  have hS2 : f_stp dx dy < 8 := by unfold f_stp; split <;> omega
  generalize f_stp dx dy = S at *
  refine z_istore F dX2_canReach_62 rfl (hnl _ rfl) ?_
  refine zi_iconst F dX2_canReach_64 ?_
  refine z_istore F dX2_canReach_65 rfl (hnl _ rfl) ?_
  suffices KK : ∀ n s : Nat, 1 ≤ s ∧ s ≤ 8 → n = S - s → f_rch C l c = f_btw C l.1 dx dy S n s → Z X 0 0 67 [(6, .int (iI s)), (0, .ref b), (1, .ref a), (3, .int (iI dx)), (4, .int (iI dy)), (5, .int (iI S))] [] h from Z.keys [6, 0, 1, 3, 4, 5] rfl (KK (S - 1) 1 (by omega) rfl h1)
  intro n
  induction n with
  | zero =>
    intro s hs0 hs he
    refine z_iload F dX2_canReach_67 rfl ?_
    refine z_iload F dX2_canReach_69 rfl ?_
    refine zi_icmp_ge (tgt := 139) F dX2_canReach_71 (by decide) (by first | omega | (dsimp only at *; omega)) (fun c71 => ?_) (fun c71 => False.elim (by first | omega | (dsimp only at *; omega)))
    refine zi_iconst F dX2_canReach_139 ?_
    exact Z.widen (by decide) (by decide) (z_ireturn F rfl B dX2_canReach_140 ⟨vInt (by rw [he]; rfl), rfl⟩)
  | succ n ih =>
    intro s hs0 hs he
    have hp1 := zprod hb1 (s := s) (by omega)
    have hp2 := zprod hb2 (s := s) (by omega)
    have hv1 := zdivb (a := 2 * (s : Int) * dx + S) (d := 2 * (S : Int)) (by omega) (by omega)
    have hv2 := zdivb (a := 2 * (s : Int) * dy + S) (d := 2 * (S : Int)) (by omega) (by omega)
    have hd9 := f_dep_le hO (l.1 + (2 * s * dy + S) / (2 * S) * 8 + (2 * s * dx + S) / (2 * S))
    unfold f_btw at he
    refine z_iload F dX2_canReach_67 rfl ?_
    refine z_iload F dX2_canReach_69 rfl ?_
    refine zi_icmp_ge (tgt := 139) F dX2_canReach_71 (by decide) (by first | omega | (dsimp only at *; omega)) (fun c71 => False.elim (by first | omega | (dsimp only at *; omega))) (fun c71 => ?_)
    refine zi_iconst F dX2_canReach_74 ?_
    refine z_iload F dX2_canReach_75 rfl ?_
    refine zi_imul F dX2_canReach_77 ?_
    refine z_iload_n F dX2_canReach_78 rfl rfl ?_
    refine zi_imul F dX2_canReach_79 ?_
    refine z_iload F dX2_canReach_80 rfl ?_
    refine zi_iadd F dX2_canReach_82 ?_
    refine zi_iconst F dX2_canReach_83 ?_
    refine z_iload F dX2_canReach_84 rfl ?_
    refine zi_imul F dX2_canReach_86 ?_
    refine z_callS F B cal_yJ9_floorDiv_7cf53 (m_floorDiv (by omega) _) dX2_canReach_87 rfl rfl (Nat.le_of_ble_eq_true rfl) (by decide) (by decide) (by decide) ml_X2_95 st_yJ9_floorDiv_7cf53 (fun v hX qX => ?_) (fun C h1 q => q.elim)
    obtain ⟨rfl, qX⟩ := qX
    rw [qX]
    clear qX hX
    refine z_istore F dX2_canReach_90 rfl (hnl _ rfl) ?_
    refine zi_iconst F dX2_canReach_92 ?_
    refine z_iload F dX2_canReach_93 rfl ?_
    refine zi_imul F dX2_canReach_95 ?_
    refine z_iload F dX2_canReach_96 rfl ?_
    refine zi_imul F dX2_canReach_98 ?_
    refine z_iload F dX2_canReach_99 rfl ?_
    refine zi_iadd F dX2_canReach_101 ?_
    refine zi_iconst F dX2_canReach_102 ?_
    refine z_iload F dX2_canReach_103 rfl ?_
    refine zi_imul F dX2_canReach_105 ?_
    refine z_callS F B cal_yJ9_floorDiv_7cf53 (m_floorDiv (by omega) _) dX2_canReach_106 rfl rfl (Nat.le_of_ble_eq_true rfl) (by decide) (by decide) (by decide) ml_X2_95 st_yJ9_floorDiv_7cf53 (fun v hX qX => ?_) (fun C h1 q => q.elim)
    obtain ⟨rfl, qX⟩ := qX
    rw [qX]
    clear qX hX
    refine z_istore F dX2_canReach_109 rfl (hnl _ rfl) ?_
    refine z_aload_n F dX2_canReach_111 rfl rfl ?_
    refine z_aload_n F dX2_canReach_112 rfl rfl ?_
    refine z_getfield F fl_X2_75 dX2_canReach_113 (by assumption) (by decide) rfl ?_
    refine z_iload F dX2_canReach_116 rfl ?_
    refine zi_bipush F dX2_canReach_118 (by decide) ?_
    refine zi_imul F dX2_canReach_120 ?_
    refine zi_iadd F dX2_canReach_121 ?_
    refine z_iload F dX2_canReach_122 rfl ?_
    refine zi_iadd F dX2_canReach_124 ?_
    refine z_callV F B cal_yX2_depthOf (m_depthOf R (by omega)) dX2_canReach_125 rfl rfl (Nat.le_of_ble_eq_true rfl) (by decide) (by decide) (by decide) ml_X2_72 im_yX2_depthOf se_yX2_depthOf R.ob (by decide) rfl rfl (fun v hX qX => ?_) (fun C h1 q => q.elim)
    obtain ⟨rfl, qX⟩ := qX
    rw [qX]
    clear qX hX
    refine zi_if_ne (tgt := 133) F dX2_canReach_128 (by decide) (by first | omega | (dsimp only at *; omega)) (fun c128 => ?_) (fun c128 => ?_)
    · refine zi_iinc F dX2_canReach_133 rfl rfl (hnl _ rfl) ?_
      refine z_goto (tgt := 67) F dX2_canReach_136 (by decide) ?_
      exact Z.keys [6, 0, 1, 3, 4, 5] rfl (ih (s + 1) (by omega) (by omega) (by rw [he, if_neg (by omega)]))
    · refine zi_iconst F dX2_canReach_131 ?_
      exact Z.widen (by decide) (by decide) (z_ireturn F rfl B dX2_canReach_132 ⟨vInt (by rw [he, if_pos (by omega)]; rfl), rfl⟩)
def f_swp (C : zCo) (l : zLt) (c : Nat) : Bool := if c = l.1 then true else if zBeam l C.2.2.2.2.1 = zSec l.1 c then f_rch C l c else false
theorem m_isSwept {a c : Nat} {l : zLt} (R : zRepC b σ τ C h) (hO : zOk K C) (hK : K < 2000000) (ha : h[a]? = some (9, zLf l)) (hl : zLok K l) (hc : c < 64) : zMet yX2_isSwept cX2_isSwept 3 (some .boolean) 3 0 0 [.ref b, .ref a, .int (iI c)] h (fun v h' => v = some (.int (iI (zBo (f_swp C l c)))) ∧ h' = h) (fun _ _ => False) := by
  refine zMet.go (by decide +kernel) (Nat.le_of_ble_eq_true rfl) ?_
  intro X F B hnl hR hn
  have hl1 := hl.1
  have hm := hO.2.2.2.2.2.1
  have hs := zSec_lt l.1 c
  have hb8 : zBeam l C.2.2.2.2.1 < 8 := Nat.mod_lt _ (by decide)
  refine z_iload_n F dX2_isSwept_0 rfl rfl ?_
  refine z_aload_n F dX2_isSwept_1 rfl rfl ?_
  refine z_getfield F fl_X2_75 dX2_isSwept_2 (by assumption) (by decide) rfl ?_
  refine zi_icmp_ne (tgt := 10) F dX2_isSwept_5 (by decide) (by first | omega | (dsimp only at *; omega)) (fun c5 => ?_) (fun c5 => ?_)
  · refine z_aload_n F dX2_isSwept_10 rfl rfl ?_
    refine z_aload_n F dX2_isSwept_11 rfl rfl ?_
    refine z_getfield F fl_X2_49 dX2_isSwept_12 R.ob (by decide) rfl ?_
    refine z_callV F B cal_yX7_sectorAt (m_sectorAt ha hl (by omega)) dX2_isSwept_15 rfl rfl (Nat.le_of_ble_eq_true rfl) (by decide) (by decide) (by decide) ml_X2_98 im_yX7_sectorAt se_yX7_sectorAt (by assumption) (by decide) rfl rfl (fun v hX qX => ?_) (fun C h1 q => q.elim)
    obtain ⟨rfl, qX⟩ := qX
    rw [qX]
    clear qX hX
    refine z_aload_n F dX2_isSwept_18 rfl rfl ?_
    refine z_iload_n F dX2_isSwept_19 rfl rfl ?_
    refine z_callV F B cal_yX7_sectorWith (m_sectorWith ha hl1 hc) dX2_isSwept_20 rfl rfl (Nat.le_of_ble_eq_true rfl) (by decide) (by decide) (by decide) ml_X2_101 im_yX7_sectorWith se_yX7_sectorWith (by assumption) (by decide) rfl rfl (fun v hX qX => ?_) (fun C h1 q => q.elim)
    obtain ⟨rfl, qX⟩ := qX
    rw [qX]
    clear qX hX
    refine zi_icmp_ne (tgt := 39) F dX2_isSwept_23 (by decide) (by first | omega | (dsimp only at *; omega)) (fun c23 => ?_) (fun c23 => ?_)
    · refine zi_iconst F dX2_isSwept_39 ?_
      exact Z.widen (by decide) (by decide) (z_ireturn F rfl B dX2_isSwept_40 ⟨vInt (by unfold f_swp; rw [if_neg (by omega)]; first | (rw [if_neg (by omega)]; rfl) | (rw [if_pos (by omega)]; cases hr : f_rch C l c <;> rw [hr] at c32 <;> first | rfl | exact absurd c32 (by decide))), rfl⟩)
    · refine z_aload_n F dX2_isSwept_26 rfl rfl ?_
      refine z_aload_n F dX2_isSwept_27 rfl rfl ?_
      refine z_iload_n F dX2_isSwept_28 rfl rfl ?_
      refine z_callV F B cal_yX2_canReach (m_canReach R hO ha hl hc) dX2_isSwept_29 rfl rfl (Nat.le_of_ble_eq_true rfl) (by decide) (by decide) (by decide) ml_X2_104 im_yX2_canReach se_yX2_canReach R.ob (by decide) rfl rfl (fun v hX qX => ?_) (fun C h1 q => q.elim)
      obtain ⟨rfl, qX⟩ := qX
      rw [qX]
      clear qX hX
      refine zi_if_eq (tgt := 39) F dX2_isSwept_32 (by decide) (zBo_b _) (fun c32 => ?_) (fun c32 => ?_)
      · refine zi_iconst F dX2_isSwept_39 ?_
        exact Z.widen (by decide) (by decide) (z_ireturn F rfl B dX2_isSwept_40 ⟨vInt (by unfold f_swp; rw [if_neg (by omega)]; first | (rw [if_neg (by omega)]; rfl) | (rw [if_pos (by omega)]; cases hr : f_rch C l c <;> rw [hr] at c32 <;> first | rfl | exact absurd c32 (by decide))), rfl⟩)
      · refine zi_iconst F dX2_isSwept_35 ?_
        refine z_goto (tgt := 40) F dX2_isSwept_36 (by decide) ?_
        exact Z.widen (by decide) (by decide) (z_ireturn F rfl B dX2_isSwept_40 ⟨vInt (by unfold f_swp; rw [if_neg (by omega)]; first | (rw [if_neg (by omega)]; rfl) | (rw [if_pos (by omega)]; cases hr : f_rch C l c <;> rw [hr] at c32 <;> first | rfl | exact absurd c32 (by decide))), rfl⟩)
  · refine zi_iconst F dX2_isSwept_8 ?_
    exact Z.widen (by decide) (by decide) (z_ireturn F rfl B dX2_isSwept_9 ⟨vInt (by unfold f_swp; rw [if_pos (by omega)]; rfl), rfl⟩)
/-- how many below n have p -/
def zcnt (p : Nat → Bool) : Nat → Nat
  | 0 => 0
  | n + 1 => zcnt p n + (if p n then 1 else 0)
theorem zcnt_le (p : Nat → Bool) : ∀ n, zcnt p n ≤ n
  | 0 => Nat.le_refl _
  | n + 1 => by have := zcnt_le p n; unfold zcnt; split <;> omega
theorem zcnt_t {p : Nat → Bool} {i : Nat} (h : p i = true) : zcnt p (i + 1) = zcnt p i + 1 := by simp [zcnt, h]
theorem zcnt_f {p : Nat → Bool} {i : Nat} (h : p i = false) : zcnt p (i + 1) = zcnt p i := by simp [zcnt, h]
def f_lsw (C : zCo) (c : Nat) : Nat := zcnt (fun i => f_swp C (C.2.1 i) c) C.2.2.2.1.1
theorem m_lightsSweeping {c : Nat} (R : zRepC b σ τ C h) (hO : zOk K C) (hK : K < 2000000) (hc : c < 64) : zMet yX2_lightsSweeping cX2_lightsSweeping 4 (some .int) 4 0 0 [.ref b, .int (iI c)] h (fun v h' => v = some (.int (iI (f_lsw C c))) ∧ h' = h) (fun _ _ => False) := by
  refine zMet.go (by decide +kernel) (Nat.le_of_ble_eq_true rfl) ?_
  intro X F B hnl hR hn
  have hl := hO.2.2.2.1
  refine zi_iconst F dX2_lightsSweeping_0 ?_
  refine z_istore_n F dX2_lightsSweeping_1 rfl rfl (hnl _ rfl) ?_
  refine zi_iconst F dX2_lightsSweeping_2 ?_
  refine z_istore_n F dX2_lightsSweeping_3 rfl rfl (hnl _ rfl) ?_
  suffices KK : ∀ n i : Nat, n + i = C.2.2.2.1.1 → Z X 0 0 4 [(3, .int (iI i)), (2, .int (iI (zcnt (fun i => f_swp C (C.2.1 i) c) i))), (0, .ref b), (1, .int (iI c))] [] h from Z.keys [3, 2, 0, 1] rfl (KK C.2.2.2.1.1 0 (by omega))
  intro n
  induction n with
  | zero =>
    intro i hi
    refine z_iload_n F dX2_lightsSweeping_4 rfl rfl ?_
    refine z_aload_n F dX2_lightsSweeping_5 rfl rfl ?_
    refine z_getfield F fl_X2_42 dX2_lightsSweeping_6 R.ob (by decide) rfl ?_
    refine zi_icmp_ge (tgt := 35) F dX2_lightsSweeping_9 (by decide) (by first | omega | (dsimp only at *; omega)) (fun c9 => ?_) (fun c9 => False.elim (by first | omega | (dsimp only at *; omega)))
    refine z_iload_n F dX2_lightsSweeping_35 rfl rfl ?_
    exact Z.widen (by decide) (by decide) (z_ireturn F rfl B dX2_lightsSweeping_36 ⟨vInt (by unfold f_lsw; rw [show i = C.2.2.2.1.1 by omega]), rfl⟩)
  | succ n ih =>
    intro i hi
    have hcn := zcnt_le (fun i => f_swp C (C.2.1 i) c) i
    refine z_iload_n F dX2_lightsSweeping_4 rfl rfl ?_
    refine z_aload_n F dX2_lightsSweeping_5 rfl rfl ?_
    refine z_getfield F fl_X2_42 dX2_lightsSweeping_6 R.ob (by decide) rfl ?_
    refine zi_icmp_ge (tgt := 35) F dX2_lightsSweeping_9 (by decide) (by first | omega | (dsimp only at *; omega)) (fun c9 => False.elim (by first | omega | (dsimp only at *; omega))) (fun c9 => ?_)
    refine z_aload_n F dX2_lightsSweeping_12 rfl rfl ?_
    refine z_aload_n F dX2_lightsSweeping_13 rfl rfl ?_
    refine z_getfield F fl_X2_17 dX2_lightsSweeping_14 R.ob (by decide) rfl ?_
    refine z_iload_n F dX2_lightsSweeping_17 rfl rfl ?_
    refine zi_aaload (i := i) F dX2_lightsSweeping_18 R.la (by decide) (by decide) rfl rfl (by omega) (zar_get (by omega)) rfl ?_
    refine z_iload_n F dX2_lightsSweeping_19 rfl rfl ?_
    refine z_callV F B cal_yX2_isSwept (m_isSwept R hO hK (R.li (by omega)) (hO.2.1 i) hc) dX2_lightsSweeping_20 rfl rfl (Nat.le_of_ble_eq_true rfl) (by decide) (by decide) (by decide) ml_X2_108 im_yX2_isSwept se_yX2_isSwept R.ob (by decide) rfl rfl (fun v hX qX => ?_) (fun C h1 q => q.elim)
    obtain ⟨rfl, qX⟩ := qX
    rw [qX]
    clear qX hX
    refine zi_if_eq (tgt := 29) F dX2_lightsSweeping_23 (by decide) (zBo_b _) (fun c23 => ?_) (fun c23 => ?_)
    · refine zi_iinc F dX2_lightsSweeping_29 rfl rfl (hnl _ rfl) ?_
      refine z_goto (tgt := 4) F dX2_lightsSweeping_32 (by decide) ?_
      exact Z.keys [3, 2, 0, 1] (by first | (rw [zcnt_t (by simp only [zBo_n] at c23; exact c23)]; rfl) | (rw [zcnt_f (by simp only [zBo_z] at c23; exact c23)]; rfl)) (ih (i + 1) (by omega))
    · refine zi_iinc F dX2_lightsSweeping_26 rfl rfl (hnl _ rfl) ?_
      refine zi_iinc F dX2_lightsSweeping_29 rfl rfl (hnl _ rfl) ?_
      refine z_goto (tgt := 4) F dX2_lightsSweeping_32 (by decide) ?_
      exact Z.keys [3, 2, 0, 1] (by first | (rw [zcnt_t (by simp only [zBo_n] at c23; exact c23)]; rfl) | (rw [zcnt_f (by simp only [zBo_z] at c23; exact c23)]; rfl)) (ih (i + 1) (by omega))
def f_dkr (C : zCo) (i j : Nat) : Bool := if (C.2.2.1 i).2.2.2.2 = (C.2.2.1 j).2.2.2.2 then (if (C.2.2.1 i).2.1 = (C.2.2.1 j).2.1 then decide (i < j) else decide ((C.2.2.1 j).2.1 < (C.2.2.1 i).2.1)) else decide ((C.2.2.1 j).2.2.2.2 < (C.2.2.1 i).2.2.2.2)
theorem m_isDarker {i j : Nat} (R : zRepC b σ τ C h) (hO : zOk K C) (hK : K < 2000000) (hi : i < 6) (hj : j < 6) : zMet yX2_isDarker cX2_isDarker 5 (some .boolean) 1 0 0 [.ref b, .int (iI i), .int (iI j)] h (fun v h' => v = some (.int (iI (zBo (f_dkr C i j)))) ∧ h' = h) (fun _ _ => False) := by
  refine zMet.go (by decide +kernel) (Nat.le_of_ble_eq_true rfl) ?_
  intro X F B hnl hR hn
  have h1 := hO.2.2.1 i
  have h2 := hO.2.2.1 j
  have r1 := R.si hi
  have r2 := R.si hj
  refine z_aload_n F dX2_isDarker_0 rfl rfl ?_
  refine z_getfield F fl_X2_23 dX2_isDarker_1 R.ob (by decide) rfl ?_
  refine z_iload_n F dX2_isDarker_4 rfl rfl ?_
  refine zi_aaload (i := i) F dX2_isDarker_5 R.sa (by decide) (by decide) rfl rfl (by omega) (zar_get (by omega)) rfl ?_
  refine z_astore_n F dX2_isDarker_6 rfl rfl (hnl _ rfl) ?_
  refine z_aload_n F dX2_isDarker_7 rfl rfl ?_
  refine z_getfield F fl_X2_23 dX2_isDarker_8 R.ob (by decide) rfl ?_
  refine z_iload_n F dX2_isDarker_11 rfl rfl ?_
  refine zi_aaload (i := j) F dX2_isDarker_12 R.sa (by decide) (by decide) rfl rfl (by omega) (zar_get (by omega)) rfl ?_
  refine z_astore F dX2_isDarker_13 rfl (hnl _ rfl) ?_
  refine z_aload_n F dX2_isDarker_15 rfl rfl ?_
  refine z_getfield F fl_X2_115 dX2_isDarker_16 (by assumption) (by decide) rfl ?_
  refine z_aload F dX2_isDarker_19 rfl ?_
  refine z_getfield F fl_X2_115 dX2_isDarker_21 (by assumption) (by decide) rfl ?_
  refine zi_icmp_eq (tgt := 45) F dX2_isDarker_24 (by decide) (by first | omega | (dsimp only at *; omega)) (fun c24 => ?_) (fun c24 => ?_)
  · refine z_aload_n F dX2_isDarker_45 rfl rfl ?_
    refine z_getfield F fl_X2_118 dX2_isDarker_46 (by assumption) (by decide) rfl ?_
    refine z_aload F dX2_isDarker_49 rfl ?_
    refine z_getfield F fl_X2_118 dX2_isDarker_51 (by assumption) (by decide) rfl ?_
    refine zi_icmp_eq (tgt := 77) F dX2_isDarker_54 (by decide) (by first | omega | (dsimp only at *; omega)) (fun c54 => ?_) (fun c54 => ?_)
    · refine z_iload_n F dX2_isDarker_77 rfl rfl ?_
      refine z_iload_n F dX2_isDarker_78 rfl rfl ?_
      refine zi_icmp_ge (tgt := 86) F dX2_isDarker_79 (by decide) (by first | omega | (dsimp only at *; omega)) (fun c79 => ?_) (fun c79 => ?_)
      · refine zi_iconst F dX2_isDarker_86 ?_
        exact Z.widen (by decide) (by decide) (z_ireturn F rfl B dX2_isDarker_87 ⟨vInt (by unfold f_dkr; (repeat' split) <;> first | (exfalso; omega) | (simp only [zBo_if]; split <;> omega)), rfl⟩)
      · refine zi_iconst F dX2_isDarker_82 ?_
        refine z_goto (tgt := 87) F dX2_isDarker_83 (by decide) ?_
        exact Z.widen (by decide) (by decide) (z_ireturn F rfl B dX2_isDarker_87 ⟨vInt (by unfold f_dkr; (repeat' split) <;> first | (exfalso; omega) | (simp only [zBo_if]; split <;> omega)), rfl⟩)
    · refine z_aload_n F dX2_isDarker_57 rfl rfl ?_
      refine z_getfield F fl_X2_118 dX2_isDarker_58 (by assumption) (by decide) rfl ?_
      refine z_aload F dX2_isDarker_61 rfl ?_
      refine z_getfield F fl_X2_118 dX2_isDarker_63 (by assumption) (by decide) rfl ?_
      refine zi_icmp_le (tgt := 73) F dX2_isDarker_66 (by decide) (by first | omega | (dsimp only at *; omega)) (fun c66 => ?_) (fun c66 => ?_)
      · refine zi_iconst F dX2_isDarker_73 ?_
        refine z_goto (tgt := 87) F dX2_isDarker_74 (by decide) ?_
        exact Z.widen (by decide) (by decide) (z_ireturn F rfl B dX2_isDarker_87 ⟨vInt (by unfold f_dkr; (repeat' split) <;> first | (exfalso; omega) | (simp only [zBo_if]; split <;> omega)), rfl⟩)
      · refine zi_iconst F dX2_isDarker_69 ?_
        refine z_goto (tgt := 87) F dX2_isDarker_70 (by decide) ?_
        exact Z.widen (by decide) (by decide) (z_ireturn F rfl B dX2_isDarker_87 ⟨vInt (by unfold f_dkr; (repeat' split) <;> first | (exfalso; omega) | (simp only [zBo_if]; split <;> omega)), rfl⟩)
  · refine z_aload_n F dX2_isDarker_27 rfl rfl ?_
    refine z_getfield F fl_X2_115 dX2_isDarker_28 (by assumption) (by decide) rfl ?_
    refine z_aload F dX2_isDarker_31 rfl ?_
    refine z_getfield F fl_X2_115 dX2_isDarker_33 (by assumption) (by decide) rfl ?_
    refine zi_icmp_le (tgt := 43) F dX2_isDarker_36 (by decide) (by first | omega | (dsimp only at *; omega)) (fun c36 => ?_) (fun c36 => ?_)
    · refine zi_iconst F dX2_isDarker_43 ?_
      exact Z.widen (by decide) (by decide) (z_ireturn F rfl B dX2_isDarker_44 ⟨vInt (by unfold f_dkr; (repeat' split) <;> first | (exfalso; omega) | (simp only [zBo_if]; split <;> omega)), rfl⟩)
    · refine zi_iconst F dX2_isDarker_39 ?_
      refine z_goto (tgt := 44) F dX2_isDarker_40 (by decide) ?_
      exact Z.widen (by decide) (by decide) (z_ireturn F rfl B dX2_isDarker_44 ⟨vInt (by unfold f_dkr; (repeat' split) <;> first | (exfalso; omega) | (simp only [zBo_if]; split <;> omega)), rfl⟩)
def f_sdt (C : zCo) (j : Nat) : Nat := zcnt (fun i => decide (i ≠ j) && f_dkr C i j) C.2.2.2.1.2
theorem m_shipsDarkerThan {j : Nat} (R : zRepC b σ τ C h) (hO : zOk K C) (hK : K < 2000000) (hj : j < 6) : zMet yX2_shipsDarkerThan cX2_shipsDarkerThan 4 (some .int) 2 0 0 [.ref b, .int (iI j)] h (fun v h' => v = some (.int (iI (f_sdt C j))) ∧ h' = h) (fun _ _ => False) := by
  refine zMet.go (by decide +kernel) (Nat.le_of_ble_eq_true rfl) ?_
  intro X F B hnl hR hn
  have hl := hO.2.2.2.2.1
  refine zi_iconst F dX2_shipsDarkerThan_0 ?_
  refine z_istore_n F dX2_shipsDarkerThan_1 rfl rfl (hnl _ rfl) ?_
  refine zi_iconst F dX2_shipsDarkerThan_2 ?_
  refine z_istore_n F dX2_shipsDarkerThan_3 rfl rfl (hnl _ rfl) ?_
  suffices KK : ∀ n i : Nat, n + i = C.2.2.2.1.2 → Z X 0 0 4 [(3, .int (iI i)), (2, .int (iI (zcnt (fun i => decide (i ≠ j) && f_dkr C i j) i))), (0, .ref b), (1, .int (iI j))] [] h from Z.keys [3, 2, 0, 1] rfl (KK C.2.2.2.1.2 0 (by omega))
  intro n
  induction n with
  | zero =>
    intro i hi
    refine z_iload_n F dX2_shipsDarkerThan_4 rfl rfl ?_
    refine z_aload_n F dX2_shipsDarkerThan_5 rfl rfl ?_
    refine z_getfield F fl_X2_46 dX2_shipsDarkerThan_6 R.ob (by decide) rfl ?_
    refine zi_icmp_ge (tgt := 35) F dX2_shipsDarkerThan_9 (by decide) (by first | omega | (dsimp only at *; omega)) (fun c9 => ?_) (fun c9 => False.elim (by first | omega | (dsimp only at *; omega)))
    refine z_iload_n F dX2_shipsDarkerThan_35 rfl rfl ?_
    exact Z.widen (by decide) (by decide) (z_ireturn F rfl B dX2_shipsDarkerThan_36 ⟨vInt (by unfold f_sdt; rw [show i = C.2.2.2.1.2 by omega]), rfl⟩)
  | succ n ih =>
    intro i hi
    have hcn := zcnt_le (fun i => decide (i ≠ j) && f_dkr C i j) i
    refine z_iload_n F dX2_shipsDarkerThan_4 rfl rfl ?_
    refine z_aload_n F dX2_shipsDarkerThan_5 rfl rfl ?_
    refine z_getfield F fl_X2_46 dX2_shipsDarkerThan_6 R.ob (by decide) rfl ?_
    refine zi_icmp_ge (tgt := 35) F dX2_shipsDarkerThan_9 (by decide) (by first | omega | (dsimp only at *; omega)) (fun c9 => False.elim (by first | omega | (dsimp only at *; omega))) (fun c9 => ?_)
    refine z_iload_n F dX2_shipsDarkerThan_12 rfl rfl ?_
    refine z_iload_n F dX2_shipsDarkerThan_13 rfl rfl ?_
    refine zi_icmp_eq (tgt := 29) F dX2_shipsDarkerThan_14 (by decide) (by first | omega | (dsimp only at *; omega)) (fun c14 => ?_) (fun c14 => ?_)
    · refine zi_iinc F dX2_shipsDarkerThan_29 rfl rfl (hnl _ rfl) ?_
      refine z_goto (tgt := 4) F dX2_shipsDarkerThan_32 (by decide) ?_
      exact Z.keys [3, 2, 0, 1] (by first | (rw [zcnt_t (by simp only [zBo_n] at c23; simp [c23]; omega)]; rfl) | (rw [zcnt_f (by simp only [zBo_z] at c23; simp [c23])]; rfl) | (rw [zcnt_f (by simp [show i = j by omega])]; rfl)) (ih (i + 1) (by omega))
    · refine z_aload_n F dX2_shipsDarkerThan_17 rfl rfl ?_
      refine z_iload_n F dX2_shipsDarkerThan_18 rfl rfl ?_
      refine z_iload_n F dX2_shipsDarkerThan_19 rfl rfl ?_
      refine z_callV F B cal_yX2_isDarker (m_isDarker R hO hK (by omega) hj) dX2_shipsDarkerThan_20 rfl rfl (Nat.le_of_ble_eq_true rfl) (by decide) (by decide) (by decide) ml_X2_111 im_yX2_isDarker se_yX2_isDarker R.ob (by decide) rfl rfl (fun v hX qX => ?_) (fun C h1 q => q.elim)
      obtain ⟨rfl, qX⟩ := qX
      rw [qX]
      clear qX hX
      refine zi_if_eq (tgt := 29) F dX2_shipsDarkerThan_23 (by decide) (zBo_b _) (fun c23 => ?_) (fun c23 => ?_)
      · refine zi_iinc F dX2_shipsDarkerThan_29 rfl rfl (hnl _ rfl) ?_
        refine z_goto (tgt := 4) F dX2_shipsDarkerThan_32 (by decide) ?_
        exact Z.keys [3, 2, 0, 1] (by first | (rw [zcnt_t (by simp only [zBo_n] at c23; simp [c23]; omega)]; rfl) | (rw [zcnt_f (by simp only [zBo_z] at c23; simp [c23])]; rfl) | (rw [zcnt_f (by simp [show i = j by omega])]; rfl)) (ih (i + 1) (by omega))
      · refine zi_iinc F dX2_shipsDarkerThan_26 rfl rfl (hnl _ rfl) ?_
        refine zi_iinc F dX2_shipsDarkerThan_29 rfl rfl (hnl _ rfl) ?_
        refine z_goto (tgt := 4) F dX2_shipsDarkerThan_32 (by decide) ?_
        exact Z.keys [3, 2, 0, 1] (by first | (rw [zcnt_t (by simp only [zBo_n] at c23; simp [c23]; omega)]; rfl) | (rw [zcnt_f (by simp only [zBo_z] at c23; simp [c23])]; rfl) | (rw [zcnt_f (by simp [show i = j by omega])]; rfl)) (ih (i + 1) (by omega))
end
