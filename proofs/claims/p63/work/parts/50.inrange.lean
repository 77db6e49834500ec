/-! reading calls with arguments in range: they make no cell and throw nothing -/
section
variable {o K : Nat} {S : zBt} {σ τ : Nat → Nat} {C : zCo} {h : zH}
theorem n_existingCell {x y : Int} (hv : 0 ≤ x ∧ x < 8 ∧ 0 ≤ y ∧ y < 8) : zMet yX10_existingCell cX10_existingCell 2 (some .int) 2 0 0 [.int (iI x), .int (iI y)] h (fun v h' => v = some (.int (iI (8 * y + x))) ∧ h' = h) (fun _ _ => False) := by
  refine zMet.go (by decide +kernel) (Nat.le_of_ble_eq_true rfl) ?_
  intro X F B hnl hR hn
  refine z_iload_n F dX10_existingCell_0 rfl rfl ?_
  refine z_iload_n F dX10_existingCell_1 rfl rfl ?_
  refine z_callS F B cal_yX10_isCell (m_isCell (by omega) (by omega) _) dX10_existingCell_2 rfl rfl (Nat.le_of_ble_eq_true rfl) (by decide) (by decide) (by decide) ml_X10_410 st_yX10_isCell (fun v hX qX => ?_) (fun C h1 q => q.elim)
  obtain ⟨rfl, qX⟩ := qX
  rw [qX]
  clear qX hX
  rw [if_pos hv]
  refine zi_if_ne (tgt := 19) F dX10_existingCell_5 (by decide) (by first | omega | (dsimp only at *; omega)) (fun c5 => ?_) (fun c5 => False.elim (by first | omega | (dsimp only at *; omega)))
  refine z_iload_n F dX10_existingCell_19 rfl rfl ?_
  refine zi_bipush F dX10_existingCell_20 (by decide) ?_
  refine zi_imul F dX10_existingCell_22 ?_
  refine z_iload_n F dX10_existingCell_23 rfl rfl ?_
  refine zi_iadd F dX10_existingCell_24 ?_
  exact Z.widen (by decide) (by decide) (z_ireturn F rfl B dX10_existingCell_25 ⟨vInt (by omega), rfl⟩)
theorem n_depth {x y : Int} (hv : 0 ≤ x ∧ x < 8 ∧ 0 ≤ y ∧ y < 8) (ho : h[o]? = some (12, zBf o S)) (R : zRepC (o + 1) σ τ C h) (hO : zOk K C) (hK : K < 2000000) : zMet yX10_depth cX10_depth 3 (some .int) 3 0 0 [.ref o, .int (iI x), .int (iI y)] h (fun v h' => v = some (.int (iI ((C.1 (8 * y + x).toNat : Nat)))) ∧ h' = h) (fun _ _ => False) := by
  refine zMet.go (by decide +kernel) (Nat.le_of_ble_eq_true rfl) ?_
  intro X F B hnl hR hn
  refine z_aload_n F dX10_depth_0 rfl rfl ?_
  refine z_getfield F fl_X10_12 dX10_depth_1 ho (by decide) rfl ?_
  refine z_iload_n F dX10_depth_4 rfl rfl ?_
  refine z_iload_n F dX10_depth_5 rfl rfl ?_
  refine z_callS F B cal_yX10_existingCell (n_existingCell hv) dX10_depth_6 rfl rfl (Nat.le_of_ble_eq_true rfl) (by decide) (by decide) (by decide) ml_X10_74 st_yX10_existingCell (fun v hX qX => ?_) (fun C h1 q => q.elim)
  obtain ⟨rfl, qX⟩ := qX
  rw [qX]
  clear qX hX
  refine z_callV F B cal_yX2_depthOf (m_depthOf R (by omega)) dX10_depth_9 rfl rfl (Nat.le_of_ble_eq_true rfl) (by decide) (by decide) (by decide) ml_X10_78 im_yX2_depthOf se_yX2_depthOf R.ob (by decide) rfl rfl (fun v hX qX => ?_) (fun C h1 q => q.elim)
  obtain ⟨rfl, qX⟩ := qX
  rw [qX]
  clear qX hX
  exact Z.widen (by decide) (by decide) (z_ireturn F rfl B dX10_depth_12 ⟨by unfold f_dep; rw [if_pos (by omega)], rfl⟩)
theorem n_water {x y : Int} (hv : 0 ≤ x ∧ x < 8 ∧ 0 ≤ y ∧ y < 8) (ho : h[o]? = some (12, zBf o S)) (R : zRepC (o + 1) σ τ C h) (hO : zOk K C) (hK : K < 2000000) : zMet yX10_water cX10_water 3 (some .int) 4 0 0 [.ref o, .int (iI x), .int (iI y)] h (fun v h' => v = some (.int (iI ((f_wa C (8 * y + x) : Nat)))) ∧ h' = h) (fun _ _ => False) := by
  refine zMet.go (by decide +kernel) (Nat.le_of_ble_eq_true rfl) ?_
  intro X F B hnl hR hn
  refine z_aload_n F dX10_water_0 rfl rfl ?_
  refine z_getfield F fl_X10_12 dX10_water_1 ho (by decide) rfl ?_
  refine z_iload_n F dX10_water_4 rfl rfl ?_
  refine z_iload_n F dX10_water_5 rfl rfl ?_
  refine z_callS F B cal_yX10_existingCell (n_existingCell hv) dX10_water_6 rfl rfl (Nat.le_of_ble_eq_true rfl) (by decide) (by decide) (by decide) ml_X10_74 st_yX10_existingCell (fun v hX qX => ?_) (fun C h1 q => q.elim)
  obtain ⟨rfl, qX⟩ := qX
  rw [qX]
  clear qX hX
  refine z_callV F B cal_yX2_waterOf (m_waterOf R hO hK (by omega)) dX10_water_9 rfl rfl (Nat.le_of_ble_eq_true rfl) (by decide) (by decide) (by decide) ml_X10_81 im_yX2_waterOf se_yX2_waterOf R.ob (by decide) rfl rfl (fun v hX qX => ?_) (fun C h1 q => q.elim)
  obtain ⟨rfl, qX⟩ := qX
  rw [qX]
  clear qX hX
  exact Z.widen (by decide) (by decide) (z_ireturn F rfl B dX10_water_12 ⟨rfl, rfl⟩)
theorem n_existingLight {i : Nat} (hi : i < C.2.2.2.1.1) (ho : h[o]? = some (12, zBf o S)) (R : zRepC (o + 1) σ τ C h) (hO : zOk K C) (hK : K < 2000000) : zMet yX10_existingLight cX10_existingLight 2 (some (.object "BeamChart$Light")) 2 0 0 [.ref o, .int (iI i)] h (fun v h' => v = some (.ref (σ i)) ∧ h' = h) (fun _ _ => False) := by
  refine zMet.go (by decide +kernel) (Nat.le_of_ble_eq_true rfl) ?_
  intro X F B hnl hR hn
  have hl6 := hO.2.2.2.1
  refine z_aload_n F dX10_existingLight_0 rfl rfl ?_
  refine z_getfield F fl_X10_12 dX10_existingLight_1 ho (by decide) rfl ?_
  refine z_iload_n F dX10_existingLight_4 rfl rfl ?_
  refine z_callV F B cal_yX2_hasLight (m_hasLight R hO (by omega)) dX10_existingLight_5 rfl rfl (Nat.le_of_ble_eq_true rfl) (by decide) (by decide) (by decide) ml_X10_420 im_yX2_hasLight se_yX2_hasLight R.ob (by decide) rfl rfl (fun v hX qX => ?_) (fun C h1 q => q.elim)
  obtain ⟨rfl, qX⟩ := qX
  rw [qX]
  clear qX hX
  rw [if_pos (by omega)]
  refine zi_if_ne (tgt := 22) F dX10_existingLight_8 (by decide) (by first | omega | (dsimp only at *; omega)) (fun c8 => ?_) (fun c8 => False.elim (by first | omega | (dsimp only at *; omega)))
  refine z_aload_n F dX10_existingLight_22 rfl rfl ?_
  refine z_getfield F fl_X10_12 dX10_existingLight_23 ho (by decide) rfl ?_
  refine z_getfield F fl_X10_280 dX10_existingLight_26 R.ob (by decide) rfl ?_
  refine z_iload_n F dX10_existingLight_29 rfl rfl ?_
  refine zi_aaload (i := i) F dX10_existingLight_30 R.la (by decide) (by decide) rfl rfl (by omega) (zar_get (by omega)) rfl ?_
  exact Z.widen (by decide) (by decide) (z_areturn F (Or.inl ⟨_, rfl⟩) B dX10_existingLight_31 ⟨rfl, rfl⟩)
theorem n_existingShip {i : Nat} (hi : i < C.2.2.2.1.2) (ho : h[o]? = some (12, zBf o S)) (R : zRepC (o + 1) σ τ C h) (hO : zOk K C) (hK : K < 2000000) : zMet yX10_existingShip cX10_existingShip 2 (some (.object "BeamChart$Ship")) 2 0 0 [.ref o, .int (iI i)] h (fun v h' => v = some (.ref (τ i)) ∧ h' = h) (fun _ _ => False) := by
  refine zMet.go (by decide +kernel) (Nat.le_of_ble_eq_true rfl) ?_
  intro X F B hnl hR hn
  have hl6 := hO.2.2.2.2.1
  refine z_aload_n F dX10_existingShip_0 rfl rfl ?_
  refine z_getfield F fl_X10_12 dX10_existingShip_1 ho (by decide) rfl ?_
  refine z_iload_n F dX10_existingShip_4 rfl rfl ?_
  refine z_callV F B cal_yX2_hasShip (m_hasShip R hO (by omega)) dX10_existingShip_5 rfl rfl (Nat.le_of_ble_eq_true rfl) (by decide) (by decide) (by decide) ml_X10_433 im_yX2_hasShip se_yX2_hasShip R.ob (by decide) rfl rfl (fun v hX qX => ?_) (fun C h1 q => q.elim)
  obtain ⟨rfl, qX⟩ := qX
  rw [qX]
  clear qX hX
  rw [if_pos (by omega)]
  refine zi_if_ne (tgt := 22) F dX10_existingShip_8 (by decide) (by first | omega | (dsimp only at *; omega)) (fun c8 => ?_) (fun c8 => False.elim (by first | omega | (dsimp only at *; omega)))
  refine z_aload_n F dX10_existingShip_22 rfl rfl ?_
  refine z_getfield F fl_X10_12 dX10_existingShip_23 ho (by decide) rfl ?_
  refine z_getfield F fl_X10_301 dX10_existingShip_26 R.ob (by decide) rfl ?_
  refine z_iload_n F dX10_existingShip_29 rfl rfl ?_
  refine zi_aaload (i := i) F dX10_existingShip_30 R.sa (by decide) (by decide) rfl rfl (by omega) (zar_get (by omega)) rfl ?_
  exact Z.widen (by decide) (by decide) (z_areturn F (Or.inl ⟨_, rfl⟩) B dX10_existingShip_31 ⟨rfl, rfl⟩)
theorem n_beam {i : Nat} (hi : i < C.2.2.2.1.1) (ho : h[o]? = some (12, zBf o S)) (R : zRepC (o + 1) σ τ C h) (hO : zOk K C) (hK : K < 2000000) : zMet yX10_beam cX10_beam 2 (some .int) 3 0 0 [.ref o, .int (iI i)] h (fun v h' => v = some (.int (iI ((zBeam (C.2.1 i) C.2.2.2.2.1 : Nat)))) ∧ h' = h) (fun _ _ => False) := by
  refine zMet.go (by decide +kernel) (Nat.le_of_ble_eq_true rfl) ?_
  intro X F B hnl hR hn
  have hl6 := hO.2.2.2.1
  have hm := hO.2.2.2.2.2.1
  have hl1 := (hO.2.1 i).1
  refine z_aload_n F dX10_beam_0 rfl rfl ?_
  refine z_iload_n F dX10_beam_1 rfl rfl ?_
  refine z_callV F B cal_yX10_existingLight (n_existingLight hi ho R hO hK) dX10_beam_2 rfl rfl (Nat.le_of_ble_eq_true rfl) (by decide) (by decide) (by decide) ml_X10_147 im_yX10_existingLight se_yX10_existingLight ho (by decide) rfl rfl (fun v hX qX => ?_) (fun C h1 q => q.elim)
  obtain ⟨rfl, qX⟩ := qX
  rw [qX]
  clear qX hX
  refine z_aload_n F dX10_beam_5 rfl rfl ?_
  refine z_getfield F fl_X10_12 dX10_beam_6 ho (by decide) rfl ?_
  refine z_getfield F fl_X10_84 dX10_beam_9 R.ob (by decide) rfl ?_
  refine z_callV F B cal_yX7_sectorAt (m_sectorAt (R.li (by omega)) (hO.2.1 i) (by omega)) dX10_beam_12 rfl rfl (Nat.le_of_ble_eq_true rfl) (by decide) (by decide) (by decide) ml_X10_151 im_yX7_sectorAt se_yX7_sectorAt (R.li (by omega)) (by decide) rfl rfl (fun v hX qX => ?_) (fun C h1 q => q.elim)
  obtain ⟨rfl, qX⟩ := qX
  rw [qX]
  clear qX hX
  exact Z.widen (by decide) (by decide) (z_ireturn F rfl B dX10_beam_15 ⟨rfl, rfl⟩)
theorem n_sightingsOf {i : Nat} (hi : i < C.2.2.2.1.1) (ho : h[o]? = some (12, zBf o S)) (R : zRepC (o + 1) σ τ C h) (hO : zOk K C) (hK : K < 2000000) : zMet yX10_sightingsOf cX10_sightingsOf 2 (some .int) 3 0 0 [.ref o, .int (iI i)] h (fun v h' => v = some (.int (iI (((C.2.1 i).2.2.2.2 : Nat)))) ∧ h' = h) (fun _ _ => False) := by
  refine zMet.go (by decide +kernel) (Nat.le_of_ble_eq_true rfl) ?_
  intro X F B hnl hR hn
  have hl6 := hO.2.2.2.1
  have hm := hO.2.2.2.2.2.1
  have hl1 := (hO.2.1 i).1
  refine z_aload_n F dX10_sightingsOf_0 rfl rfl ?_
  refine z_iload_n F dX10_sightingsOf_1 rfl rfl ?_
  refine z_callV F B cal_yX10_existingLight (n_existingLight hi ho R hO hK) dX10_sightingsOf_2 rfl rfl (Nat.le_of_ble_eq_true rfl) (by decide) (by decide) (by decide) ml_X10_147 im_yX10_existingLight se_yX10_existingLight ho (by decide) rfl rfl (fun v hX qX => ?_) (fun C h1 q => q.elim)
  obtain ⟨rfl, qX⟩ := qX
  rw [qX]
  clear qX hX
  refine z_getfield F fl_X10_273 dX10_sightingsOf_5 (R.li (by omega)) (by decide) rfl ?_
  exact Z.widen (by decide) (by decide) (z_ireturn F rfl B dX10_sightingsOf_8 ⟨rfl, rfl⟩)
theorem n_reaches {i : Nat} {x y : Int} (hi : i < C.2.2.2.1.1) (hv : 0 ≤ x ∧ x < 8 ∧ 0 ≤ y ∧ y < 8) (ho : h[o]? = some (12, zBf o S)) (R : zRepC (o + 1) σ τ C h) (hO : zOk K C) (hK : K < 2000000) : zMet yX10_reaches cX10_reaches 5 (some .boolean) 4 0 0 [.ref o, .int (iI i), .int (iI x), .int (iI y)] h (fun v h' => v = some (.int (iI (zBo (f_rch C (C.2.1 i) (8 * y + x).toNat)))) ∧ h' = h) (fun _ _ => False) := by
  refine zMet.go (by decide +kernel) (Nat.le_of_ble_eq_true rfl) ?_
  intro X F B hnl hR hn
  have hl6 := hO.2.2.2.1
  have hm := hO.2.2.2.2.2.1
  have hl1 := (hO.2.1 i).1
  refine z_aload_n F dX10_reaches_0 rfl rfl ?_
  refine z_iload_n F dX10_reaches_1 rfl rfl ?_
  refine z_callV F B cal_yX10_existingLight (n_existingLight hi ho R hO hK) dX10_reaches_2 rfl rfl (Nat.le_of_ble_eq_true rfl) (by decide) (by decide) (by decide) ml_X10_147 im_yX10_existingLight se_yX10_existingLight ho (by decide) rfl rfl (fun v hX qX => ?_) (fun C h1 q => q.elim)
  obtain ⟨rfl, qX⟩ := qX
  rw [qX]
  clear qX hX
  refine z_astore F dX10_reaches_5 rfl (hnl _ rfl) ?_
  refine z_aload_n F dX10_reaches_7 rfl rfl ?_
  refine z_getfield F fl_X10_12 dX10_reaches_8 ho (by decide) rfl ?_
  refine z_aload F dX10_reaches_11 rfl ?_
  refine z_iload_n F dX10_reaches_13 rfl rfl ?_
  refine z_iload_n F dX10_reaches_14 rfl rfl ?_
  refine z_callS F B cal_yX10_existingCell (n_existingCell hv) dX10_reaches_15 rfl rfl (Nat.le_of_ble_eq_true rfl) (by decide) (by decide) (by decide) ml_X10_74 st_yX10_existingCell (fun v hX qX => ?_) (fun C h1 q => q.elim)
  obtain ⟨rfl, qX⟩ := qX
  rw [qX]
  clear qX hX
  rw [show (8 * y + x : Int) = (((8 * y + x).toNat : Nat) : Int) by omega]
  refine z_callV F B cal_yX2_canReach (m_canReach R hO (R.li (by omega)) (hO.2.1 i) (by omega)) dX10_reaches_18 rfl rfl (Nat.le_of_ble_eq_true rfl) (by decide) (by decide) (by decide) ml_X10_164 im_yX2_canReach se_yX2_canReach R.ob (by decide) rfl rfl (fun v hX qX => ?_) (fun C h1 q => q.elim)
  obtain ⟨rfl, qX⟩ := qX
  rw [qX]
  clear qX hX
  exact Z.widen (by decide) (by decide) (z_ireturn F (zBo_nar _) B dX10_reaches_21 ⟨rfl, rfl⟩)
theorem n_sweeps {i : Nat} {x y : Int} (hi : i < C.2.2.2.1.1) (hv : 0 ≤ x ∧ x < 8 ∧ 0 ≤ y ∧ y < 8) (ho : h[o]? = some (12, zBf o S)) (R : zRepC (o + 1) σ τ C h) (hO : zOk K C) (hK : K < 2000000) : zMet yX10_sweeps cX10_sweeps 5 (some .boolean) 4 0 0 [.ref o, .int (iI i), .int (iI x), .int (iI y)] h (fun v h' => v = some (.int (iI (zBo (f_swp C (C.2.1 i) (8 * y + x).toNat)))) ∧ h' = h) (fun _ _ => False) := by
  refine zMet.go (by decide +kernel) (Nat.le_of_ble_eq_true rfl) ?_
  intro X F B hnl hR hn
  have hl6 := hO.2.2.2.1
  have hm := hO.2.2.2.2.2.1
  have hl1 := (hO.2.1 i).1
  refine z_aload_n F dX10_sweeps_0 rfl rfl ?_
  refine z_iload_n F dX10_sweeps_1 rfl rfl ?_
  refine z_callV F B cal_yX10_existingLight (n_existingLight hi ho R hO hK) dX10_sweeps_2 rfl rfl (Nat.le_of_ble_eq_true rfl) (by decide) (by decide) (by decide) ml_X10_147 im_yX10_existingLight se_yX10_existingLight ho (by decide) rfl rfl (fun v hX qX => ?_) (fun C h1 q => q.elim)
  obtain ⟨rfl, qX⟩ := qX
  rw [qX]
  clear qX hX
  refine z_astore F dX10_sweeps_5 rfl (hnl _ rfl) ?_
  refine z_aload_n F dX10_sweeps_7 rfl rfl ?_
  refine z_getfield F fl_X10_12 dX10_sweeps_8 ho (by decide) rfl ?_
  refine z_aload F dX10_sweeps_11 rfl ?_
  refine z_iload_n F dX10_sweeps_13 rfl rfl ?_
  refine z_iload_n F dX10_sweeps_14 rfl rfl ?_
  refine z_callS F B cal_yX10_existingCell (n_existingCell hv) dX10_sweeps_15 rfl rfl (Nat.le_of_ble_eq_true rfl) (by decide) (by decide) (by decide) ml_X10_74 st_yX10_existingCell (fun v hX qX => ?_) (fun C h1 q => q.elim)
  obtain ⟨rfl, qX⟩ := qX
  rw [qX]
  clear qX hX
  rw [show (8 * y + x : Int) = (((8 * y + x).toNat : Nat) : Int) by omega]
  refine z_callV F B cal_yX2_isSwept (m_isSwept R hO hK (R.li (by omega)) (hO.2.1 i) (by omega)) dX10_sweeps_18 rfl rfl (Nat.le_of_ble_eq_true rfl) (by decide) (by decide) (by decide) ml_X10_168 im_yX2_isSwept se_yX2_isSwept R.ob (by decide) rfl rfl (fun v hX qX => ?_) (fun C h1 q => q.elim)
  obtain ⟨rfl, qX⟩ := qX
  rw [qX]
  clear qX hX
  exact Z.widen (by decide) (by decide) (z_ireturn F (zBo_nar _) B dX10_sweeps_21 ⟨rfl, rfl⟩)
theorem n_columnOf {i : Nat} (hi : i < C.2.2.2.1.2) (ho : h[o]? = some (12, zBf o S)) (R : zRepC (o + 1) σ τ C h) (hO : zOk K C) (hK : K < 2000000) : zMet yX10_columnOf cX10_columnOf 2 (some .int) 3 0 0 [.ref o, .int (iI i)] h (fun v h' => v = some (.int (iI (((C.2.2.1 i).1 : Int) % 8))) ∧ h' = h) (fun _ _ => False) := by
  refine zMet.go (by decide +kernel) (Nat.le_of_ble_eq_true rfl) ?_
  intro X F B hnl hR hn
  have hn6 := hO.2.2.2.2.1
  have hc6 := (hO.2.2.1 i).1
  refine z_aload_n F dX10_columnOf_0 rfl rfl ?_
  refine z_iload_n F dX10_columnOf_1 rfl rfl ?_
  refine z_callV F B cal_yX10_existingShip (n_existingShip hi ho R hO hK) dX10_columnOf_2 rfl rfl (Nat.le_of_ble_eq_true rfl) (by decide) (by decide) (by decide) ml_X10_225 im_yX10_existingShip se_yX10_existingShip ho (by decide) rfl rfl (fun v hX qX => ?_) (fun C h1 q => q.elim)
  obtain ⟨rfl, qX⟩ := qX
  rw [qX]
  clear qX hX
  refine z_getfield F fl_X10_229 dX10_columnOf_5 (R.si (by omega)) (by decide) rfl ?_
  refine z_callS F B cal_yX10_columnIn (m_columnIn (by omega) _) dX10_columnOf_8 rfl rfl (Nat.le_of_ble_eq_true rfl) (by decide) (by decide) (by decide) ml_X10_93 st_yX10_columnIn (fun v hX qX => ?_) (fun C h1 q => q.elim)
  obtain ⟨rfl, qX⟩ := qX
  rw [qX]
  clear qX hX
  exact Z.widen (by decide) (by decide) (z_ireturn F rfl B dX10_columnOf_11 ⟨rfl, rfl⟩)
theorem n_rowOf {i : Nat} (hi : i < C.2.2.2.1.2) (ho : h[o]? = some (12, zBf o S)) (R : zRepC (o + 1) σ τ C h) (hO : zOk K C) (hK : K < 2000000) : zMet yX10_rowOf cX10_rowOf 2 (some .int) 3 0 0 [.ref o, .int (iI i)] h (fun v h' => v = some (.int (iI (((C.2.2.1 i).1 : Int) / 8))) ∧ h' = h) (fun _ _ => False) := by
  refine zMet.go (by decide +kernel) (Nat.le_of_ble_eq_true rfl) ?_
  intro X F B hnl hR hn
  have hn6 := hO.2.2.2.2.1
  have hc6 := (hO.2.2.1 i).1
  refine z_aload_n F dX10_rowOf_0 rfl rfl ?_
  refine z_iload_n F dX10_rowOf_1 rfl rfl ?_
  refine z_callV F B cal_yX10_existingShip (n_existingShip hi ho R hO hK) dX10_rowOf_2 rfl rfl (Nat.le_of_ble_eq_true rfl) (by decide) (by decide) (by decide) ml_X10_225 im_yX10_existingShip se_yX10_existingShip ho (by decide) rfl rfl (fun v hX qX => ?_) (fun C h1 q => q.elim)
  obtain ⟨rfl, qX⟩ := qX
  rw [qX]
  clear qX hX
  refine z_getfield F fl_X10_229 dX10_rowOf_5 (R.si (by omega)) (by decide) rfl ?_
  refine z_callS F B cal_yX10_rowIn (m_rowIn (by omega) _) dX10_rowOf_8 rfl rfl (Nat.le_of_ble_eq_true rfl) (by decide) (by decide) (by decide) ml_X10_96 st_yX10_rowIn (fun v hX qX => ?_) (fun C h1 q => q.elim)
  obtain ⟨rfl, qX⟩ := qX
  rw [qX]
  clear qX hX
  exact Z.widen (by decide) (by decide) (z_ireturn F rfl B dX10_rowOf_11 ⟨rfl, rfl⟩)
theorem n_isWrecked {i : Nat} (hi : i < C.2.2.2.1.2) (ho : h[o]? = some (12, zBf o S)) (R : zRepC (o + 1) σ τ C h) (hO : zOk K C) (hK : K < 2000000) : zMet yX10_isWrecked cX10_isWrecked 2 (some .boolean) 3 0 0 [.ref o, .int (iI i)] h (fun v h' => v = some (.int (iI (zBo (C.2.2.1 i).2.2.2.1))) ∧ h' = h) (fun _ _ => False) := by
  refine zMet.go (by decide +kernel) (Nat.le_of_ble_eq_true rfl) ?_
  intro X F B hnl hR hn
  have hn6 := hO.2.2.2.2.1
  have hc6 := (hO.2.2.1 i).1
  refine z_aload_n F dX10_isWrecked_0 rfl rfl ?_
  refine z_iload_n F dX10_isWrecked_1 rfl rfl ?_
  refine z_callV F B cal_yX10_existingShip (n_existingShip hi ho R hO hK) dX10_isWrecked_2 rfl rfl (Nat.le_of_ble_eq_true rfl) (by decide) (by decide) (by decide) ml_X10_225 im_yX10_existingShip se_yX10_existingShip ho (by decide) rfl rfl (fun v hX qX => ?_) (fun C h1 q => q.elim)
  obtain ⟨rfl, qX⟩ := qX
  rw [qX]
  clear qX hX
  refine z_getfield F fl_X10_236 dX10_isWrecked_5 (R.si (by omega)) (by decide) rfl ?_
  exact Z.widen (by decide) (by decide) (z_ireturn F (zBo_nar _) B dX10_isWrecked_8 ⟨rfl, rfl⟩)
theorem n_darkMinutes {i : Nat} (hi : i < C.2.2.2.1.2) (ho : h[o]? = some (12, zBf o S)) (R : zRepC (o + 1) σ τ C h) (hO : zOk K C) (hK : K < 2000000) : zMet yX10_darkMinutes cX10_darkMinutes 2 (some .int) 3 0 0 [.ref o, .int (iI i)] h (fun v h' => v = some (.int (iI (((C.2.2.1 i).2.2.2.2 : Nat)))) ∧ h' = h) (fun _ _ => False) := by
  refine zMet.go (by decide +kernel) (Nat.le_of_ble_eq_true rfl) ?_
  intro X F B hnl hR hn
  have hn6 := hO.2.2.2.2.1
  have hc6 := (hO.2.2.1 i).1
  refine z_aload_n F dX10_darkMinutes_0 rfl rfl ?_
  refine z_iload_n F dX10_darkMinutes_1 rfl rfl ?_
  refine z_callV F B cal_yX10_existingShip (n_existingShip hi ho R hO hK) dX10_darkMinutes_2 rfl rfl (Nat.le_of_ble_eq_true rfl) (by decide) (by decide) (by decide) ml_X10_225 im_yX10_existingShip se_yX10_existingShip ho (by decide) rfl rfl (fun v hX qX => ?_) (fun C h1 q => q.elim)
  obtain ⟨rfl, qX⟩ := qX
  rw [qX]
  clear qX hX
  refine z_getfield F fl_X10_243 dX10_darkMinutes_5 (R.si (by omega)) (by decide) rfl ?_
  exact Z.widen (by decide) (by decide) (z_ireturn F rfl B dX10_darkMinutes_8 ⟨rfl, rfl⟩)
theorem n_seenBy {i : Nat} (hi : i < C.2.2.2.1.2) (ho : h[o]? = some (12, zBf o S)) (R : zRepC (o + 1) σ τ C h) (hO : zOk K C) (hK : K < 2000000) : zMet yX10_seenBy cX10_seenBy 2 (some .int) 5 0 0 [.ref o, .int (iI i)] h (fun v h' => v = some (.int (iI ((f_lsw C (C.2.2.1 i).1 : Nat)))) ∧ h' = h) (fun _ _ => False) := by
  refine zMet.go (by decide +kernel) (Nat.le_of_ble_eq_true rfl) ?_
  intro X F B hnl hR hn
  have hn6 := hO.2.2.2.2.1
  have hc6 := (hO.2.2.1 i).1
  refine z_aload_n F dX10_seenBy_0 rfl rfl ?_
  refine z_getfield F fl_X10_12 dX10_seenBy_1 ho (by decide) rfl ?_
  refine z_aload_n F dX10_seenBy_4 rfl rfl ?_
  refine z_iload_n F dX10_seenBy_5 rfl rfl ?_
  refine z_callV F B cal_yX10_existingShip (n_existingShip hi ho R hO hK) dX10_seenBy_6 rfl rfl (Nat.le_of_ble_eq_true rfl) (by decide) (by decide) (by decide) ml_X10_225 im_yX10_existingShip se_yX10_existingShip ho (by decide) rfl rfl (fun v hX qX => ?_) (fun C h1 q => q.elim)
  obtain ⟨rfl, qX⟩ := qX
  rw [qX]
  clear qX hX
  refine z_getfield F fl_X10_229 dX10_seenBy_9 (R.si (by omega)) (by decide) rfl ?_
  refine z_callV F B cal_yX2_lightsSweeping (m_lightsSweeping R hO hK (hO.2.2.1 i).1) dX10_seenBy_12 rfl rfl (Nat.le_of_ble_eq_true rfl) (by decide) (by decide) (by decide) ml_X10_240 im_yX2_lightsSweeping se_yX2_lightsSweeping R.ob (by decide) rfl rfl (fun v hX qX => ?_) (fun C h1 q => q.elim)
  obtain ⟨rfl, qX⟩ := qX
  rw [qX]
  clear qX hX
  exact Z.widen (by decide) (by decide) (z_ireturn F rfl B dX10_seenBy_15 ⟨rfl, rfl⟩)
theorem n_cellByDepth {z : Int} (hz : zI32 z) (hzr : 0 ≤ z ∧ z < (f_ord C).length) (ho : h[o]? = some (12, zBf o S)) (R : zRepC (o + 1) σ τ C h) (hO : zOk K C) (hK : K < 2000000) : zMet yX10_cellByDepth cX10_cellByDepth 5 (some .int) 1 0 0 [.ref o, .int (iI z)] h (fun v h' => (∃ c : Nat, c < 64 ∧ 0 ≤ z ∧ (f_ord C)[z.toNat]? = some c ∧ v = some (.int (iI c))) ∧ h' = h) (fun _ _ => False) := by
  refine zMet.go (by decide +kernel) (Nat.le_of_ble_eq_true rfl) ?_
  intro X F B hnl hR hn
  refine zi_iconst F dX10_cellByDepth_0 ?_
  refine z_istore_n F dX10_cellByDepth_1 rfl rfl (hnl _ rfl) ?_
  refine zi_iconst F dX10_cellByDepth_2 ?_
  refine z_istore_n F dX10_cellByDepth_3 rfl rfl (hnl _ rfl) ?_
  suffices KK : ∀ n d : Nat, n + d = 10 → ∀ P : List Nat, P.length ≤ 64 * d → f_ord C = P ++ oD C n d → ¬ (0 ≤ z ∧ z < P.length) → Z X 0 0 4 [(3, .int (iI d)), (2, .int (iI (P.length : Nat))), (0, .ref o), (1, .int (iI z))] [] h from Z.keys [3, 2, 0, 1] rfl (KK 10 0 rfl [] (by decide) rfl (by simp <;> omega))
  intro n
  induction n with
  | zero =>
    intro d hd P hP he hz2
    refine z_iload_n F dX10_cellByDepth_4 rfl rfl ?_
    refine zi_bipush F dX10_cellByDepth_5 (by decide) ?_
    refine zi_icmp_gt (tgt := 60) F dX10_cellByDepth_7 (by decide) (by first | omega | (dsimp only at *; omega)) (fun c7 => ?_) (fun c7 => False.elim (by first | omega | (dsimp only at *; omega)))
    exact False.elim ((by rw [he]; simpa [oD] using hz2 : ¬ (0 ≤ z ∧ z < (f_ord C).length)) hzr)
  | succ n ih =>
    intro d hd P hP he hz2
    replace he : f_ord C = P ++ (oC C d 64 0 ++ oD C n (d + 1)) := he
    refine z_iload_n F dX10_cellByDepth_4 rfl rfl ?_
    refine zi_bipush F dX10_cellByDepth_5 (by decide) ?_
    refine zi_icmp_gt (tgt := 60) F dX10_cellByDepth_7 (by decide) (by first | omega | (dsimp only at *; omega)) (fun c7 => False.elim (by first | omega | (dsimp only at *; omega))) (fun c7 => ?_)
    refine zi_iconst F dX10_cellByDepth_10 ?_
    refine z_istore F dX10_cellByDepth_11 rfl (hnl _ rfl) ?_
    suffices KI : ∀ m c : Nat, m + c = 64 → ∀ Q : List Nat, Q.length ≤ 64 * d + c → f_ord C = Q ++ (oC C d m c ++ oD C n (d + 1)) → ¬ (0 ≤ z ∧ z < Q.length) → Z X 0 0 13 [(4, .int (iI c)), (3, .int (iI d)), (2, .int (iI (Q.length : Nat))), (0, .ref o), (1, .int (iI z))] [] h from Z.keys [4, 3, 2, 0, 1] rfl (KI 64 0 rfl P hP he hz2)
    intro m
    induction m with
    | zero =>
      intro c hc Q hQ he hz2
      refine z_iload F dX10_cellByDepth_13 rfl ?_
      refine zi_bipush F dX10_cellByDepth_15 (by decide) ?_
      refine zi_icmp_ge (tgt := 54) F dX10_cellByDepth_17 (by decide) (by first | omega | (dsimp only at *; omega)) (fun c17 => ?_) (fun c17 => False.elim (by first | omega | (dsimp only at *; omega)))
      refine zi_iinc F dX10_cellByDepth_54 rfl rfl (hnl _ rfl) ?_
      refine z_goto (tgt := 4) F dX10_cellByDepth_57 (by decide) ?_
      exact Z.keys [3, 2, 0, 1] rfl (ih (d + 1) (by omega) Q (by omega) he hz2)
    | succ m im =>
      intro c hc Q hQ he hz2
      have h9 := hO.1 c
      replace he : f_ord C = Q ++ ((if C.1 c = d then c :: oC C d m (c + 1) else oC C d m (c + 1)) ++ oD C n (d + 1)) := he
      refine z_iload F dX10_cellByDepth_13 rfl ?_
      refine zi_bipush F dX10_cellByDepth_15 (by decide) ?_
      refine zi_icmp_ge (tgt := 54) F dX10_cellByDepth_17 (by decide) (by first | omega | (dsimp only at *; omega)) (fun c17 => False.elim (by first | omega | (dsimp only at *; omega))) (fun c17 => ?_)
      refine z_aload_n F dX10_cellByDepth_20 rfl rfl ?_
      refine z_getfield F fl_X10_12 dX10_cellByDepth_21 ho (by decide) rfl ?_
      refine z_getfield F fl_X10_290 dX10_cellByDepth_24 R.ob (by decide) rfl ?_
      refine z_iload F dX10_cellByDepth_27 rfl ?_
      refine zi_iaload (i := c) F dX10_cellByDepth_29 R.dp rfl (by omega) (zar_get (by omega)) ?_
      refine z_iload_n F dX10_cellByDepth_30 rfl rfl ?_
      refine zi_icmp_eq (tgt := 37) F dX10_cellByDepth_31 (by decide) (by first | omega | (dsimp only at *; omega)) (fun c31 => ?_) (fun c31 => ?_)
      · refine z_iload_n F dX10_cellByDepth_37 rfl rfl ?_
        refine z_iload_n F dX10_cellByDepth_38 rfl rfl ?_
        refine zi_icmp_ne (tgt := 45) F dX10_cellByDepth_39 (by decide) (by have := hz.1; have := hz.2; omega) (fun c39 => ?_) (fun c39 => ?_)
        · refine zi_iinc F dX10_cellByDepth_45 rfl rfl (hnl _ rfl) ?_
          refine zi_iinc F dX10_cellByDepth_48 rfl rfl (hnl _ rfl) ?_
          refine z_goto (tgt := 13) F dX10_cellByDepth_51 (by decide) ?_
          first | exact Z.keys [4, 3, 2, 0, 1] rfl (im (c + 1) (by omega) Q (by omega) (by rw [he, if_neg (by omega)]) hz2) | exact Z.keys [4, 3, 2, 0, 1] (by simp only [zpick, zlk]; rw [List.length_append]; rfl) (im (c + 1) (by omega) (Q ++ [c]) (by rw [List.length_append]; simp; omega) (by rw [he, if_pos (by omega)]; simp) (by rw [List.length_append]; simp; omega))
        · refine z_iload F dX10_cellByDepth_42 rfl ?_
          exact Z.widen (by decide) (by decide) (z_ireturn F rfl B dX10_cellByDepth_44 ⟨⟨c, by omega, by omega, by rw [he, if_pos (by omega), List.getElem?_append_right (by omega), show z.toNat - Q.length = 0 by omega]; rfl, rfl⟩, rfl⟩)
      · refine z_goto (tgt := 48) F dX10_cellByDepth_34 (by decide) ?_
        refine zi_iinc F dX10_cellByDepth_48 rfl rfl (hnl _ rfl) ?_
        refine z_goto (tgt := 13) F dX10_cellByDepth_51 (by decide) ?_
        first | exact Z.keys [4, 3, 2, 0, 1] rfl (im (c + 1) (by omega) Q (by omega) (by rw [he, if_neg (by omega)]) hz2) | exact Z.keys [4, 3, 2, 0, 1] (by simp only [zpick, zlk]; rw [List.length_append]; rfl) (im (c + 1) (by omega) (Q ++ [c]) (by rw [List.length_append]; simp; omega) (by rw [he, if_pos (by omega)]; simp) (by rw [List.length_append]; simp; omega))
theorem n_columnByDepth {z : Int} (hz : zI32 z) (hzr : 0 ≤ z ∧ z < (f_ord C).length) (ho : h[o]? = some (12, zBf o S)) (R : zRepC (o + 1) σ τ C h) (hO : zOk K C) (hK : K < 2000000) : zMet yX10_columnByDepth cX10_columnByDepth 2 (some .int) 2 0 0 [.ref o, .int (iI z)] h (fun v h' => (∃ c : Nat, c < 64 ∧ 0 ≤ z ∧ (f_ord C)[z.toNat]? = some c ∧ v = some (.int (iI ((c : Int) % 8)))) ∧ h' = h) (fun _ _ => False) := by
  refine zMet.go (by decide +kernel) (Nat.le_of_ble_eq_true rfl) ?_
  intro X F B hnl hR hn
  refine z_aload_n F dX10_columnByDepth_0 rfl rfl ?_
  refine z_iload_n F dX10_columnByDepth_1 rfl rfl ?_
  refine z_callV F B cal_yX10_cellByDepth (n_cellByDepth hz hzr ho R hO hK) dX10_columnByDepth_2 rfl rfl (Nat.le_of_ble_eq_true rfl) (by decide) (by decide) (by decide) ml_X10_90 im_yX10_cellByDepth se_yX10_cellByDepth ho (by decide) rfl rfl (fun v hX qX => ?_) (fun C h1 q => q.elim)
  obtain ⟨⟨c, hc, hz0, hf, rfl⟩, qX⟩ := qX
  rw [qX]; clear qX hX
  refine z_callS F B cal_yX10_columnIn (m_columnIn (by omega) _) dX10_columnByDepth_5 rfl rfl (Nat.le_of_ble_eq_true rfl) (by decide) (by decide) (by decide) ml_X10_93 st_yX10_columnIn (fun v hX qX => ?_) (fun C h1 q => q.elim)
  obtain ⟨rfl, qX⟩ := qX
  rw [qX]
  clear qX hX
  exact Z.widen (by decide) (by decide) (z_ireturn F rfl B dX10_columnByDepth_8 ⟨⟨c, hc, hz0, hf, rfl⟩, rfl⟩)
theorem n_rowByDepth {z : Int} (hz : zI32 z) (hzr : 0 ≤ z ∧ z < (f_ord C).length) (ho : h[o]? = some (12, zBf o S)) (R : zRepC (o + 1) σ τ C h) (hO : zOk K C) (hK : K < 2000000) : zMet yX10_rowByDepth cX10_rowByDepth 2 (some .int) 2 0 0 [.ref o, .int (iI z)] h (fun v h' => (∃ c : Nat, c < 64 ∧ 0 ≤ z ∧ (f_ord C)[z.toNat]? = some c ∧ v = some (.int (iI ((c : Int) / 8)))) ∧ h' = h) (fun _ _ => False) := by
  refine zMet.go (by decide +kernel) (Nat.le_of_ble_eq_true rfl) ?_
  intro X F B hnl hR hn
  refine z_aload_n F dX10_rowByDepth_0 rfl rfl ?_
  refine z_iload_n F dX10_rowByDepth_1 rfl rfl ?_
  refine z_callV F B cal_yX10_cellByDepth (n_cellByDepth hz hzr ho R hO hK) dX10_rowByDepth_2 rfl rfl (Nat.le_of_ble_eq_true rfl) (by decide) (by decide) (by decide) ml_X10_90 im_yX10_cellByDepth se_yX10_cellByDepth ho (by decide) rfl rfl (fun v hX qX => ?_) (fun C h1 q => q.elim)
  obtain ⟨⟨c, hc, hz0, hf, rfl⟩, qX⟩ := qX
  rw [qX]; clear qX hX
  refine z_callS F B cal_yX10_rowIn (m_rowIn (by omega) _) dX10_rowByDepth_5 rfl rfl (Nat.le_of_ble_eq_true rfl) (by decide) (by decide) (by decide) ml_X10_96 st_yX10_rowIn (fun v hX qX => ?_) (fun C h1 q => q.elim)
  obtain ⟨rfl, qX⟩ := qX
  rw [qX]
  clear qX hX
  exact Z.widen (by decide) (by decide) (z_ireturn F rfl B dX10_rowByDepth_8 ⟨⟨c, hc, hz0, hf, rfl⟩, rfl⟩)
theorem n_clearance {x y x2 y2 : Int} (hv : 0 ≤ x ∧ x < 8 ∧ 0 ≤ y ∧ y < 8) (hv2 : 0 ≤ x2 ∧ x2 < 8 ∧ 0 ≤ y2 ∧ y2 < 8) (ho : h[o]? = some (12, zBf o S)) (R : zRepC (o + 1) σ τ C h) (hO : zOk K C) (hK : K < 2000000) (G : ∃ p, pOk p ∧ zGp (o + 184) p h) (hoz : zNR ≤ o) : zMet yX10_clearance cX10_clearance 9 (some .int) 4 0 0 [.ref o, .int (iI x), .int (iI y), .int (iI x2), .int (iI y2)] h (fun v h' => ((0 ≤ x ∧ x < 8 ∧ 0 ≤ y ∧ y < 8) ∧ (0 ≤ x2 ∧ x2 < 8 ∧ 0 ≤ y2 ∧ y2 < 8) ∧ v = some (.int (iI (f_cl C (8 * y + x).toNat (8 * y2 + x2).toNat 9 (fun c => c) : Nat)))) ∧ (∃ p, pOk p ∧ zGp (o + 184) p h') ∧ zSame (zIn (o + 184) 2) h h') (fun _ _ => False) := by
  refine zMet.go (by decide +kernel) (Nat.le_of_ble_eq_true rfl) ?_
  intro X F B hnl hR hn
  obtain ⟨p0, hp0, G0⟩ := G
  have hg : zNR ≤ o + 184 := by omega
  refine z_iload_n F dX10_clearance_0 rfl rfl ?_
  refine z_iload_n F dX10_clearance_1 rfl rfl ?_
  refine z_callS F B cal_yX10_existingCell (n_existingCell hv) dX10_clearance_2 rfl rfl (Nat.le_of_ble_eq_true rfl) (by decide) (by decide) (by decide) ml_X10_74 st_yX10_existingCell (fun v hX qX => ?_) (fun C h1 q => q.elim)
  obtain ⟨rfl, qX⟩ := qX
  rw [qX]
  clear qX hX
  refine z_istore F dX10_clearance_5 rfl (hnl _ rfl) ?_
  refine z_iload_n F dX10_clearance_7 rfl rfl ?_
  refine z_iload F dX10_clearance_8 rfl ?_
  refine z_callS F B cal_yX10_existingCell (n_existingCell hv2) dX10_clearance_10 rfl rfl (Nat.le_of_ble_eq_true rfl) (by decide) (by decide) (by decide) ml_X10_74 st_yX10_existingCell (fun v hX qX => ?_) (fun C h1 q => q.elim)
  obtain ⟨rfl, qX⟩ := qX
  rw [qX]
  clear qX hX
  rw [show (8 * y + x : Int) = (((8 * y + x).toNat : Nat) : Int) by omega, show (8 * y2 + x2 : Int) = (((8 * y2 + x2).toNat : Nat) : Int) by omega]
  have hA : (8 * y + x).toNat < 64 := by omega
  have hB : (8 * y2 + x2).toNat < 64 := by omega
  generalize hae : (8 * y + x).toNat = a at hA ⊢
  generalize hbe : (8 * y2 + x2).toNat = b at hB ⊢
  refine z_istore F dX10_clearance_13 rfl (hnl _ rfl) ?_
  have h9a := hO.1 a
  have h9b := hO.1 b
  refine z_aload_n F dX10_clearance_15 rfl rfl ?_
  refine z_getfield F fl_X10_12 dX10_clearance_16 ho (by decide) rfl ?_
  refine z_iload F dX10_clearance_19 rfl ?_
  refine z_callV F B cal_yX2_depthOf (m_depthOf R (by omega)) dX10_clearance_21 rfl rfl (Nat.le_of_ble_eq_true rfl) (by decide) (by decide) (by decide) ml_X10_78 im_yX2_depthOf se_yX2_depthOf R.ob (by decide) rfl rfl (fun v hX qX => ?_) (fun C h1 q => q.elim)
  obtain ⟨rfl, qX⟩ := qX
  rw [qX]
  clear qX hX
  rw [f_dep_n hA]
  refine z_aload_n F dX10_clearance_24 rfl rfl ?_
  refine z_getfield F fl_X10_12 dX10_clearance_25 ho (by decide) rfl ?_
  refine z_iload F dX10_clearance_28 rfl ?_
  refine z_callV F B cal_yX2_depthOf (m_depthOf R (by omega)) dX10_clearance_30 rfl rfl (Nat.le_of_ble_eq_true rfl) (by decide) (by decide) (by decide) ml_X10_78 im_yX2_depthOf se_yX2_depthOf R.ob (by decide) rfl rfl (fun v hX qX => ?_) (fun C h1 q => q.elim)
  obtain ⟨rfl, qX⟩ := qX
  rw [qX]
  clear qX hX
  rw [f_dep_n hB]
  refine zi_min F dX10_clearance_33 ml_X10_99 st_yJ9_min_7cf53 cal_yJ9_min_7cf53.2.1 cal_yJ9_min_7cf53.1 hR (by decide) (by decide) (by decide) (Nat.le_of_ble_eq_true rfl) (by omega) ?_
  obtain ⟨mn, hmn, hmn2⟩ : ∃ mn : Nat, (if ((C.1 b : Nat) : Int) < (C.1 a : Nat) then ((C.1 b : Nat) : Int) else (C.1 a : Nat)) = (mn : Int) ∧ ∀ d, d ≤ mn ↔ (d ≤ C.1 a ∧ d ≤ C.1 b) := ⟨if C.1 b < C.1 a then C.1 b else C.1 a, by split <;> split <;> omega, fun d => by split <;> omega⟩
  rw [hmn]
  have hmn9 : mn ≤ 9 := by have := (hmn2 mn).mp (Nat.le_refl _); omega
  refine z_istore F dX10_clearance_36 rfl (hnl _ rfl) ?_
  refine z_aload_n F dX10_clearance_38 rfl rfl ?_
  refine z_getfield F fl_X10_36 dX10_clearance_39 ho (by decide) rfl ?_
  refine z_callV F B cal_yX1_separate (m_separate hg G0) dX10_clearance_42 rfl rfl (Nat.le_of_ble_eq_true rfl) (by decide) (by decide) (by decide) ml_X10_104 im_yX1_separate se_yX1_separate G0.1 (by decide) rfl rfl (fun v hX qX => ?_) (fun C h1 q => q.elim)
  obtain ⟨rfl, G1, s1⟩ := qX
  refine zi_bipush F dX10_clearance_45 (by decide) ?_
  refine z_istore F dX10_clearance_47 rfl (hnl _ rfl) ?_
  suffices KK : ∀ n : Nat, n ≤ 9 → ∀ (p : Nat → Nat) (h1 : zH), pOk p → f_cl C a b 9 (fun c => c) = f_cl C a b n p → zGp (o + 184) p h1 → zSame (zIn (o + 184) 2) h h1 → Z X 0 0 49 [(8, .int (iI n)), (7, .int (iI mn)), (6, .int (iI b)), (5, .int (iI a)), (0, .ref o)] [] h1 from Z.widen (by decide) (by decide) (Z.keys [8, 7, 6, 5, 0] rfl (KK 9 (Nat.le_refl _) (fun c => c) hX (fun c hc => hc) rfl G1 s1))
  intro n
  induction n with
  | zero =>
    intro _ p h1 hp he G2 s2
    refine z_iload F dX10_clearance_49 rfl ?_
    refine zi_if_le (tgt := 104) F dX10_clearance_51 (by decide) (by first | omega | (dsimp only at *; omega)) (fun c51 => ?_) (fun c51 => False.elim (by first | omega | (dsimp only at *; omega)))
    refine zi_iconst F dX10_clearance_104 ?_
    exact Z.widen (by decide) (by decide) (z_ireturn F rfl B dX10_clearance_105 ⟨⟨hv, hv2, by rw [hae, hbe, he]; rfl⟩, ⟨p, hp, G2⟩, s2⟩)
  | succ n ih =>
    intro hn9 p h1 hp he G2 s2
    have ho1 := s2.get ho (fun q => by have := q.1; omega)
    have R1 := R.same s2 (fun a g1 g2 q => by have := q.1; omega)
    replace he : f_cl C a b 9 (fun c => c) = if (n + 1 ≤ C.1 a ∧ n + 1 ≤ C.1 b) ∧ f_root (uAll C (n + 1) 64 0 p) 64 a = f_root (uAll C (n + 1) 64 0 p) 64 b then n + 1 else f_cl C a b n (uAll C (n + 1) 64 0 p) := he
    have hp2 : pOk (uAll C (n + 1) 64 0 p) := uAll_ok (by omega) hp
    have ra := f_root_lt hp2 (n := 64) hA
    have rb := f_root_lt hp2 (n := 64) hB
    have hmnn := hmn2 (n + 1)
    have go : ¬ ((n + 1 ≤ C.1 a ∧ n + 1 ≤ C.1 b) ∧ f_root (uAll C (n + 1) 64 0 p) 64 a = f_root (uAll C (n + 1) 64 0 p) 64 b) → ∀ (h2 : zH), zGp (o + 184) (uAll C (n + 1) 64 0 p) h2 → zSame (zIn (o + 184) 2) h h2 → Z X 0 0 98 [(8, .int (iI (n + 1 : Nat))), (7, .int (iI mn)), (6, .int (iI b)), (5, .int (iI a)), (0, .ref o)] [] h2 := by
      intro hno h2 G3 s3
      refine zi_iinc F dX10_clearance_98 rfl rfl (hnl _ rfl) ?_
      refine z_goto (tgt := 49) F dX10_clearance_101 (by decide) ?_
      exact Z.keys [8, 7, 6, 5, 0] (by rw [show (((n + 1 : Nat) : Int) + -1) = (n : Int) by omega]; rfl) (ih (by omega) _ h2 hp2 (by rw [he, if_neg hno]) G3 s3)
    refine z_iload F dX10_clearance_49 rfl ?_
    refine zi_if_le (tgt := 104) F dX10_clearance_51 (by decide) (by first | omega | (dsimp only at *; omega)) (fun c51 => False.elim (by first | omega | (dsimp only at *; omega))) (fun c51 => ?_)
    refine z_aload_n F dX10_clearance_54 rfl rfl ?_
    refine z_getfield F fl_X10_36 dX10_clearance_55 ho1 (by decide) rfl ?_
    refine z_aload_n F dX10_clearance_58 rfl rfl ?_
    refine z_getfield F fl_X10_12 dX10_clearance_59 ho1 (by decide) rfl ?_
    refine z_iload F dX10_clearance_62 rfl ?_
    refine z_callV F B cal_yX1_uniteAt (m_uniteAt (d := n + 1) hg (by omega) R1 G2 hp hO (by omega)) dX10_clearance_64 rfl rfl (Nat.le_of_ble_eq_true rfl) (by decide) (by decide) (by decide) ml_X10_107 im_yX1_uniteAt se_yX1_uniteAt G2.1 (by decide) rfl rfl (fun v hX qX => ?_) (fun C h1 q => q.elim)
    obtain ⟨rfl, G3, s3⟩ := qX
    have s4 := s2.tr s3
    have ho2 := s4.get ho (fun q => by have := q.1; omega)
    refine z_iload F dX10_clearance_67 rfl ?_
    refine z_iload F dX10_clearance_69 rfl ?_
    refine zi_icmp_gt (tgt := 98) F dX10_clearance_71 (by decide) (by first | omega | (dsimp only at *; omega)) (fun c71 => ?_) (fun c71 => ?_)
    · exact Z.keys [8, 7, 6, 5, 0] rfl (go (fun q => by have := q.2; have := q.1; omega) _ G3 s4)
    · refine z_aload_n F dX10_clearance_74 rfl rfl ?_
      refine z_getfield F fl_X10_36 dX10_clearance_75 ho2 (by decide) rfl ?_
      refine z_iload F dX10_clearance_78 rfl ?_
      refine z_callV F B cal_yX1_rootOf (m_rootOf hA hp2 G3) dX10_clearance_80 rfl rfl (Nat.le_of_ble_eq_true rfl) (by decide) (by decide) (by decide) ml_X10_111 im_yX1_rootOf se_yX1_rootOf G3.1 (by decide) rfl rfl (fun v hX qX => ?_) (fun C h1 q => q.elim)
      obtain ⟨rfl, qX⟩ := qX
      rw [qX]
      clear qX hX
      refine z_aload_n F dX10_clearance_83 rfl rfl ?_
      refine z_getfield F fl_X10_36 dX10_clearance_84 ho2 (by decide) rfl ?_
      refine z_iload F dX10_clearance_87 rfl ?_
      refine z_callV F B cal_yX1_rootOf (m_rootOf hB hp2 G3) dX10_clearance_89 rfl rfl (Nat.le_of_ble_eq_true rfl) (by decide) (by decide) (by decide) ml_X10_111 im_yX1_rootOf se_yX1_rootOf G3.1 (by decide) rfl rfl (fun v hX qX => ?_) (fun C h1 q => q.elim)
      obtain ⟨rfl, qX⟩ := qX
      rw [qX]
      clear qX hX
      refine zi_icmp_ne (tgt := 98) F dX10_clearance_92 (by decide) (by first | omega | (dsimp only at *; omega)) (fun c92 => ?_) (fun c92 => ?_)
      · exact Z.keys [8, 7, 6, 5, 0] rfl (go (fun q => by have := q.2; have := q.1; omega) _ G3 s4)
      · refine z_iload F dX10_clearance_95 rfl ?_
        exact Z.widen (by decide) (by decide) (z_ireturn F rfl B dX10_clearance_97 ⟨⟨hv, hv2, by rw [hae, hbe, he, if_pos ⟨by omega, by omega⟩]⟩, ⟨_, hp2, G3⟩, s4⟩)
theorem n_clearanceByFlooding {x y x2 y2 : Int} (hv : 0 ≤ x ∧ x < 8 ∧ 0 ≤ y ∧ y < 8) (hv2 : 0 ≤ x2 ∧ x2 < 8 ∧ 0 ≤ y2 ∧ y2 < 8) (ho : h[o]? = some (12, zBf o S)) (R : zRepC (o + 1) σ τ C h) (hO : zOk K C) (hK : K < 2000000) (W : zWx (o + 179) h) (hoz : zNR ≤ o) : zMet yX10_clearanceByFlooding cX10_clearanceByFlooding 9 (some .int) 4 0 0 [.ref o, .int (iI x), .int (iI y), .int (iI x2), .int (iI y2)] h (fun v h' => ((0 ≤ x ∧ x < 8 ∧ 0 ≤ y ∧ y < 8) ∧ (0 ≤ x2 ∧ x2 < 8 ∧ 0 ≤ y2 ∧ y2 < 8) ∧ v = some (.int (iI (f_cf C (8 * y + x).toNat (8 * y2 + x2).toNat 10 1 0 : Nat)))) ∧ zWx (o + 179) h' ∧ zSame (zIn (o + 179) 5) h h') (fun _ _ => False) := by
  refine zMet.go (by decide +kernel) (Nat.le_of_ble_eq_true rfl) ?_
  intro X F B hnl hR hn
  have hw : zNR ≤ o + 179 := by omega
  refine z_iload_n F dX10_clearanceByFlooding_0 rfl rfl ?_
  refine z_iload_n F dX10_clearanceByFlooding_1 rfl rfl ?_
  refine z_callS F B cal_yX10_existingCell (n_existingCell hv) dX10_clearanceByFlooding_2 rfl rfl (Nat.le_of_ble_eq_true rfl) (by decide) (by decide) (by decide) ml_X10_74 st_yX10_existingCell (fun v hX qX => ?_) (fun C h1 q => q.elim)
  obtain ⟨rfl, qX⟩ := qX
  rw [qX]
  clear qX hX
  refine z_istore F dX10_clearanceByFlooding_5 rfl (hnl _ rfl) ?_
  refine z_iload_n F dX10_clearanceByFlooding_7 rfl rfl ?_
  refine z_iload F dX10_clearanceByFlooding_8 rfl ?_
  refine z_callS F B cal_yX10_existingCell (n_existingCell hv2) dX10_clearanceByFlooding_10 rfl rfl (Nat.le_of_ble_eq_true rfl) (by decide) (by decide) (by decide) ml_X10_74 st_yX10_existingCell (fun v hX qX => ?_) (fun C h1 q => q.elim)
  obtain ⟨rfl, qX⟩ := qX
  rw [qX]
  clear qX hX
  rw [show (8 * y + x : Int) = (((8 * y + x).toNat : Nat) : Int) by omega, show (8 * y2 + x2 : Int) = (((8 * y2 + x2).toNat : Nat) : Int) by omega]
  have hA : (8 * y + x).toNat < 64 := by omega
  have hB : (8 * y2 + x2).toNat < 64 := by omega
  generalize hae : (8 * y + x).toNat = a at hA ⊢
  generalize hbe : (8 * y2 + x2).toNat = b at hB ⊢
  refine z_istore F dX10_clearanceByFlooding_13 rfl (hnl _ rfl) ?_
  refine zi_iconst F dX10_clearanceByFlooding_15 ?_
  refine z_istore F dX10_clearanceByFlooding_16 rfl (hnl _ rfl) ?_
  refine zi_iconst F dX10_clearanceByFlooding_18 ?_
  refine z_istore F dX10_clearanceByFlooding_19 rfl (hnl _ rfl) ?_
  suffices KK : ∀ n d : Nat, n + d = 11 → 1 ≤ d → ∀ (g : Nat) (h1 : zH), f_cf C a b 10 1 0 = f_cf C a b n d g → zWx (o + 179) h1 → zSame (zIn (o + 179) 5) h h1 → Z X 0 0 21 [(8, .int (iI d)), (7, .int (iI g)), (6, .int (iI b)), (5, .int (iI a)), (0, .ref o)] [] h1 from Z.widen (by decide) (by decide) (Z.keys [8, 7, 6, 5, 0] rfl (KK 10 1 rfl (Nat.le_refl _) 0 h rfl W zSame.rf))
  have h9a := hO.1 a
  intro n
  induction n with
  | zero =>
    intro d hd hd1 g h1 he W1 s1
    have ho1 := s1.get ho (fun q => by have := q.1; omega)
    have R1 := R.same s1 (fun a g1 g2 q => by have := q.1; omega)
    refine z_iload F dX10_clearanceByFlooding_21 rfl ?_
    refine z_aload_n F dX10_clearanceByFlooding_23 rfl rfl ?_
    refine z_getfield F fl_X10_12 dX10_clearanceByFlooding_24 ho1 (by decide) rfl ?_
    refine z_iload F dX10_clearanceByFlooding_27 rfl ?_
    refine z_callV F B cal_yX2_depthOf (m_depthOf R1 (by omega)) dX10_clearanceByFlooding_29 rfl rfl (Nat.le_of_ble_eq_true rfl) (by decide) (by decide) (by decide) ml_X10_78 im_yX2_depthOf se_yX2_depthOf R1.ob (by decide) rfl rfl (fun v hX qX => ?_) (fun C h1 q => q.elim)
    obtain ⟨rfl, qX⟩ := qX
    rw [qX]
    clear qX hX
    rw [f_dep_n hA]
    refine zi_icmp_gt (tgt := 83) F dX10_clearanceByFlooding_32 (by decide) (by first | omega | (dsimp only at *; omega)) (fun c32 => ?_) (fun c32 => False.elim (by first | omega | (dsimp only at *; omega)))
    refine z_iload F dX10_clearanceByFlooding_83 rfl ?_
    exact Z.widen (by decide) (by decide) (z_ireturn F rfl B dX10_clearanceByFlooding_85 ⟨⟨hv, hv2, by rw [hae, hbe, he]; rfl⟩, W1, s1⟩)
  | succ n ih =>
    intro d hd hd1 g h1 he W1 s1
    have ho1 := s1.get ho (fun q => by have := q.1; omega)
    have R1 := R.same s1 (fun a g1 g2 q => by have := q.1; omega)
    replace he : f_cf C a b 10 1 0 = if d ≤ C.1 a then (if f_ln (f_opD C d) a b = none then g else f_cf C a b n (d + 1) d) else g := he
    obtain ⟨op, ln, fc, qu, W2⟩ := W1
    have hlb := f_ln_b (op := f_opD C d) hA b
    refine z_iload F dX10_clearanceByFlooding_21 rfl ?_
    refine z_aload_n F dX10_clearanceByFlooding_23 rfl rfl ?_
    refine z_getfield F fl_X10_12 dX10_clearanceByFlooding_24 ho1 (by decide) rfl ?_
    refine z_iload F dX10_clearanceByFlooding_27 rfl ?_
    refine z_callV F B cal_yX2_depthOf (m_depthOf R1 (by omega)) dX10_clearanceByFlooding_29 rfl rfl (Nat.le_of_ble_eq_true rfl) (by decide) (by decide) (by decide) ml_X10_78 im_yX2_depthOf se_yX2_depthOf R1.ob (by decide) rfl rfl (fun v hX qX => ?_) (fun C h1 q => q.elim)
    obtain ⟨rfl, qX⟩ := qX
    rw [qX]
    clear qX hX
    rw [f_dep_n hA]
    refine zi_icmp_gt (tgt := 83) F dX10_clearanceByFlooding_32 (by decide) (by omega) (fun c32 => ?_) (fun c32 => ?_)
    · refine z_iload F dX10_clearanceByFlooding_83 rfl ?_
      exact Z.widen (by decide) (by decide) (z_ireturn F rfl B dX10_clearanceByFlooding_85 ⟨⟨hv, hv2, by rw [hae, hbe, he, if_neg (by omega)]⟩, ⟨_, _, _, _, W2⟩, s1⟩)
    rw [if_pos (by omega)] at he
    refine z_aload_n F dX10_clearanceByFlooding_35 rfl rfl ?_
    refine z_getfield F fl_X10_29 dX10_clearanceByFlooding_36 ho1 (by decide) rfl ?_
    refine z_aload_n F dX10_clearanceByFlooding_39 rfl rfl ?_
    refine z_getfield F fl_X10_12 dX10_clearanceByFlooding_40 ho1 (by decide) rfl ?_
    refine z_iload F dX10_clearanceByFlooding_43 rfl ?_
    refine z_callV F B cal_yX9_openDeep (m_openDeep (d := d) hw (by omega) R1 W2 hO (by omega)) dX10_clearanceByFlooding_45 rfl rfl (Nat.le_of_ble_eq_true rfl) (by decide) (by decide) (by decide) ml_X10_114 im_yX9_openDeep se_yX9_openDeep W2.1 (by decide) rfl rfl (fun v hX qX => ?_) (fun C h1 q => q.elim)
    obtain ⟨rfl, W3, s3⟩ := qX
    have s4 := s1.tr s3
    have ho2 := s4.get ho (fun q => by have := q.1; omega)
    refine z_aload_n F dX10_clearanceByFlooding_48 rfl rfl ?_
    refine z_getfield F fl_X10_29 dX10_clearanceByFlooding_49 ho2 (by decide) rfl ?_
    refine z_iload F dX10_clearanceByFlooding_52 rfl ?_
    refine z_callV F B cal_yX9_searchFrom (m_searchFrom hw hA W3) dX10_clearanceByFlooding_54 rfl rfl (Nat.le_of_ble_eq_true rfl) (by decide) (by decide) (by decide) ml_X10_117 im_yX9_searchFrom se_yX9_searchFrom W3.1 (by decide) rfl rfl (fun v hX qX => ?_) (fun C h1 q => q.elim)
    obtain ⟨rfl, W4, s5⟩ := qX
    have s6 := s4.tr s5
    have ho3 := s6.get ho (fun q => by have := q.1; omega)
    rw [f_ln_eq hA] at W4
    refine z_aload_n F dX10_clearanceByFlooding_57 rfl rfl ?_
    refine z_getfield F fl_X10_29 dX10_clearanceByFlooding_58 ho3 (by decide) rfl ?_
    refine z_iload F dX10_clearanceByFlooding_61 rfl ?_
    refine z_callV F B cal_yX9_lengthTo (m_lengthTo (by omega) W4) dX10_clearanceByFlooding_63 rfl rfl (Nat.le_of_ble_eq_true rfl) (by decide) (by decide) (by decide) ml_X10_121 im_yX9_lengthTo se_yX9_lengthTo W4.1 (by decide) rfl rfl (fun v hX qX => ?_) (fun C h1 q => q.elim)
    obtain ⟨rfl, qX⟩ := qX
    rw [qX]
    clear qX hX
    rw [show f_len (f_ln (f_opD C d) a) (b : Int) = zGo (f_ln (f_opD C d) a b) from if_pos (by omega)]
    refine zi_iconst F dX10_clearanceByFlooding_66 ?_
    refine zi_icmp_ne (tgt := 73) F dX10_clearanceByFlooding_67 (by decide) (by first | omega | (dsimp only at *; omega)) (fun c67 => ?_) (fun c67 => ?_)
    · refine z_iload F dX10_clearanceByFlooding_73 rfl ?_
      refine z_istore F dX10_clearanceByFlooding_75 rfl (hnl _ rfl) ?_
      refine zi_iinc F dX10_clearanceByFlooding_77 rfl rfl (hnl _ rfl) ?_
      refine z_goto (tgt := 21) F dX10_clearanceByFlooding_80 (by decide) ?_
      exact Z.keys [8, 7, 6, 5, 0] rfl (ih (d + 1) (by omega) (by omega) d _ (by rw [he, if_neg (fun e => c67 (by rw [e]; rfl))]) ⟨_, _, _, _, W4⟩ s6)
    · refine z_goto (tgt := 83) F dX10_clearanceByFlooding_70 (by decide) ?_
      refine z_iload F dX10_clearanceByFlooding_83 rfl ?_
      exact Z.widen (by decide) (by decide) (z_ireturn F rfl B dX10_clearanceByFlooding_85 ⟨⟨hv, hv2, by rw [hae, hbe, he, if_pos (zGo_m1 c67)]⟩, ⟨_, _, _, _, W4⟩, s6⟩)
end
