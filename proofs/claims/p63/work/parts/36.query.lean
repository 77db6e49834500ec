/-! the chart's calls that only read: cells, lights, ships -/
def xI : String := "java/lang/IndexOutOfBoundsException"
def xN : String := "java/util/NoSuchElementException"
/-- thrown: one of these; nothing written -/
def zTh (L : List String) (h : zH) (C : String) (h' : zH) : Prop := C ∈ L ∧ ∃ j : Nat, h' = h ++ List.replicate j (98, [])
/-- coast; snapshot, whether there is one; (first, count, coasts) of the history; (signs, length) of the text; fault, denial's number, detail, cause -/
abbrev zBt : Type := zCo × (zCo × Bool) × (Nat × Nat × (Nat → zCo)) × ((Nat → Nat) × Nat) × (Int × Int × Int × Int)
def zBf (o : Nat) (S : zBt) : List Value := [.ref (o + 1), .ref (o + 17), .int (iI (zBo S.2.1.2)), .ref (o + 33), .ref (o + 179), .ref (o + 184), .ref (o + 186), .ref (o + 187), .int (iI S.2.2.2.2.1), .ref (o + 210), .int (iI S.2.2.2.2.2.1), .int (iI S.2.2.2.2.2.2.1), .int (iI S.2.2.2.2.2.2.2)]
def zI32 (z : Int) : Prop := -2147483648 ≤ z ∧ z < 2147483648
def f_mus (l : zLt) (mi sec : Nat) : Nat → Nat → Nat
  | 0, m => m
  | n + 1, m => if zBeam l (mi + m) = sec then m else f_mus l mi sec n (m + 1)
def f_stps (l : zLt) (mi sec : Nat) : Nat := (((sec : Int) - zBeam l mi) % 8).toNat
def f_mud (l : zLt) (mi sec : Nat) : Int := if f_stps l mi sec = 0 then 0 else (((zTurn l mi : Int) + f_stps l mi sec) * l.2.2.1 + 7) / 8 - mi
def oC (C : zCo) (d : Nat) : Nat → Nat → List Nat
  | 0, _ => []
  | n + 1, c => if C.1 c = d then c :: oC C d n (c + 1) else oC C d n (c + 1)
def oD (C : zCo) : Nat → Nat → List Nat
  | 0, _ => []
  | n + 1, d => oC C d 64 0 ++ oD C n (d + 1)
/-- the cells in ascending order of their depths -/
def f_ord (C : zCo) : List Nat := oD C 10 0
section
variable {o K : Nat} {S : zBt} {σ τ : Nat → Nat} {C : zCo} {h : zH}
theorem m_tide (ho : h[o]? = some (12, zBf o S)) (R : zRepC (o + 1) σ τ C h) (hO : zOk K C) (hK : K < 2000000) : zMet yX10_tide cX10_tide 1 (some .int) 2 0 0 [.ref o] h (fun v h' => v = some (.int (iI (f_tide C.2.2.2.2.1))) ∧ h' = h) (fun _ _ => False) := by
  refine zMet.go (by decide +kernel) (Nat.le_of_ble_eq_true rfl) ?_
  intro X F B hnl hR hn
  have hm := hO.2.2.2.2.2.1
  refine z_aload_n F dX10_tide_0 rfl rfl ?_
  refine z_getfield F fl_X10_12 dX10_tide_1 ho (by decide) rfl ?_
  refine z_getfield F fl_X10_84 dX10_tide_4 R.ob (by decide) rfl ?_
  refine z_callS F B cal_yX10_tideAt (m_tideAt _ (by omega) _) dX10_tide_7 rfl rfl (Nat.le_of_ble_eq_true rfl) (by decide) (by decide) (by decide) ml_X10_87 st_yX10_tideAt (fun v hX qX => ?_) (fun C h1 q => q.elim)
  obtain ⟨rfl, qX⟩ := qX
  rw [qX]
  clear qX hX
  exact Z.widen (by decide) (by decide) (z_ireturn F rfl B dX10_tide_10 ⟨rfl, rfl⟩)
theorem m_lightCount (ho : h[o]? = some (12, zBf o S)) (R : zRepC (o + 1) σ τ C h) : zMet yX10_lightCount cX10_lightCount 1 (some .int) 1 0 0 [.ref o] h (fun v h' => v = some (.int (iI (C.2.2.2.1.1))) ∧ h' = h) (fun _ _ => False) := by
  refine zMet.go (by decide +kernel) (Nat.le_of_ble_eq_true rfl) ?_
  intro X F B hnl hR hn
  refine z_aload_n F dX10_lightCount_0 rfl rfl ?_
  refine z_getfield F fl_X10_12 dX10_lightCount_1 ho (by decide) rfl ?_
  refine z_getfield F fl_X10_134 dX10_lightCount_4 R.ob (by decide) rfl ?_
  exact Z.widen (by decide) (by decide) (z_ireturn F rfl B dX10_lightCount_7 ⟨rfl, rfl⟩)
theorem m_shipCount (ho : h[o]? = some (12, zBf o S)) (R : zRepC (o + 1) σ τ C h) : zMet yX10_shipCount cX10_shipCount 1 (some .int) 1 0 0 [.ref o] h (fun v h' => v = some (.int (iI (C.2.2.2.1.2))) ∧ h' = h) (fun _ _ => False) := by
  refine zMet.go (by decide +kernel) (Nat.le_of_ble_eq_true rfl) ?_
  intro X F B hnl hR hn
  refine z_aload_n F dX10_shipCount_0 rfl rfl ?_
  refine z_getfield F fl_X10_12 dX10_shipCount_1 ho (by decide) rfl ?_
  refine z_getfield F fl_X10_222 dX10_shipCount_4 R.ob (by decide) rfl ?_
  exact Z.widen (by decide) (by decide) (z_ireturn F rfl B dX10_shipCount_7 ⟨rfl, rfl⟩)
theorem m_minute (ho : h[o]? = some (12, zBf o S)) (R : zRepC (o + 1) σ τ C h) : zMet yX10_minute cX10_minute 1 (some .int) 1 0 0 [.ref o] h (fun v h' => v = some (.int (iI (C.2.2.2.2.1))) ∧ h' = h) (fun _ _ => False) := by
  refine zMet.go (by decide +kernel) (Nat.le_of_ble_eq_true rfl) ?_
  intro X F B hnl hR hn
  refine z_aload_n F dX10_minute_0 rfl rfl ?_
  refine z_getfield F fl_X10_12 dX10_minute_1 ho (by decide) rfl ?_
  refine z_getfield F fl_X10_84 dX10_minute_4 R.ob (by decide) rfl ?_
  exact Z.widen (by decide) (by decide) (z_ireturn F rfl B dX10_minute_7 ⟨rfl, rfl⟩)
theorem m_sightings (ho : h[o]? = some (12, zBf o S)) (R : zRepC (o + 1) σ τ C h) : zMet yX10_sightings cX10_sightings 1 (some .int) 1 0 0 [.ref o] h (fun v h' => v = some (.int (iI (C.2.2.2.2.2.1))) ∧ h' = h) (fun _ _ => False) := by
  refine zMet.go (by decide +kernel) (Nat.le_of_ble_eq_true rfl) ?_
  intro X F B hnl hR hn
  refine z_aload_n F dX10_sightings_0 rfl rfl ?_
  refine z_getfield F fl_X10_12 dX10_sightings_1 ho (by decide) rfl ?_
  refine z_getfield F fl_X10_276 dX10_sightings_4 R.ob (by decide) rfl ?_
  exact Z.widen (by decide) (by decide) (z_ireturn F rfl B dX10_sightings_7 ⟨rfl, rfl⟩)
theorem m_wrecks (ho : h[o]? = some (12, zBf o S)) (R : zRepC (o + 1) σ τ C h) : zMet yX10_wrecks cX10_wrecks 1 (some .int) 1 0 0 [.ref o] h (fun v h' => v = some (.int (iI (C.2.2.2.2.2.2.2.1))) ∧ h' = h) (fun _ _ => False) := by
  refine zMet.go (by decide +kernel) (Nat.le_of_ble_eq_true rfl) ?_
  intro X F B hnl hR hn
  refine z_aload_n F dX10_wrecks_0 rfl rfl ?_
  refine z_getfield F fl_X10_12 dX10_wrecks_1 ho (by decide) rfl ?_
  refine z_getfield F fl_X10_284 dX10_wrecks_4 R.ob (by decide) rfl ?_
  exact Z.widen (by decide) (by decide) (z_ireturn F rfl B dX10_wrecks_7 ⟨rfl, rfl⟩)
theorem m_salvaged (ho : h[o]? = some (12, zBf o S)) (R : zRepC (o + 1) σ τ C h) : zMet yX10_salvaged cX10_salvaged 1 (some .int) 1 0 0 [.ref o] h (fun v h' => v = some (.int (iI (C.2.2.2.2.2.2.2.2))) ∧ h' = h) (fun _ _ => False) := by
  refine zMet.go (by decide +kernel) (Nat.le_of_ble_eq_true rfl) ?_
  intro X F B hnl hR hn
  refine z_aload_n F dX10_salvaged_0 rfl rfl ?_
  refine z_getfield F fl_X10_12 dX10_salvaged_1 ho (by decide) rfl ?_
  refine z_getfield F fl_X10_287 dX10_salvaged_4 R.ob (by decide) rfl ?_
  exact Z.widen (by decide) (by decide) (z_ireturn F rfl B dX10_salvaged_7 ⟨rfl, rfl⟩)
theorem m_depth {x y : Int} (hx : zI32 x) (hy : zI32 y) (ho : h[o]? = some (12, zBf o S)) (R : zRepC (o + 1) σ τ C h) : zMet yX10_depth cX10_depth 3 (some .int) 9 1 6 [.ref o, .int (iI x), .int (iI y)] h (fun v h' => (0 ≤ x ∧ x < 8 ∧ 0 ≤ y ∧ y < 8) ∧ v = some (.int (iI (C.1 (8 * y + x).toNat))) ∧ h' = h) (fun D h' => ¬ (0 ≤ x ∧ x < 8 ∧ 0 ≤ y ∧ y < 8) ∧ zTh [xI] h D h') := by
  refine zMet.go (by decide +kernel) (Nat.le_of_ble_eq_true rfl) ?_
  intro X F B hnl hR hn
  refine z_aload_n F dX10_depth_0 rfl rfl ?_
  refine z_getfield F fl_X10_12 dX10_depth_1 ho (by decide) rfl ?_
  refine z_iload_n F dX10_depth_4 rfl rfl ?_
  refine z_iload_n F dX10_depth_5 rfl rfl ?_
  refine z_callS F B cal_yX10_existingCell (m_existingCell hx hy _) dX10_depth_6 rfl rfl (Nat.le_of_ble_eq_true rfl) (by decide) (by decide) (by decide) ml_X10_74 st_yX10_existingCell (fun v hX qX => ?_) (fun D h1 q => ⟨q.1, by rw [q.2.1]; decide, q.2.2⟩)
  obtain ⟨hv, rfl, qX⟩ := qX
  rw [qX]; clear qX hX
  refine z_callV F B cal_yX2_depthOf (m_depthOf R (by omega)) dX10_depth_9 rfl rfl (Nat.le_of_ble_eq_true rfl) (by decide) (by decide) (by decide) ml_X10_78 im_yX2_depthOf se_yX2_depthOf R.ob (by decide) rfl rfl (fun v hX qX => ?_) (fun C h1 q => q.elim)
  obtain ⟨rfl, qX⟩ := qX
  rw [qX]
  clear qX hX
  exact Z.widen (by decide) (by decide) (z_ireturn F rfl B dX10_depth_12 ⟨hv, by unfold f_dep; rw [if_pos (by omega)], rfl⟩)
theorem m_water {x y : Int} (hx : zI32 x) (hy : zI32 y) (ho : h[o]? = some (12, zBf o S)) (R : zRepC (o + 1) σ τ C h) (hO : zOk K C) (hK : K < 2000000) : zMet yX10_water cX10_water 3 (some .int) 9 1 6 [.ref o, .int (iI x), .int (iI y)] h (fun v h' => (0 ≤ x ∧ x < 8 ∧ 0 ≤ y ∧ y < 8) ∧ v = some (.int (iI (f_wa C (8 * y + x)))) ∧ h' = h) (fun D h' => ¬ (0 ≤ x ∧ x < 8 ∧ 0 ≤ y ∧ y < 8) ∧ zTh [xI] h D h') := by
  refine zMet.go (by decide +kernel) (Nat.le_of_ble_eq_true rfl) ?_
  intro X F B hnl hR hn
  refine z_aload_n F dX10_water_0 rfl rfl ?_
  refine z_getfield F fl_X10_12 dX10_water_1 ho (by decide) rfl ?_
  refine z_iload_n F dX10_water_4 rfl rfl ?_
  refine z_iload_n F dX10_water_5 rfl rfl ?_
  refine z_callS F B cal_yX10_existingCell (m_existingCell hx hy _) dX10_water_6 rfl rfl (Nat.le_of_ble_eq_true rfl) (by decide) (by decide) (by decide) ml_X10_74 st_yX10_existingCell (fun v hX qX => ?_) (fun D h1 q => ⟨q.1, by rw [q.2.1]; decide, q.2.2⟩)
  obtain ⟨hv, rfl, qX⟩ := qX
  rw [qX]; clear qX hX
  refine z_callV F B cal_yX2_waterOf (m_waterOf R hO hK (by omega)) dX10_water_9 rfl rfl (Nat.le_of_ble_eq_true rfl) (by decide) (by decide) (by decide) ml_X10_81 im_yX2_waterOf se_yX2_waterOf R.ob (by decide) rfl rfl (fun v hX qX => ?_) (fun C h1 q => q.elim)
  obtain ⟨rfl, qX⟩ := qX
  rw [qX]
  clear qX hX
  exact Z.widen (by decide) (by decide) (z_ireturn F rfl B dX10_water_12 ⟨hv, rfl, rfl⟩)
theorem m_existingLight {z : Int} (hz : zI32 z) (ho : h[o]? = some (12, zBf o S)) (R : zRepC (o + 1) σ τ C h) (hO : zOk K C) : zMet yX10_existingLight cX10_existingLight 2 (some (.object "BeamChart$Light")) 8 1 6 [.ref o, .int (iI z)] h (fun v h' => (∃ i : Nat, z = i ∧ i < C.2.2.2.1.1 ∧ v = some (.ref (σ i))) ∧ h' = h) (fun D h' => ¬ (0 ≤ z ∧ z < C.2.2.2.1.1) ∧ zTh [xI] h D h') := by
  refine zMet.go (by decide +kernel) (Nat.le_of_ble_eq_true rfl) ?_
  intro X F B hnl hR hn
  have hl6 := hO.2.2.2.1
  by_cases hv : 0 ≤ z ∧ z < C.2.2.2.1.1
  · obtain ⟨i, rfl⟩ : ∃ i : Nat, z = i := ⟨z.toNat, by omega⟩
    refine z_aload_n F dX10_existingLight_0 rfl rfl ?_
    refine z_getfield F fl_X10_12 dX10_existingLight_1 ho (by decide) rfl ?_
    refine z_iload_n F dX10_existingLight_4 rfl rfl ?_
    refine z_callV F B cal_yX2_hasLight (m_hasLight R hO hz) dX10_existingLight_5 rfl rfl (Nat.le_of_ble_eq_true rfl) (by decide) (by decide) (by decide) ml_X10_420 im_yX2_hasLight se_yX2_hasLight R.ob (by decide) rfl rfl (fun v hX qX => ?_) (fun C h1 q => q.elim)
    obtain ⟨rfl, qX⟩ := qX
    rw [qX]
    clear qX hX
    rw [if_pos hv]
    refine zi_if_ne (tgt := 22) F dX10_existingLight_8 (by decide) (by first | omega | (dsimp only at *; omega)) (fun c8 => ?_) (fun c8 => False.elim (by first | omega | (dsimp only at *; omega)))
    refine z_aload_n F dX10_existingLight_22 rfl rfl ?_
    refine z_getfield F fl_X10_12 dX10_existingLight_23 ho (by decide) rfl ?_
    refine z_getfield F fl_X10_280 dX10_existingLight_26 R.ob (by decide) rfl ?_
    refine z_iload_n F dX10_existingLight_29 rfl rfl ?_
    refine zi_aaload (i := i) F dX10_existingLight_30 R.la (by decide) (by decide) rfl rfl (by omega) (zar_get (by omega)) rfl ?_
    exact Z.widen (by decide) (by decide) (z_areturn F (Or.inl ⟨_, rfl⟩) B dX10_existingLight_31 ⟨⟨i, rfl, by omega, rfl⟩, rfl⟩)
  · refine z_aload_n F dX10_existingLight_0 rfl rfl ?_
    refine z_getfield F fl_X10_12 dX10_existingLight_1 ho (by decide) rfl ?_
    refine z_iload_n F dX10_existingLight_4 rfl rfl ?_
    refine z_callV F B cal_yX2_hasLight (m_hasLight R hO hz) dX10_existingLight_5 rfl rfl (Nat.le_of_ble_eq_true rfl) (by decide) (by decide) (by decide) ml_X10_420 im_yX2_hasLight se_yX2_hasLight R.ob (by decide) rfl rfl (fun v hX qX => ?_) (fun C h1 q => q.elim)
    obtain ⟨rfl, qX⟩ := qX
    rw [qX]
    clear qX hX
    rw [if_neg hv]
    refine zi_if_ne (tgt := 22) F dX10_existingLight_8 (by decide) (by first | omega | (dsimp only at *; omega)) (fun c8 => False.elim (by first | omega | (dsimp only at *; omega))) (fun c8 => ?_)
    exact z_throwSW F B thr_X10_357_476_361 dX10_existingLight_11 dX10_existingLight_14 dX10_existingLight_15 dX10_existingLight_18 dX10_existingLight_21 (by decide) (by decide) (by decide) (by decide) (fun j => ⟨hv, by decide, j, rfl⟩)
theorem m_existingShip {z : Int} (hz : zI32 z) (ho : h[o]? = some (12, zBf o S)) (R : zRepC (o + 1) σ τ C h) (hO : zOk K C) : zMet yX10_existingShip cX10_existingShip 2 (some (.object "BeamChart$Ship")) 8 1 6 [.ref o, .int (iI z)] h (fun v h' => (∃ i : Nat, z = i ∧ i < C.2.2.2.1.2 ∧ v = some (.ref (τ i))) ∧ h' = h) (fun D h' => ¬ (0 ≤ z ∧ z < C.2.2.2.1.2) ∧ zTh [xI] h D h') := by
  refine zMet.go (by decide +kernel) (Nat.le_of_ble_eq_true rfl) ?_
  intro X F B hnl hR hn
  have hl6 := hO.2.2.2.2.1
  by_cases hv : 0 ≤ z ∧ z < C.2.2.2.1.2
  · obtain ⟨i, rfl⟩ : ∃ i : Nat, z = i := ⟨z.toNat, by omega⟩
    refine z_aload_n F dX10_existingShip_0 rfl rfl ?_
    refine z_getfield F fl_X10_12 dX10_existingShip_1 ho (by decide) rfl ?_
    refine z_iload_n F dX10_existingShip_4 rfl rfl ?_
    refine z_callV F B cal_yX2_hasShip (m_hasShip R hO hz) dX10_existingShip_5 rfl rfl (Nat.le_of_ble_eq_true rfl) (by decide) (by decide) (by decide) ml_X10_433 im_yX2_hasShip se_yX2_hasShip R.ob (by decide) rfl rfl (fun v hX qX => ?_) (fun C h1 q => q.elim)
    obtain ⟨rfl, qX⟩ := qX
    rw [qX]
    clear qX hX
    rw [if_pos hv]
    refine zi_if_ne (tgt := 22) F dX10_existingShip_8 (by decide) (by first | omega | (dsimp only at *; omega)) (fun c8 => ?_) (fun c8 => False.elim (by first | omega | (dsimp only at *; omega)))
    refine z_aload_n F dX10_existingShip_22 rfl rfl ?_
    refine z_getfield F fl_X10_12 dX10_existingShip_23 ho (by decide) rfl ?_
    refine z_getfield F fl_X10_301 dX10_existingShip_26 R.ob (by decide) rfl ?_
    refine z_iload_n F dX10_existingShip_29 rfl rfl ?_
    refine zi_aaload (i := i) F dX10_existingShip_30 R.sa (by decide) (by decide) rfl rfl (by omega) (zar_get (by omega)) rfl ?_
    exact Z.widen (by decide) (by decide) (z_areturn F (Or.inl ⟨_, rfl⟩) B dX10_existingShip_31 ⟨⟨i, rfl, by omega, rfl⟩, rfl⟩)
  · refine z_aload_n F dX10_existingShip_0 rfl rfl ?_
    refine z_getfield F fl_X10_12 dX10_existingShip_1 ho (by decide) rfl ?_
    refine z_iload_n F dX10_existingShip_4 rfl rfl ?_
    refine z_callV F B cal_yX2_hasShip (m_hasShip R hO hz) dX10_existingShip_5 rfl rfl (Nat.le_of_ble_eq_true rfl) (by decide) (by decide) (by decide) ml_X10_433 im_yX2_hasShip se_yX2_hasShip R.ob (by decide) rfl rfl (fun v hX qX => ?_) (fun C h1 q => q.elim)
    obtain ⟨rfl, qX⟩ := qX
    rw [qX]
    clear qX hX
    rw [if_neg hv]
    refine zi_if_ne (tgt := 22) F dX10_existingShip_8 (by decide) (by first | omega | (dsimp only at *; omega)) (fun c8 => False.elim (by first | omega | (dsimp only at *; omega))) (fun c8 => ?_)
    exact z_throwSW F B thr_X10_357_478_361 dX10_existingShip_11 dX10_existingShip_14 dX10_existingShip_15 dX10_existingShip_18 dX10_existingShip_21 (by decide) (by decide) (by decide) (by decide) (fun j => ⟨hv, by decide, j, rfl⟩)
theorem m_lightOn {x y : Int} (hx : zI32 x) (hy : zI32 y) (ho : h[o]? = some (12, zBf o S)) (R : zRepC (o + 1) σ τ C h) (hO : zOk K C) : zMet yX10_lightOn cX10_lightOn 4 (some .int) 9 2 12 [.ref o, .int (iI x), .int (iI y)] h (fun v h' => (∃ i : Nat, f_lix C (8 * y + x).toNat C.2.2.2.1.1 0 = some i ∧ (0 ≤ x ∧ x < 8 ∧ 0 ≤ y ∧ y < 8) ∧ v = some (.int (iI i))) ∧ h' = h) (fun D h' => ((0 ≤ x ∧ x < 8 ∧ 0 ≤ y ∧ y < 8) → f_lix C (8 * y + x).toNat C.2.2.2.1.1 0 = none) ∧ zTh [xI, xN] h D h') := by
  refine zMet.go (by decide +kernel) (Nat.le_of_ble_eq_true rfl) ?_
  intro X F B hnl hR hn
  have hl6 := hO.2.2.2.1
  rcases hf : f_lix C (8 * y + x).toNat C.2.2.2.1.1 0 with _ | i
  · refine z_aload_n F dX10_lightOn_0 rfl rfl ?_
    refine z_getfield F fl_X10_12 dX10_lightOn_1 ho (by decide) rfl ?_
    refine z_iload_n F dX10_lightOn_4 rfl rfl ?_
    refine z_iload_n F dX10_lightOn_5 rfl rfl ?_
    refine z_callS F B cal_yX10_existingCell (m_existingCell hx hy _) dX10_lightOn_6 rfl rfl (Nat.le_of_ble_eq_true rfl) (by decide) (by decide) (by decide) ml_X10_74 st_yX10_existingCell (fun v hX qX => ?_) (fun D h1 q => ⟨fun hv => absurd hv q.1, by rw [q.2.1]; decide, q.2.2⟩)
    obtain ⟨hv, rfl, qX⟩ := qX
    rw [qX]; clear qX hX
    rw [show (8 * y + x : Int) = (((8 * y + x).toNat : Nat) : Int) by omega]
    refine z_callV F B cal_yX2_lightIndexOn (m_lightIndexOn R hO (by omega)) dX10_lightOn_9 rfl rfl (Nat.le_of_ble_eq_true rfl) (by decide) (by decide) (by decide) ml_X10_137 im_yX2_lightIndexOn se_yX2_lightIndexOn R.ob (by decide) rfl rfl (fun v hX qX => ?_) (fun C h1 q => q.elim)
    obtain ⟨rfl, qX⟩ := qX
    rw [qX]
    clear qX hX
    rw [hf, show zGo none = -1 from rfl]
    refine z_istore_n F dX10_lightOn_12 rfl rfl (hnl _ rfl) ?_
    refine z_iload_n F dX10_lightOn_13 rfl rfl ?_
    refine zi_if_ge (tgt := 27) F dX10_lightOn_14 (by decide) (by first | omega | (dsimp only at *; omega)) (fun c14 => False.elim (by first | omega | (dsimp only at *; omega))) (fun c14 => ?_)
    exact z_throwG F B thr_X10_140_142_144 dX10_lightOn_17 dX10_lightOn_20 dX10_lightOn_21 dX10_lightOn_23 dX10_lightOn_26 (by decide) (by decide) (by decide) (by decide) (fun j => ⟨fun _ => hf, by decide, j, rfl⟩)
  · have hi := f_lix_lt hf
    refine z_aload_n F dX10_lightOn_0 rfl rfl ?_
    refine z_getfield F fl_X10_12 dX10_lightOn_1 ho (by decide) rfl ?_
    refine z_iload_n F dX10_lightOn_4 rfl rfl ?_
    refine z_iload_n F dX10_lightOn_5 rfl rfl ?_
    refine z_callS F B cal_yX10_existingCell (m_existingCell hx hy _) dX10_lightOn_6 rfl rfl (Nat.le_of_ble_eq_true rfl) (by decide) (by decide) (by decide) ml_X10_74 st_yX10_existingCell (fun v hX qX => ?_) (fun D h1 q => ⟨fun hv => absurd hv q.1, by rw [q.2.1]; decide, q.2.2⟩)
    obtain ⟨hv, rfl, qX⟩ := qX
    rw [qX]; clear qX hX
    rw [show (8 * y + x : Int) = (((8 * y + x).toNat : Nat) : Int) by omega]
    refine z_callV F B cal_yX2_lightIndexOn (m_lightIndexOn R hO (by omega)) dX10_lightOn_9 rfl rfl (Nat.le_of_ble_eq_true rfl) (by decide) (by decide) (by decide) ml_X10_137 im_yX2_lightIndexOn se_yX2_lightIndexOn R.ob (by decide) rfl rfl (fun v hX qX => ?_) (fun C h1 q => q.elim)
    obtain ⟨rfl, qX⟩ := qX
    rw [qX]
    clear qX hX
    rw [hf, show zGo (some i) = (i : Int) from rfl]
    refine z_istore_n F dX10_lightOn_12 rfl rfl (hnl _ rfl) ?_
    refine z_iload_n F dX10_lightOn_13 rfl rfl ?_
    refine zi_if_ge (tgt := 27) F dX10_lightOn_14 (by decide) (by first | omega | (dsimp only at *; omega)) (fun c14 => ?_) (fun c14 => False.elim (by first | omega | (dsimp only at *; omega)))
    refine z_iload_n F dX10_lightOn_27 rfl rfl ?_
    exact Z.widen (by decide) (by decide) (z_ireturn F rfl B dX10_lightOn_28 ⟨⟨i, hf, hv, rfl⟩, rfl⟩)
theorem m_beam {z : Int} (hz : zI32 z) (ho : h[o]? = some (12, zBf o S)) (R : zRepC (o + 1) σ τ C h) (hO : zOk K C) (hK : K < 2000000) : zMet yX10_beam cX10_beam 2 (some .int) 9 1 6 [.ref o, .int (iI z)] h (fun v h' => (∃ i : Nat, z = i ∧ i < C.2.2.2.1.1 ∧ v = some (.int (iI (zBeam (C.2.1 i) C.2.2.2.2.1)))) ∧ h' = h) (fun D h' => ¬ (0 ≤ z ∧ z < C.2.2.2.1.1) ∧ zTh [xI] h D h') := by
  refine zMet.go (by decide +kernel) (Nat.le_of_ble_eq_true rfl) ?_
  intro X F B hnl hR hn
  have hl6 := hO.2.2.2.1
  have hm := hO.2.2.2.2.2.1
  refine z_aload_n F dX10_beam_0 rfl rfl ?_
  refine z_iload_n F dX10_beam_1 rfl rfl ?_
  refine z_callV F B cal_yX10_existingLight (m_existingLight hz ho R hO) dX10_beam_2 rfl rfl (Nat.le_of_ble_eq_true rfl) (by decide) (by decide) (by decide) ml_X10_147 im_yX10_existingLight se_yX10_existingLight ho (by decide) rfl rfl (fun v hX qX => ?_) (fun D h1 q => ⟨q.1, q.2.1, q.2.2⟩)
  obtain ⟨⟨i, rfl, hi, rfl⟩, qX⟩ := qX
  rw [qX]; clear qX hX
  refine z_aload_n F dX10_beam_5 rfl rfl ?_
  refine z_getfield F fl_X10_12 dX10_beam_6 ho (by decide) rfl ?_
  refine z_getfield F fl_X10_84 dX10_beam_9 R.ob (by decide) rfl ?_
  refine z_callV F B cal_yX7_sectorAt (m_sectorAt (R.li (by omega)) (hO.2.1 i) (by omega)) dX10_beam_12 rfl rfl (Nat.le_of_ble_eq_true rfl) (by decide) (by decide) (by decide) ml_X10_151 im_yX7_sectorAt se_yX7_sectorAt (R.li (by omega)) (by decide) rfl rfl (fun v hX qX => ?_) (fun C h1 q => q.elim)
  obtain ⟨rfl, qX⟩ := qX
  rw [qX]
  clear qX hX
  exact Z.widen (by decide) (by decide) (z_ireturn F rfl B dX10_beam_15 ⟨⟨i, rfl, hi, rfl⟩, rfl⟩)
theorem m_sightingsOf {z : Int} (hz : zI32 z) (ho : h[o]? = some (12, zBf o S)) (R : zRepC (o + 1) σ τ C h) (hO : zOk K C) (hK : K < 2000000) : zMet yX10_sightingsOf cX10_sightingsOf 2 (some .int) 9 1 6 [.ref o, .int (iI z)] h (fun v h' => (∃ i : Nat, z = i ∧ i < C.2.2.2.1.1 ∧ v = some (.int (iI (C.2.1 i).2.2.2.2))) ∧ h' = h) (fun D h' => ¬ (0 ≤ z ∧ z < C.2.2.2.1.1) ∧ zTh [xI] h D h') := by
  refine zMet.go (by decide +kernel) (Nat.le_of_ble_eq_true rfl) ?_
  intro X F B hnl hR hn
  have hl6 := hO.2.2.2.1
  refine z_aload_n F dX10_sightingsOf_0 rfl rfl ?_
  refine z_iload_n F dX10_sightingsOf_1 rfl rfl ?_
  refine z_callV F B cal_yX10_existingLight (m_existingLight hz ho R hO) dX10_sightingsOf_2 rfl rfl (Nat.le_of_ble_eq_true rfl) (by decide) (by decide) (by decide) ml_X10_147 im_yX10_existingLight se_yX10_existingLight ho (by decide) rfl rfl (fun v hX qX => ?_) (fun D h1 q => ⟨q.1, q.2.1, q.2.2⟩)
  obtain ⟨⟨i, rfl, hi, rfl⟩, qX⟩ := qX
  rw [qX]; clear qX hX
  refine z_getfield F fl_X10_273 dX10_sightingsOf_5 (R.li (by omega)) (by decide) rfl ?_
  exact Z.widen (by decide) (by decide) (z_ireturn F rfl B dX10_sightingsOf_8 ⟨⟨i, rfl, hi, rfl⟩, rfl⟩)
theorem m_sectorOf {z x y : Int} (hz : zI32 z) (hx : zI32 x) (hy : zI32 y) (ho : h[o]? = some (12, zBf o S)) (R : zRepC (o + 1) σ τ C h) (hO : zOk K C) (hK : K < 2000000) : zMet yX10_sectorOf cX10_sectorOf 6 (some .int) 9 3 18 [.ref o, .int (iI z), .int (iI x), .int (iI y)] h (fun v h' => (∃ i : Nat, z = i ∧ i < C.2.2.2.1.1 ∧ (0 ≤ x ∧ x < 8 ∧ 0 ≤ y ∧ y < 8) ∧ (8 * y + x).toNat ≠ (C.2.1 i).1 ∧ v = some (.int (iI (zSec (C.2.1 i).1 (8 * y + x).toNat)))) ∧ h' = h) (fun D h' => (∀ i : Nat, z = i → i < C.2.2.2.1.1 → (0 ≤ x ∧ x < 8 ∧ 0 ≤ y ∧ y < 8) → (8 * y + x).toNat = (C.2.1 i).1) ∧ zTh [xI, xN] h D h') := by
  refine zMet.go (by decide +kernel) (Nat.le_of_ble_eq_true rfl) ?_
  intro X F B hnl hR hn
  have hl6 := hO.2.2.2.1
  refine z_aload_n F dX10_sectorOf_0 rfl rfl ?_
  refine z_iload_n F dX10_sectorOf_1 rfl rfl ?_
  refine z_callV F B cal_yX10_existingLight (m_existingLight hz ho R hO) dX10_sectorOf_2 rfl rfl (Nat.le_of_ble_eq_true rfl) (by decide) (by decide) (by decide) ml_X10_147 im_yX10_existingLight se_yX10_existingLight ho (by decide) rfl rfl (fun v hX qX => ?_) (fun D h1 q => ⟨fun i e hi _ => absurd (show 0 ≤ z ∧ z < C.2.2.2.1.1 by omega) q.1, List.mem_cons.mpr (Or.inl (List.mem_singleton.mp q.2.1)), q.2.2⟩)
  obtain ⟨⟨i, rfl, hi, rfl⟩, qX⟩ := qX
  rw [qX]; clear qX hX
  refine z_astore F dX10_sectorOf_5 rfl (hnl _ rfl) ?_
  refine z_iload_n F dX10_sectorOf_7 rfl rfl ?_
  refine z_iload_n F dX10_sectorOf_8 rfl rfl ?_
  refine z_callS F B cal_yX10_existingCell (m_existingCell hx hy _) dX10_sectorOf_9 rfl rfl (Nat.le_of_ble_eq_true rfl) (by decide) (by decide) (by decide) ml_X10_74 st_yX10_existingCell (fun v hX qX => ?_) (fun D h1 q => ⟨fun i e hi hv => absurd hv q.1, by rw [q.2.1]; decide, q.2.2⟩)
  obtain ⟨hv, rfl, qX⟩ := qX
  rw [qX]; clear qX hX
  have hl := (hO.2.1 i).1
  rw [show (8 * y + x : Int) = (((8 * y + x).toNat : Nat) : Int) by omega]
  refine z_istore F dX10_sectorOf_12 rfl (hnl _ rfl) ?_
  refine z_iload F dX10_sectorOf_14 rfl ?_
  refine z_aload F dX10_sectorOf_16 rfl ?_
  refine z_getfield F fl_X10_156 dX10_sectorOf_18 (R.li (by omega)) (by decide) rfl ?_
  refine zi_icmp_ne (tgt := 34) F dX10_sectorOf_21 (by decide) (by first | omega | (dsimp only at *; omega)) (fun c21 => ?_) (fun c21 => ?_)
  · refine z_aload F dX10_sectorOf_34 rfl ?_
    refine z_iload F dX10_sectorOf_36 rfl ?_
    refine z_callV F B cal_yX7_sectorWith (m_sectorWith (R.li (by omega)) hl (by omega)) dX10_sectorOf_38 rfl rfl (Nat.le_of_ble_eq_true rfl) (by decide) (by decide) (by decide) ml_X10_161 im_yX7_sectorWith se_yX7_sectorWith (R.li (by omega)) (by decide) rfl rfl (fun v hX qX => ?_) (fun C h1 q => q.elim)
    obtain ⟨rfl, qX⟩ := qX
    rw [qX]
    clear qX hX
    exact Z.widen (by decide) (by decide) (z_ireturn F rfl B dX10_sectorOf_41 ⟨⟨i, rfl, hi, hv, by omega, rfl⟩, rfl⟩)
  · exact z_throwG F B thr_X10_140_159_144 dX10_sectorOf_24 dX10_sectorOf_27 dX10_sectorOf_28 dX10_sectorOf_30 dX10_sectorOf_33 (by decide) (by decide) (by decide) (by decide) (fun j => ⟨fun i2 e _ _ => by rw [show i2 = i by omega]; omega, by decide, j, rfl⟩)
theorem m_reaches {z x y : Int} (hz : zI32 z) (hx : zI32 x) (hy : zI32 y) (ho : h[o]? = some (12, zBf o S)) (R : zRepC (o + 1) σ τ C h) (hO : zOk K C) (hK : K < 2000000) : zMet yX10_reaches cX10_reaches 5 (some .boolean) 9 2 12 [.ref o, .int (iI z), .int (iI x), .int (iI y)] h (fun v h' => (∃ i : Nat, z = i ∧ i < C.2.2.2.1.1 ∧ (0 ≤ x ∧ x < 8 ∧ 0 ≤ y ∧ y < 8) ∧ v = some (.int (iI (zBo (f_rch C (C.2.1 i) (8 * y + x).toNat))))) ∧ h' = h) (fun D h' => ¬ ((0 ≤ z ∧ z < C.2.2.2.1.1) ∧ (0 ≤ x ∧ x < 8 ∧ 0 ≤ y ∧ y < 8)) ∧ zTh [xI] h D h') := by
  refine zMet.go (by decide +kernel) (Nat.le_of_ble_eq_true rfl) ?_
  intro X F B hnl hR hn
  have hl6 := hO.2.2.2.1
  refine z_aload_n F dX10_reaches_0 rfl rfl ?_
  refine z_iload_n F dX10_reaches_1 rfl rfl ?_
  refine z_callV F B cal_yX10_existingLight (m_existingLight hz ho R hO) dX10_reaches_2 rfl rfl (Nat.le_of_ble_eq_true rfl) (by decide) (by decide) (by decide) ml_X10_147 im_yX10_existingLight se_yX10_existingLight ho (by decide) rfl rfl (fun v hX qX => ?_) (fun D h1 q => ⟨fun e => q.1 e.1, q.2.1, q.2.2⟩)
  obtain ⟨⟨i, rfl, hi, rfl⟩, qX⟩ := qX
  rw [qX]; clear qX hX
  refine z_astore F dX10_reaches_5 rfl (hnl _ rfl) ?_
  refine z_aload_n F dX10_reaches_7 rfl rfl ?_
  refine z_getfield F fl_X10_12 dX10_reaches_8 ho (by decide) rfl ?_
  refine z_aload F dX10_reaches_11 rfl ?_
  refine z_iload_n F dX10_reaches_13 rfl rfl ?_
  refine z_iload_n F dX10_reaches_14 rfl rfl ?_
  refine z_callS F B cal_yX10_existingCell (m_existingCell hx hy _) dX10_reaches_15 rfl rfl (Nat.le_of_ble_eq_true rfl) (by decide) (by decide) (by decide) ml_X10_74 st_yX10_existingCell (fun v hX qX => ?_) (fun D h1 q => ⟨fun e => q.1 e.2, by rw [q.2.1]; decide, q.2.2⟩)
  obtain ⟨hv, rfl, qX⟩ := qX
  rw [qX]; clear qX hX
  rw [show (8 * y + x : Int) = (((8 * y + x).toNat : Nat) : Int) by omega]
  refine z_callV F B cal_yX2_canReach (m_canReach R hO (R.li (by omega)) (hO.2.1 i) (by omega)) dX10_reaches_18 rfl rfl (Nat.le_of_ble_eq_true rfl) (by decide) (by decide) (by decide) ml_X10_164 im_yX2_canReach se_yX2_canReach R.ob (by decide) rfl rfl (fun v hX qX => ?_) (fun C h1 q => q.elim)
  obtain ⟨rfl, qX⟩ := qX
  rw [qX]
  clear qX hX
  exact Z.widen (by decide) (by decide) (z_ireturn F (zBo_nar _) B dX10_reaches_21 ⟨⟨i, rfl, hi, hv, rfl⟩, rfl⟩)
theorem m_sweeps {z x y : Int} (hz : zI32 z) (hx : zI32 x) (hy : zI32 y) (ho : h[o]? = some (12, zBf o S)) (R : zRepC (o + 1) σ τ C h) (hO : zOk K C) (hK : K < 2000000) : zMet yX10_sweeps cX10_sweeps 5 (some .boolean) 9 2 12 [.ref o, .int (iI z), .int (iI x), .int (iI y)] h (fun v h' => (∃ i : Nat, z = i ∧ i < C.2.2.2.1.1 ∧ (0 ≤ x ∧ x < 8 ∧ 0 ≤ y ∧ y < 8) ∧ v = some (.int (iI (zBo (f_swp C (C.2.1 i) (8 * y + x).toNat))))) ∧ h' = h) (fun D h' => ¬ ((0 ≤ z ∧ z < C.2.2.2.1.1) ∧ (0 ≤ x ∧ x < 8 ∧ 0 ≤ y ∧ y < 8)) ∧ zTh [xI] h D h') := by
  refine zMet.go (by decide +kernel) (Nat.le_of_ble_eq_true rfl) ?_
  intro X F B hnl hR hn
  have hl6 := hO.2.2.2.1
  refine z_aload_n F dX10_sweeps_0 rfl rfl ?_
  refine z_iload_n F dX10_sweeps_1 rfl rfl ?_
  refine z_callV F B cal_yX10_existingLight (m_existingLight hz ho R hO) dX10_sweeps_2 rfl rfl (Nat.le_of_ble_eq_true rfl) (by decide) (by decide) (by decide) ml_X10_147 im_yX10_existingLight se_yX10_existingLight ho (by decide) rfl rfl (fun v hX qX => ?_) (fun D h1 q => ⟨fun e => q.1 e.1, q.2.1, q.2.2⟩)
  obtain ⟨⟨i, rfl, hi, rfl⟩, qX⟩ := qX
  rw [qX]; clear qX hX
  refine z_astore F dX10_sweeps_5 rfl (hnl _ rfl) ?_
  refine z_aload_n F dX10_sweeps_7 rfl rfl ?_
  refine z_getfield F fl_X10_12 dX10_sweeps_8 ho (by decide) rfl ?_
  refine z_aload F dX10_sweeps_11 rfl ?_
  refine z_iload_n F dX10_sweeps_13 rfl rfl ?_
  refine z_iload_n F dX10_sweeps_14 rfl rfl ?_
  refine z_callS F B cal_yX10_existingCell (m_existingCell hx hy _) dX10_sweeps_15 rfl rfl (Nat.le_of_ble_eq_true rfl) (by decide) (by decide) (by decide) ml_X10_74 st_yX10_existingCell (fun v hX qX => ?_) (fun D h1 q => ⟨fun e => q.1 e.2, by rw [q.2.1]; decide, q.2.2⟩)
  obtain ⟨hv, rfl, qX⟩ := qX
  rw [qX]; clear qX hX
  rw [show (8 * y + x : Int) = (((8 * y + x).toNat : Nat) : Int) by omega]
  refine z_callV F B cal_yX2_isSwept (m_isSwept R hO hK (R.li (by omega)) (hO.2.1 i) (by omega)) dX10_sweeps_18 rfl rfl (Nat.le_of_ble_eq_true rfl) (by decide) (by decide) (by decide) ml_X10_168 im_yX2_isSwept se_yX2_isSwept R.ob (by decide) rfl rfl (fun v hX qX => ?_) (fun C h1 q => q.elim)
  obtain ⟨rfl, qX⟩ := qX
  rw [qX]
  clear qX hX
  exact Z.widen (by decide) (by decide) (z_ireturn F (zBo_nar _) B dX10_sweeps_21 ⟨⟨i, rfl, hi, hv, rfl⟩, rfl⟩)
end
