/-! the law's methods with handlers: reads -/
def zNo (o : Option Nat) : Int := match o with
  | none => -1000
  | some k => k
def g_lightOn (C : zCo) (x y : Int) : Int := if 0 ≤ x ∧ x < 8 ∧ 0 ≤ y ∧ y < 8 then zNo (f_lix C (8 * y + x).toNat C.2.2.2.1.1 0) else -1000
def g_sec (C : zCo) (z x y : Int) : Int := if (0 ≤ z ∧ z < C.2.2.2.1.1) ∧ (0 ≤ x ∧ x < 8 ∧ 0 ≤ y ∧ y < 8) ∧ ¬ (8 * y + x).toNat = (C.2.1 z.toNat).1 then zSec (C.2.1 z.toNat).1 (8 * y + x).toNat else -1000
def g_mut (C : zCo) (z x y : Int) : Int := if (0 ≤ z ∧ z < C.2.2.2.1.1) ∧ (0 ≤ x ∧ x < 8 ∧ 0 ≤ y ∧ y < 8) ∧ f_rch C (C.2.1 z.toNat) (8 * y + x).toNat = true then (f_mut C (C.2.1 z.toNat) (8 * y + x).toNat : Nat) else -1000
def g_mut2 (C : zCo) (z x y : Int) : Int := if (0 ≤ z ∧ z < C.2.2.2.1.1) ∧ (0 ≤ x ∧ x < 8 ∧ 0 ≤ y ∧ y < 8) ∧ f_rch C (C.2.1 z.toNat) (8 * y + x).toNat = true then f_mut2 C (C.2.1 z.toNat) (8 * y + x).toNat else -1000
def g_gc (C : zCo) (z : Int) : Int := if 0 ≤ z ∧ z < C.2.2.2.1.2 then (match (C.2.2.1 z.toNat).2.2.1 with | none => -1000 | some g => (g : Int) % 8) else -1000
def g_gr (C : zCo) (z : Int) : Int := if 0 ≤ z ∧ z < C.2.2.2.1.2 then (match (C.2.2.1 z.toNat).2.2.1 with | none => -1000 | some g => (g : Int) / 8) else -1000
def g_way (C : zCo) (z x y : Int) : Int := if (0 ≤ z ∧ z < C.2.2.2.1.2) ∧ 0 ≤ x ∧ x < 8 ∧ 0 ≤ y ∧ y < 8 then zNo (f_ln (f_opF C (f_tide C.2.2.2.2.1) (C.2.2.1 z.toNat).2.1) (C.2.2.1 z.toNat).1 (8 * y + x).toNat) else -1000
def g_wayR (C : zCo) (z x y : Int) : Int := if (0 ≤ z ∧ z < C.2.2.2.1.2) ∧ 0 ≤ x ∧ x < 8 ∧ 0 ≤ y ∧ y < 8 then zNo (iRun (f_opF C (f_tide C.2.2.2.2.1) (C.2.2.1 z.toNat).2.1) 64 (f_bg (C.2.2.1 z.toNat).1) (8 * y + x).toNat) else -1000
def g_arr (C : zCo) (z : Int) : Int := if 0 ≤ z ∧ z < C.2.2.2.1.2 then (match (C.2.2.1 z.toNat).2.2.1 with | none => -1000 | some g => zNo (f_arr C (C.2.2.1 z.toNat).2.1 g 48 1 (C.2.2.1 z.toNat).1)) else -1000
section
variable {o K : Nat} {S : zBt} {h : zH}
theorem w_lightOn {x y : Int} (hx : zI32 x) (hy : zI32 y) (R : zRB o S h) (hO : zOk K S.1) (hK : K < 1700000) : zMetH yL_lightOn cL_lightOn 5 (some .int) [(4, 11, 14, 17), (4, 11, 20, 38)] 11 2 12 [.ref o, .int (iI x), .int (iI y)] h (fun v h' => v = some (.int (iI (g_lightOn S.1 x y))) ∧ zRB o S h') (fun _ _ => False) := by
  refine zMetH.go (by decide +kernel) (Nat.le_of_ble_eq_true rfl) ?_
  intro X F B hnl hR hn
  have r0 := R.2.1
  have z0 := R.1
  obtain ⟨σ, τ, r1⟩ := R.2.2.1
  have hl6 := hO.2.2.2.1
  have hn6 := hO.2.2.2.2.1
  refine zi_sipush F dL_lightOn_0 (by decide) ?_
  refine z_istore_n F dL_lightOn_3 rfl rfl (hnl _ rfl) ?_
  refine z_aload_n F dL_lightOn_4 rfl rfl ?_
  refine z_iload_n F dL_lightOn_5 rfl rfl ?_
  refine z_iload_n F dL_lightOn_6 rfl rfl ?_
  skip
  refine z_callVH F B cal_yX10_lightOn (m_lightOn hx hy r0 r1 hO) dL_lightOn_7 rfl rfl (Nat.le_of_ble_eq_true rfl) (by decide) (by decide) (by decide) ml_L_35 im_yX10_lightOn se_yX10_lightOn r0 (by decide) rfl rfl (fun v hX qX => ?_) (fun D hX qX => ?_)
  · obtain ⟨⟨i, hf, hv, rfl⟩, qh⟩ := qX; rw [qh]; clear qh
    refine z_istore_n F dL_lightOn_10 rfl rfl (hnl _ rfl) ?_
    refine z_goto (tgt := 26) F dL_lightOn_11 (by decide) ?_
    refine z_iload_n F dL_lightOn_26 rfl rfl ?_
    exact Z.widen (by decide) (by decide) (z_ireturnH F rfl B dL_lightOn_27 ⟨vInt (by unfold g_lightOn; rw [if_pos hv, hf]; rfl), R⟩)
  · obtain ⟨q1, qm, j, rfl⟩ := qX; simp only [List.mem_cons, List.not_mem_nil, or_false] at qm; rcases qm with rfl | rfl
    · refine ⟨[], [(4, 11, 20, 38)], 4, 11, 14, 17, 4, 2, rfl, rfl, by decide, (fun q hq => absurd hq List.not_mem_nil), zw_cl_17, zw_in_xI, Or.inr ⟨rfl, dL_lightOn_14⟩, rfl, rfl, hnl _ rfl, ?_⟩
      refine zi_sipush F dL_lightOn_16 (by decide) ?_
      exact Z.widen (by decide) (by decide) (z_ireturnH F rfl B dL_lightOn_19 ⟨vInt (by unfold g_lightOn; split; { rename_i hv; rw [q1 hv]; rfl }; { rfl }), R.junkR _⟩)
    · refine ⟨[(4, 11, 14, 17)], [], 4, 11, 20, 38, 4, 2, rfl, rfl, by decide, (by intro q hq; simp only [List.mem_cons, List.not_mem_nil, or_false] at hq; subst hq; exact ⟨by decide, _, zw_cl_17, by decide +kernel⟩), zw_cl_38, zw_in_xN, Or.inr ⟨rfl, dL_lightOn_20⟩, rfl, rfl, hnl _ rfl, ?_⟩
      refine zi_sipush F dL_lightOn_22 (by decide) ?_
      exact Z.widen (by decide) (by decide) (z_ireturnH F rfl B dL_lightOn_25 ⟨vInt (by unfold g_lightOn; split; { rename_i hv; rw [q1 hv]; rfl }; { rfl }), R.junkR _⟩)
theorem w_sectorOf {z x y : Int} (hz : zI32 z) (hx : zI32 x) (hy : zI32 y) (R : zRB o S h) (hO : zOk K S.1) (hK : K < 1700000) : zMetH yL_sectorOf cL_sectorOf 6 (some .int) [(5, 14, 17, 17), (5, 14, 23, 38)] 11 3 18 [.ref o, .int (iI z), .int (iI x), .int (iI y)] h (fun v h' => v = some (.int (iI (g_sec S.1 z x y))) ∧ zRB o S h') (fun _ _ => False) := by
  refine zMetH.go (by decide +kernel) (Nat.le_of_ble_eq_true rfl) ?_
  intro X F B hnl hR hn
  have r0 := R.2.1
  have z0 := R.1
  obtain ⟨σ, τ, r1⟩ := R.2.2.1
  have hl6 := hO.2.2.2.1
  have hn6 := hO.2.2.2.2.1
  refine zi_sipush F dL_sectorOf_0 (by decide) ?_
  refine z_istore F dL_sectorOf_3 rfl (hnl _ rfl) ?_
  refine z_aload_n F dL_sectorOf_5 rfl rfl ?_
  refine z_iload_n F dL_sectorOf_6 rfl rfl ?_
  refine z_iload_n F dL_sectorOf_7 rfl rfl ?_
  refine z_iload_n F dL_sectorOf_8 rfl rfl ?_
  skip
  refine z_callVH F B cal_yX10_sectorOf (m_sectorOf hz hx hy r0 r1 hO (by omega)) dL_sectorOf_9 rfl rfl (Nat.le_of_ble_eq_true rfl) (by decide) (by decide) (by decide) ml_L_40 im_yX10_sectorOf se_yX10_sectorOf r0 (by decide) rfl rfl (fun v hX qX => ?_) (fun D hX qX => ?_)
  · obtain ⟨⟨i, rfl, hi, hv, hne, rfl⟩, qh⟩ := qX; rw [qh]; clear qh
    refine z_istore F dL_sectorOf_12 rfl (hnl _ rfl) ?_
    refine z_goto (tgt := 29) F dL_sectorOf_14 (by decide) ?_
    refine z_iload F dL_sectorOf_29 rfl ?_
    exact Z.widen (by decide) (by decide) (z_ireturnH F rfl B dL_sectorOf_31 ⟨vInt (by unfold g_sec; rw [if_pos ⟨by omega, hv, hne⟩]; rfl), R⟩)
  · obtain ⟨q1, qm, j, rfl⟩ := qX; simp only [List.mem_cons, List.not_mem_nil, or_false] at qm; rcases qm with rfl | rfl
    · refine ⟨[], [(5, 14, 23, 38)], 5, 14, 17, 17, 5, 2, rfl, rfl, by decide, (fun q hq => absurd hq List.not_mem_nil), zw_cl_17, zw_in_xI, Or.inr ⟨rfl, dL_sectorOf_17⟩, rfl, rfl, hnl _ rfl, ?_⟩
      refine zi_sipush F dL_sectorOf_19 (by decide) ?_
      exact Z.widen (by decide) (by decide) (z_ireturnH F rfl B dL_sectorOf_22 ⟨vInt (by unfold g_sec; rw [if_neg (fun q => q.2.2 (q1 z.toNat (by omega) (by omega) q.2.1))]), R.junkR _⟩)
    · refine ⟨[(5, 14, 17, 17)], [], 5, 14, 23, 38, 5, 2, rfl, rfl, by decide, (by intro q hq; simp only [List.mem_cons, List.not_mem_nil, or_false] at hq; subst hq; exact ⟨by decide, _, zw_cl_17, by decide +kernel⟩), zw_cl_38, zw_in_xN, Or.inr ⟨rfl, dL_sectorOf_23⟩, rfl, rfl, hnl _ rfl, ?_⟩
      refine zi_sipush F dL_sectorOf_25 (by decide) ?_
      exact Z.widen (by decide) (by decide) (z_ireturnH F rfl B dL_sectorOf_28 ⟨vInt (by unfold g_sec; rw [if_neg (fun q => q.2.2 (q1 z.toNat (by omega) (by omega) q.2.1))]), R.junkR _⟩)
theorem w_minutesUntilSwept {z x y : Int} (hz : zI32 z) (hx : zI32 x) (hy : zI32 y) (R : zRB o S h) (hO : zOk K S.1) (hK : K < 1700000) : zMetH yL_minutesUntilSwept cL_minutesUntilSwept 6 (some .int) [(5, 14, 17, 17), (5, 14, 23, 38)] 12 3 18 [.ref o, .int (iI z), .int (iI x), .int (iI y)] h (fun v h' => v = some (.int (iI (g_mut S.1 z x y))) ∧ zRB o S h') (fun _ _ => False) := by
  refine zMetH.go (by decide +kernel) (Nat.le_of_ble_eq_true rfl) ?_
  intro X F B hnl hR hn
  have r0 := R.2.1
  have z0 := R.1
  obtain ⟨σ, τ, r1⟩ := R.2.2.1
  have hl6 := hO.2.2.2.1
  have hn6 := hO.2.2.2.2.1
  refine zi_sipush F dL_minutesUntilSwept_0 (by decide) ?_
  refine z_istore F dL_minutesUntilSwept_3 rfl (hnl _ rfl) ?_
  refine z_aload_n F dL_minutesUntilSwept_5 rfl rfl ?_
  refine z_iload_n F dL_minutesUntilSwept_6 rfl rfl ?_
  refine z_iload_n F dL_minutesUntilSwept_7 rfl rfl ?_
  refine z_iload_n F dL_minutesUntilSwept_8 rfl rfl ?_
  skip
  refine z_callVH F B cal_yX10_minutesUntilSwept (m_minutesUntilSwept hz hx hy r0 r1 hO (by omega)) dL_minutesUntilSwept_9 rfl rfl (Nat.le_of_ble_eq_true rfl) (by decide) (by decide) (by decide) ml_L_43 im_yX10_minutesUntilSwept se_yX10_minutesUntilSwept r0 (by decide) rfl rfl (fun v hX qX => ?_) (fun D hX qX => ?_)
  · obtain ⟨⟨i, rfl, hi, hv, hre, rfl⟩, qh⟩ := qX; rw [qh]; clear qh
    refine z_istore F dL_minutesUntilSwept_12 rfl (hnl _ rfl) ?_
    refine z_goto (tgt := 29) F dL_minutesUntilSwept_14 (by decide) ?_
    refine z_iload F dL_minutesUntilSwept_29 rfl ?_
    exact Z.widen (by decide) (by decide) (z_ireturnH F rfl B dL_minutesUntilSwept_31 ⟨vInt (by unfold g_mut; rw [if_pos ⟨by omega, hv, hre⟩]; rfl), R⟩)
  · obtain ⟨q1, qm, j, rfl⟩ := qX; simp only [List.mem_cons, List.not_mem_nil, or_false] at qm; rcases qm with rfl | rfl
    · refine ⟨[], [(5, 14, 23, 38)], 5, 14, 17, 17, 5, 2, rfl, rfl, by decide, (fun q hq => absurd hq List.not_mem_nil), zw_cl_17, zw_in_xI, Or.inr ⟨rfl, dL_minutesUntilSwept_17⟩, rfl, rfl, hnl _ rfl, ?_⟩
      refine zi_sipush F dL_minutesUntilSwept_19 (by decide) ?_
      exact Z.widen (by decide) (by decide) (z_ireturnH F rfl B dL_minutesUntilSwept_22 ⟨vInt (by unfold g_mut; rw [if_neg (fun q => by have e := q1 z.toNat (by omega) (by omega) q.2.1; rw [e] at q; exact absurd q.2.2 (by decide))]), R.junkR _⟩)
    · refine ⟨[(5, 14, 17, 17)], [], 5, 14, 23, 38, 5, 2, rfl, rfl, by decide, (by intro q hq; simp only [List.mem_cons, List.not_mem_nil, or_false] at hq; subst hq; exact ⟨by decide, _, zw_cl_17, by decide +kernel⟩), zw_cl_38, zw_in_xN, Or.inr ⟨rfl, dL_minutesUntilSwept_23⟩, rfl, rfl, hnl _ rfl, ?_⟩
      refine zi_sipush F dL_minutesUntilSwept_25 (by decide) ?_
      exact Z.widen (by decide) (by decide) (z_ireturnH F rfl B dL_minutesUntilSwept_28 ⟨vInt (by unfold g_mut; rw [if_neg (fun q => by have e := q1 z.toNat (by omega) (by omega) q.2.1; rw [e] at q; exact absurd q.2.2 (by decide))]), R.junkR _⟩)
theorem w_minutesUntilSweptByDivision {z x y : Int} (hz : zI32 z) (hx : zI32 x) (hy : zI32 y) (R : zRB o S h) (hO : zOk K S.1) (hK : K < 1700000) : zMetH yL_minutesUntilSweptByDivision cL_minutesUntilSweptByDivision 6 (some .int) [(5, 14, 17, 17), (5, 14, 23, 38)] 12 3 18 [.ref o, .int (iI z), .int (iI x), .int (iI y)] h (fun v h' => v = some (.int (iI (g_mut2 S.1 z x y))) ∧ zRB o S h') (fun _ _ => False) := by
  refine zMetH.go (by decide +kernel) (Nat.le_of_ble_eq_true rfl) ?_
  intro X F B hnl hR hn
  have r0 := R.2.1
  have z0 := R.1
  obtain ⟨σ, τ, r1⟩ := R.2.2.1
  have hl6 := hO.2.2.2.1
  have hn6 := hO.2.2.2.2.1
  refine zi_sipush F dL_minutesUntilSweptByDivision_0 (by decide) ?_
  refine z_istore F dL_minutesUntilSweptByDivision_3 rfl (hnl _ rfl) ?_
  refine z_aload_n F dL_minutesUntilSweptByDivision_5 rfl rfl ?_
  refine z_iload_n F dL_minutesUntilSweptByDivision_6 rfl rfl ?_
  refine z_iload_n F dL_minutesUntilSweptByDivision_7 rfl rfl ?_
  refine z_iload_n F dL_minutesUntilSweptByDivision_8 rfl rfl ?_
  skip
  refine z_callVH F B cal_yX10_minutesUntilSweptByDivision (m_minutesUntilSweptByDivision hz hx hy r0 r1 hO (by omega)) dL_minutesUntilSweptByDivision_9 rfl rfl (Nat.le_of_ble_eq_true rfl) (by decide) (by decide) (by decide) ml_L_46 im_yX10_minutesUntilSweptByDivision se_yX10_minutesUntilSweptByDivision r0 (by decide) rfl rfl (fun v hX qX => ?_) (fun D hX qX => ?_)
  · obtain ⟨⟨i, rfl, hi, hv, hre, rfl⟩, qh⟩ := qX; rw [qh]; clear qh
    refine z_istore F dL_minutesUntilSweptByDivision_12 rfl (hnl _ rfl) ?_
    refine z_goto (tgt := 29) F dL_minutesUntilSweptByDivision_14 (by decide) ?_
    refine z_iload F dL_minutesUntilSweptByDivision_29 rfl ?_
    exact Z.widen (by decide) (by decide) (z_ireturnH F rfl B dL_minutesUntilSweptByDivision_31 ⟨vInt (by unfold g_mut2; rw [if_pos ⟨by omega, hv, hre⟩]; rfl), R⟩)
  · obtain ⟨q1, qm, j, rfl⟩ := qX; simp only [List.mem_cons, List.not_mem_nil, or_false] at qm; rcases qm with rfl | rfl
    · refine ⟨[], [(5, 14, 23, 38)], 5, 14, 17, 17, 5, 2, rfl, rfl, by decide, (fun q hq => absurd hq List.not_mem_nil), zw_cl_17, zw_in_xI, Or.inr ⟨rfl, dL_minutesUntilSweptByDivision_17⟩, rfl, rfl, hnl _ rfl, ?_⟩
      refine zi_sipush F dL_minutesUntilSweptByDivision_19 (by decide) ?_
      exact Z.widen (by decide) (by decide) (z_ireturnH F rfl B dL_minutesUntilSweptByDivision_22 ⟨vInt (by unfold g_mut2; rw [if_neg (fun q => by have e := q1 z.toNat (by omega) (by omega) q.2.1; rw [e] at q; exact absurd q.2.2 (by decide))]), R.junkR _⟩)
    · refine ⟨[(5, 14, 17, 17)], [], 5, 14, 23, 38, 5, 2, rfl, rfl, by decide, (by intro q hq; simp only [List.mem_cons, List.not_mem_nil, or_false] at hq; subst hq; exact ⟨by decide, _, zw_cl_17, by decide +kernel⟩), zw_cl_38, zw_in_xN, Or.inr ⟨rfl, dL_minutesUntilSweptByDivision_23⟩, rfl, rfl, hnl _ rfl, ?_⟩
      refine zi_sipush F dL_minutesUntilSweptByDivision_25 (by decide) ?_
      exact Z.widen (by decide) (by decide) (z_ireturnH F rfl B dL_minutesUntilSweptByDivision_28 ⟨vInt (by unfold g_mut2; rw [if_neg (fun q => by have e := q1 z.toNat (by omega) (by omega) q.2.1; rw [e] at q; exact absurd q.2.2 (by decide))]), R.junkR _⟩)
theorem w_goalColumn {z : Int} (hz : zI32 z) (R : zRB o S h) (hO : zOk K S.1) (hK : K < 1700000) : zMetH yL_goalColumn cL_goalColumn 4 (some .int) [(4, 10, 13, 17), (4, 10, 18, 38)] 11 2 12 [.ref o, .int (iI z)] h (fun v h' => v = some (.int (iI (g_gc S.1 z))) ∧ zRB o S h') (fun _ _ => False) := by
  refine zMetH.go (by decide +kernel) (Nat.le_of_ble_eq_true rfl) ?_
  intro X F B hnl hR hn
  have r0 := R.2.1
  have z0 := R.1
  obtain ⟨σ, τ, r1⟩ := R.2.2.1
  have hl6 := hO.2.2.2.1
  have hn6 := hO.2.2.2.2.1
  refine zi_sipush F dL_goalColumn_0 (by decide) ?_
  refine z_istore_n F dL_goalColumn_3 rfl rfl (hnl _ rfl) ?_
  refine z_aload_n F dL_goalColumn_4 rfl rfl ?_
  refine z_iload_n F dL_goalColumn_5 rfl rfl ?_
  skip
  refine z_callVH F B cal_yX10_goalColumn (m_goalColumn hz r0 r1 hO (by omega)) dL_goalColumn_6 rfl rfl (Nat.le_of_ble_eq_true rfl) (by decide) (by decide) (by decide) ml_L_61 im_yX10_goalColumn se_yX10_goalColumn r0 (by decide) rfl rfl (fun v hX qX => ?_) (fun D hX qX => ?_)
  · obtain ⟨⟨i, g, rfl, hi, hg, rfl⟩, qh⟩ := qX; rw [qh]; clear qh
    refine z_istore_n F dL_goalColumn_9 rfl rfl (hnl _ rfl) ?_
    refine z_goto (tgt := 23) F dL_goalColumn_10 (by decide) ?_
    refine z_iload_n F dL_goalColumn_23 rfl rfl ?_
    exact Z.widen (by decide) (by decide) (z_ireturnH F rfl B dL_goalColumn_24 ⟨vInt (by unfold g_gc; rw [if_pos (by omega), show (S.1.2.2.1 (i : Int).toNat).2.2.1 = some g from hg]), R⟩)
  · obtain ⟨q1, qm, j, rfl⟩ := qX; simp only [List.mem_cons, List.not_mem_nil, or_false] at qm; rcases qm with rfl | rfl
    · refine ⟨[], [(4, 10, 18, 38)], 4, 10, 13, 17, 3, 1, rfl, rfl, by decide, (fun q hq => absurd hq List.not_mem_nil), zw_cl_17, zw_in_xI, Or.inl ⟨3, rfl, rfl, dL_goalColumn_13⟩, rfl, rfl, hnl _ rfl, ?_⟩
      refine zi_sipush F dL_goalColumn_14 (by decide) ?_
      exact Z.widen (by decide) (by decide) (z_ireturnH F rfl B dL_goalColumn_17 ⟨vInt (by unfold g_gc; split; { rename_i hv; rw [q1 z.toNat (by omega) (by omega)] }; { rfl }), R.junkR _⟩)
    · refine ⟨[(4, 10, 13, 17)], [], 4, 10, 18, 38, 3, 1, rfl, rfl, by decide, (by intro q hq; simp only [List.mem_cons, List.not_mem_nil, or_false] at hq; subst hq; exact ⟨by decide, _, zw_cl_17, by decide +kernel⟩), zw_cl_38, zw_in_xN, Or.inl ⟨3, rfl, rfl, dL_goalColumn_18⟩, rfl, rfl, hnl _ rfl, ?_⟩
      refine zi_sipush F dL_goalColumn_19 (by decide) ?_
      exact Z.widen (by decide) (by decide) (z_ireturnH F rfl B dL_goalColumn_22 ⟨vInt (by unfold g_gc; split; { rename_i hv; rw [q1 z.toNat (by omega) (by omega)] }; { rfl }), R.junkR _⟩)
theorem w_goalRow {z : Int} (hz : zI32 z) (R : zRB o S h) (hO : zOk K S.1) (hK : K < 1700000) : zMetH yL_goalRow cL_goalRow 4 (some .int) [(4, 10, 13, 17), (4, 10, 18, 38)] 11 2 12 [.ref o, .int (iI z)] h (fun v h' => v = some (.int (iI (g_gr S.1 z))) ∧ zRB o S h') (fun _ _ => False) := by
  refine zMetH.go (by decide +kernel) (Nat.le_of_ble_eq_true rfl) ?_
  intro X F B hnl hR hn
  have r0 := R.2.1
  have z0 := R.1
  obtain ⟨σ, τ, r1⟩ := R.2.2.1
  have hl6 := hO.2.2.2.1
  have hn6 := hO.2.2.2.2.1
  refine zi_sipush F dL_goalRow_0 (by decide) ?_
  refine z_istore_n F dL_goalRow_3 rfl rfl (hnl _ rfl) ?_
  refine z_aload_n F dL_goalRow_4 rfl rfl ?_
  refine z_iload_n F dL_goalRow_5 rfl rfl ?_
  skip
  refine z_callVH F B cal_yX10_goalRow (m_goalRow hz r0 r1 hO (by omega)) dL_goalRow_6 rfl rfl (Nat.le_of_ble_eq_true rfl) (by decide) (by decide) (by decide) ml_L_64 im_yX10_goalRow se_yX10_goalRow r0 (by decide) rfl rfl (fun v hX qX => ?_) (fun D hX qX => ?_)
  · obtain ⟨⟨i, g, rfl, hi, hg, rfl⟩, qh⟩ := qX; rw [qh]; clear qh
    refine z_istore_n F dL_goalRow_9 rfl rfl (hnl _ rfl) ?_
    refine z_goto (tgt := 23) F dL_goalRow_10 (by decide) ?_
    refine z_iload_n F dL_goalRow_23 rfl rfl ?_
    exact Z.widen (by decide) (by decide) (z_ireturnH F rfl B dL_goalRow_24 ⟨vInt (by unfold g_gr; rw [if_pos (by omega), show (S.1.2.2.1 (i : Int).toNat).2.2.1 = some g from hg]), R⟩)
  · obtain ⟨q1, qm, j, rfl⟩ := qX; simp only [List.mem_cons, List.not_mem_nil, or_false] at qm; rcases qm with rfl | rfl
    · refine ⟨[], [(4, 10, 18, 38)], 4, 10, 13, 17, 3, 1, rfl, rfl, by decide, (fun q hq => absurd hq List.not_mem_nil), zw_cl_17, zw_in_xI, Or.inl ⟨3, rfl, rfl, dL_goalRow_13⟩, rfl, rfl, hnl _ rfl, ?_⟩
      refine zi_sipush F dL_goalRow_14 (by decide) ?_
      exact Z.widen (by decide) (by decide) (z_ireturnH F rfl B dL_goalRow_17 ⟨vInt (by unfold g_gr; split; { rename_i hv; rw [q1 z.toNat (by omega) (by omega)] }; { rfl }), R.junkR _⟩)
    · refine ⟨[(4, 10, 13, 17)], [], 4, 10, 18, 38, 3, 1, rfl, rfl, by decide, (by intro q hq; simp only [List.mem_cons, List.not_mem_nil, or_false] at hq; subst hq; exact ⟨by decide, _, zw_cl_17, by decide +kernel⟩), zw_cl_38, zw_in_xN, Or.inl ⟨3, rfl, rfl, dL_goalRow_18⟩, rfl, rfl, hnl _ rfl, ?_⟩
      refine zi_sipush F dL_goalRow_19 (by decide) ?_
      exact Z.widen (by decide) (by decide) (z_ireturnH F rfl B dL_goalRow_22 ⟨vInt (by unfold g_gr; split; { rename_i hv; rw [q1 z.toNat (by omega) (by omega)] }; { rfl }), R.junkR _⟩)
theorem w_wayLength {z x y : Int} (hz : zI32 z) (hx : zI32 x) (hy : zI32 y) (R : zRB o S h) (hO : zOk K S.1) (hK : K < 1700000) : zMetH yL_wayLength cL_wayLength 6 (some .int) [(5, 14, 17, 17), (5, 14, 23, 38)] 11 3 18 [.ref o, .int (iI z), .int (iI x), .int (iI y)] h (fun v h' => v = some (.int (iI (g_way S.1 z x y))) ∧ zRB o S h') (fun _ _ => False) := by
  refine zMetH.go (by decide +kernel) (Nat.le_of_ble_eq_true rfl) ?_
  intro X F B hnl hR hn
  have r0 := R.2.1
  have z0 := R.1
  obtain ⟨σ, τ, r1⟩ := R.2.2.1
  have hl6 := hO.2.2.2.1
  have hn6 := hO.2.2.2.2.1
  refine zi_sipush F dL_wayLength_0 (by decide) ?_
  refine z_istore F dL_wayLength_3 rfl (hnl _ rfl) ?_
  refine z_aload_n F dL_wayLength_5 rfl rfl ?_
  refine z_iload_n F dL_wayLength_6 rfl rfl ?_
  refine z_iload_n F dL_wayLength_7 rfl rfl ?_
  refine z_iload_n F dL_wayLength_8 rfl rfl ?_
  skip
  refine z_callVH F B cal_yX10_wayLength (m_wayLength hz hx hy r0 r1 hO (by omega) R.2.2.2.2.2.1 z0) dL_wayLength_9 rfl rfl (Nat.le_of_ble_eq_true rfl) (by decide) (by decide) (by decide) ml_L_67 im_yX10_wayLength se_yX10_wayLength r0 (by decide) rfl rfl (fun v hX qX => ?_) (fun D hX qX => ?_)
  · obtain ⟨⟨i, k, rfl, hi, hv, hf, rfl⟩, W, s⟩ := qX; have R1 := R.ways s W
    refine z_istore F dL_wayLength_12 rfl (hnl _ rfl) ?_
    refine z_goto (tgt := 29) F dL_wayLength_14 (by decide) ?_
    refine z_iload F dL_wayLength_29 rfl ?_
    exact Z.widen (by decide) (by decide) (z_ireturnH F rfl B dL_wayLength_31 ⟨vInt (by unfold g_way; rw [if_pos ⟨by omega, hv⟩]; show (k : Int) = zNo _; rw [show ((i : Int).toNat) = i from rfl, hf]; rfl), R1⟩)
  · obtain ⟨q1, qm, W, s⟩ := qX; have R1 := R.ways s W; simp only [List.mem_cons, List.not_mem_nil, or_false] at qm; rcases qm with rfl | rfl
    · refine ⟨[], [(5, 14, 23, 38)], 5, 14, 17, 17, 5, 2, rfl, rfl, by decide, (fun q hq => absurd hq List.not_mem_nil), zw_cl_17, zw_in_xI, Or.inr ⟨rfl, dL_wayLength_17⟩, rfl, rfl, hnl _ rfl, ?_⟩
      refine zi_sipush F dL_wayLength_19 (by decide) ?_
      exact Z.widen (by decide) (by decide) (z_ireturnH F rfl B dL_wayLength_22 ⟨vInt (by unfold g_way; split; { rename_i hv; rw [q1 z.toNat (by omega) (by omega) hv.2]; rfl }; { rfl }), R1⟩)
    · refine ⟨[(5, 14, 17, 17)], [], 5, 14, 23, 38, 5, 2, rfl, rfl, by decide, (by intro q hq; simp only [List.mem_cons, List.not_mem_nil, or_false] at hq; subst hq; exact ⟨by decide, _, zw_cl_17, by decide +kernel⟩), zw_cl_38, zw_in_xN, Or.inr ⟨rfl, dL_wayLength_23⟩, rfl, rfl, hnl _ rfl, ?_⟩
      refine zi_sipush F dL_wayLength_25 (by decide) ?_
      exact Z.widen (by decide) (by decide) (z_ireturnH F rfl B dL_wayLength_28 ⟨vInt (by unfold g_way; split; { rename_i hv; rw [q1 z.toNat (by omega) (by omega) hv.2]; rfl }; { rfl }), R1⟩)
theorem w_wayLengthByRounds {z x y : Int} (hz : zI32 z) (hx : zI32 x) (hy : zI32 y) (R : zRB o S h) (hO : zOk K S.1) (hK : K < 1700000) : zMetH yL_wayLengthByRounds cL_wayLengthByRounds 6 (some .int) [(5, 14, 17, 17), (5, 14, 23, 38)] 11 3 18 [.ref o, .int (iI z), .int (iI x), .int (iI y)] h (fun v h' => v = some (.int (iI (g_wayR S.1 z x y))) ∧ zRB o S h') (fun _ _ => False) := by
  refine zMetH.go (by decide +kernel) (Nat.le_of_ble_eq_true rfl) ?_
  intro X F B hnl hR hn
  have r0 := R.2.1
  have z0 := R.1
  obtain ⟨σ, τ, r1⟩ := R.2.2.1
  have hl6 := hO.2.2.2.1
  have hn6 := hO.2.2.2.2.1
  refine zi_sipush F dL_wayLengthByRounds_0 (by decide) ?_
  refine z_istore F dL_wayLengthByRounds_3 rfl (hnl _ rfl) ?_
  refine z_aload_n F dL_wayLengthByRounds_5 rfl rfl ?_
  refine z_iload_n F dL_wayLengthByRounds_6 rfl rfl ?_
  refine z_iload_n F dL_wayLengthByRounds_7 rfl rfl ?_
  refine z_iload_n F dL_wayLengthByRounds_8 rfl rfl ?_
  skip
  refine z_callVH F B cal_yX10_wayLengthByRounds (m_wayLengthByRounds hz hx hy r0 r1 hO (by omega) R.2.2.2.2.2.1 z0) dL_wayLengthByRounds_9 rfl rfl (Nat.le_of_ble_eq_true rfl) (by decide) (by decide) (by decide) ml_L_70 im_yX10_wayLengthByRounds se_yX10_wayLengthByRounds r0 (by decide) rfl rfl (fun v hX qX => ?_) (fun D hX qX => ?_)
  · obtain ⟨⟨i, k, rfl, hi, hv, hf, rfl⟩, W, s⟩ := qX; have R1 := R.ways s W
    refine z_istore F dL_wayLengthByRounds_12 rfl (hnl _ rfl) ?_
    refine z_goto (tgt := 29) F dL_wayLengthByRounds_14 (by decide) ?_
    refine z_iload F dL_wayLengthByRounds_29 rfl ?_
    exact Z.widen (by decide) (by decide) (z_ireturnH F rfl B dL_wayLengthByRounds_31 ⟨vInt (by unfold g_wayR; rw [if_pos ⟨by omega, hv⟩]; show (k : Int) = zNo _; rw [show ((i : Int).toNat) = i from rfl, hf]; rfl), R1⟩)
  · obtain ⟨q1, qm, W, s⟩ := qX; have R1 := R.ways s W; simp only [List.mem_cons, List.not_mem_nil, or_false] at qm; rcases qm with rfl | rfl
    · refine ⟨[], [(5, 14, 23, 38)], 5, 14, 17, 17, 5, 2, rfl, rfl, by decide, (fun q hq => absurd hq List.not_mem_nil), zw_cl_17, zw_in_xI, Or.inr ⟨rfl, dL_wayLengthByRounds_17⟩, rfl, rfl, hnl _ rfl, ?_⟩
      refine zi_sipush F dL_wayLengthByRounds_19 (by decide) ?_
      exact Z.widen (by decide) (by decide) (z_ireturnH F rfl B dL_wayLengthByRounds_22 ⟨vInt (by unfold g_wayR; split; { rename_i hv; rw [q1 z.toNat (by omega) (by omega) hv.2]; rfl }; { rfl }), R1⟩)
    · refine ⟨[(5, 14, 17, 17)], [], 5, 14, 23, 38, 5, 2, rfl, rfl, by decide, (by intro q hq; simp only [List.mem_cons, List.not_mem_nil, or_false] at hq; subst hq; exact ⟨by decide, _, zw_cl_17, by decide +kernel⟩), zw_cl_38, zw_in_xN, Or.inr ⟨rfl, dL_wayLengthByRounds_23⟩, rfl, rfl, hnl _ rfl, ?_⟩
      refine zi_sipush F dL_wayLengthByRounds_25 (by decide) ?_
      exact Z.widen (by decide) (by decide) (z_ireturnH F rfl B dL_wayLengthByRounds_28 ⟨vInt (by unfold g_wayR; split; { rename_i hv; rw [q1 z.toNat (by omega) (by omega) hv.2]; rfl }; { rfl }), R1⟩)
theorem w_minutesUntilArrival {z : Int} (hz : zI32 z) (R : zRB o S h) (hO : zOk K S.1) (hK : K < 1700000) : zMetH yL_minutesUntilArrival cL_minutesUntilArrival 4 (some .int) [(4, 10, 13, 17), (4, 10, 18, 38)] 11 3 18 [.ref o, .int (iI z)] h (fun v h' => v = some (.int (iI (g_arr S.1 z))) ∧ zRB o S h') (fun _ _ => False) := by
  refine zMetH.go (by decide +kernel) (Nat.le_of_ble_eq_true rfl) ?_
  intro X F B hnl hR hn
  have r0 := R.2.1
  have z0 := R.1
  obtain ⟨σ, τ, r1⟩ := R.2.2.1
  have hl6 := hO.2.2.2.1
  have hn6 := hO.2.2.2.2.1
  refine zi_sipush F dL_minutesUntilArrival_0 (by decide) ?_
  refine z_istore_n F dL_minutesUntilArrival_3 rfl rfl (hnl _ rfl) ?_
  refine z_aload_n F dL_minutesUntilArrival_4 rfl rfl ?_
  refine z_iload_n F dL_minutesUntilArrival_5 rfl rfl ?_
  skip
  refine z_callVH F B cal_yX10_minutesUntilArrival (m_minutesUntilArrival hz r0 r1 hO (by omega) R.2.2.2.2.2.1 z0) dL_minutesUntilArrival_6 rfl rfl (Nat.le_of_ble_eq_true rfl) (by decide) (by decide) (by decide) ml_L_73 im_yX10_minutesUntilArrival se_yX10_minutesUntilArrival r0 (by decide) rfl rfl (fun v hX qX => ?_) (fun D hX qX => ?_)
  · obtain ⟨⟨i, g, m, rfl, hi, hg, hf, rfl⟩, W, s⟩ := qX; have R1 := R.ways s W
    refine z_istore_n F dL_minutesUntilArrival_9 rfl rfl (hnl _ rfl) ?_
    refine z_goto (tgt := 23) F dL_minutesUntilArrival_10 (by decide) ?_
    refine z_iload_n F dL_minutesUntilArrival_23 rfl rfl ?_
    exact Z.widen (by decide) (by decide) (z_ireturnH F rfl B dL_minutesUntilArrival_24 ⟨vInt (by unfold g_arr; rw [if_pos (by omega), show ((i : Int).toNat) = i from rfl, hg]; show (m : Int) = zNo _; rw [hf]; rfl), R1⟩)
  · obtain ⟨q1, qm, W, s⟩ := qX; have R1 := R.ways s W; simp only [List.mem_cons, List.not_mem_nil, or_false] at qm; rcases qm with rfl | rfl
    · refine ⟨[], [(4, 10, 18, 38)], 4, 10, 13, 17, 3, 1, rfl, rfl, by decide, (fun q hq => absurd hq List.not_mem_nil), zw_cl_17, zw_in_xI, Or.inl ⟨3, rfl, rfl, dL_minutesUntilArrival_13⟩, rfl, rfl, hnl _ rfl, ?_⟩
      refine zi_sipush F dL_minutesUntilArrival_14 (by decide) ?_
      exact Z.widen (by decide) (by decide) (z_ireturnH F rfl B dL_minutesUntilArrival_17 ⟨vInt (by unfold g_arr; split; { rename_i hv; cases hg : (S.1.2.2.1 z.toNat).2.2.1 with | none => rfl | some g => (show (-1000 : Int) = zNo _; rw [q1 z.toNat g (by omega) (by omega) hg]; rfl) }; { rfl }), R1⟩)
    · refine ⟨[(4, 10, 13, 17)], [], 4, 10, 18, 38, 3, 1, rfl, rfl, by decide, (by intro q hq; simp only [List.mem_cons, List.not_mem_nil, or_false] at hq; subst hq; exact ⟨by decide, _, zw_cl_17, by decide +kernel⟩), zw_cl_38, zw_in_xN, Or.inl ⟨3, rfl, rfl, dL_minutesUntilArrival_18⟩, rfl, rfl, hnl _ rfl, ?_⟩
      refine zi_sipush F dL_minutesUntilArrival_19 (by decide) ?_
      exact Z.widen (by decide) (by decide) (z_ireturnH F rfl B dL_minutesUntilArrival_22 ⟨vInt (by unfold g_arr; split; { rename_i hv; cases hg : (S.1.2.2.1 z.toNat).2.2.1 with | none => rfl | some g => (show (-1000 : Int) = zNo _; rw [q1 z.toNat g (by omega) (by omega) hg]; rfl) }; { rfl }), R1⟩)
theorem w_shipByDarkness {z : Int} (hz : zI32 z) (R : zRB o S h) (hO : zOk K S.1) (hK : K < 1700000) : zMetH yL_shipByDarkness cL_shipByDarkness 4 (some .int) [(4, 10, 13, 38)] 10 1 6 [.ref o, .int (iI z)] h (fun v h' => ((∃ i : Nat, i < S.1.2.2.2.1.2 ∧ z = (f_sdt S.1 i : Nat) ∧ v = some (.int (iI i))) ∨ ((∀ i : Nat, i < S.1.2.2.2.1.2 → z ≠ (f_sdt S.1 i : Nat)) ∧ v = some (.int (iI (-1000))))) ∧ zRB o S h') (fun _ _ => False) := by
  refine zMetH.go (by decide +kernel) (Nat.le_of_ble_eq_true rfl) ?_
  intro X F B hnl hR hn
  have r0 := R.2.1
  have z0 := R.1
  obtain ⟨σ, τ, r1⟩ := R.2.2.1
  have hl6 := hO.2.2.2.1
  have hn6 := hO.2.2.2.2.1
  refine zi_sipush F dL_shipByDarkness_0 (by decide) ?_
  refine z_istore_n F dL_shipByDarkness_3 rfl rfl (hnl _ rfl) ?_
  refine z_aload_n F dL_shipByDarkness_4 rfl rfl ?_
  refine z_iload_n F dL_shipByDarkness_5 rfl rfl ?_
  skip
  refine z_callVH F B cal_yX10_shipByDarkness (m_shipByDarkness hz r0 r1 hO (by omega)) dL_shipByDarkness_6 rfl rfl (Nat.le_of_ble_eq_true rfl) (by decide) (by decide) (by decide) ml_L_76 im_yX10_shipByDarkness se_yX10_shipByDarkness r0 (by decide) rfl rfl (fun v hX qX => ?_) (fun D hX qX => ?_)
  · obtain ⟨⟨i, hi, he, rfl⟩, qh⟩ := qX; rw [qh]; clear qh
    refine z_istore_n F dL_shipByDarkness_9 rfl rfl (hnl _ rfl) ?_
    refine z_goto (tgt := 18) F dL_shipByDarkness_10 (by decide) ?_
    refine z_iload_n F dL_shipByDarkness_18 rfl rfl ?_
    exact Z.widen (by decide) (by decide) (z_ireturnH F rfl B dL_shipByDarkness_19 ⟨Or.inl ⟨i, hi, he, rfl⟩, R⟩)
  · obtain ⟨q1, qm, j, rfl⟩ := qX; simp only [List.mem_cons, List.not_mem_nil, or_false] at qm; subst qm
    · refine ⟨[], [], 4, 10, 13, 38, 3, 1, rfl, rfl, by decide, (fun q hq => absurd hq List.not_mem_nil), zw_cl_38, zw_in_xN, Or.inl ⟨3, rfl, rfl, dL_shipByDarkness_13⟩, rfl, rfl, hnl _ rfl, ?_⟩
      refine zi_sipush F dL_shipByDarkness_14 (by decide) ?_
      exact Z.widen (by decide) (by decide) (z_ireturnH F rfl B dL_shipByDarkness_17 ⟨Or.inr ⟨q1, rfl⟩, R.junkR _⟩)
theorem w_denial (R : zRB o S h) (hO : zOk K S.1) (hK : K < 1700000) (hb : zI32 S.2.2.2.2.2.1) : zMetH yL_denial cL_denial 3 (some .int) [(4, 9, 12, 38)] 10 1 6 [.ref o] h (fun v h' => v = some (.int (iI (if S.2.2.2.2.2.1 = 0 then -1000 else S.2.2.2.2.2.1))) ∧ zRB o S h') (fun _ _ => False) := by
  refine zMetH.go (by decide +kernel) (Nat.le_of_ble_eq_true rfl) ?_
  intro X F B hnl hR hn
  have r0 := R.2.1
  have z0 := R.1
  obtain ⟨σ, τ, r1⟩ := R.2.2.1
  have hl6 := hO.2.2.2.1
  have hn6 := hO.2.2.2.2.1
  refine zi_sipush F dL_denial_0 (by decide) ?_
  refine z_istore_n F dL_denial_3 rfl rfl (hnl _ rfl) ?_
  refine z_aload_n F dL_denial_4 rfl rfl ?_
  skip
  refine z_callVH F B cal_yX10_denial (m_denial R hb) dL_denial_5 rfl rfl (Nat.le_of_ble_eq_true rfl) (by decide) (by decide) (by decide) ml_L_90 im_yX10_denial se_yX10_denial r0 (by decide) rfl rfl (fun v hX qX => ?_) (fun D hX qX => ?_)
  · obtain ⟨⟨q0, rfl⟩, qh⟩ := qX; rw [qh]; clear qh
    refine z_istore_n F dL_denial_8 rfl rfl (hnl _ rfl) ?_
    refine z_goto (tgt := 17) F dL_denial_9 (by decide) ?_
    refine z_iload_n F dL_denial_17 rfl rfl ?_
    exact Z.widen (by decide) (by decide) (z_ireturnH F rfl B dL_denial_18 ⟨vInt (by rw [if_neg q0]), R⟩)
  · obtain ⟨q1, qm, j, rfl⟩ := qX; simp only [List.mem_cons, List.not_mem_nil, or_false] at qm; subst qm
    · refine ⟨[], [], 4, 9, 12, 38, 2, 1, rfl, rfl, by decide, (fun q hq => absurd hq List.not_mem_nil), zw_cl_38, zw_in_xN, Or.inl ⟨2, rfl, rfl, dL_denial_12⟩, rfl, rfl, hnl _ rfl, ?_⟩
      refine zi_sipush F dL_denial_13 (by decide) ?_
      exact Z.widen (by decide) (by decide) (z_ireturnH F rfl B dL_denial_16 ⟨vInt (by rw [if_pos q1]), R.junkR _⟩)
theorem w_denialCause (R : zRB o S h) (hO : zOk K S.1) (hK : K < 1700000) (hb : zI32 S.2.2.2.2.2.2.2) : zMetH yL_denialCause cL_denialCause 3 (some .int) [(4, 9, 12, 38)] 10 1 6 [.ref o] h (fun v h' => v = some (.int (iI (if S.2.2.2.2.2.2.2 = 0 then -1000 else S.2.2.2.2.2.2.2))) ∧ zRB o S h') (fun _ _ => False) := by
  refine zMetH.go (by decide +kernel) (Nat.le_of_ble_eq_true rfl) ?_
  intro X F B hnl hR hn
  have r0 := R.2.1
  have z0 := R.1
  obtain ⟨σ, τ, r1⟩ := R.2.2.1
  have hl6 := hO.2.2.2.1
  have hn6 := hO.2.2.2.2.1
  refine zi_sipush F dL_denialCause_0 (by decide) ?_
  refine z_istore_n F dL_denialCause_3 rfl rfl (hnl _ rfl) ?_
  refine z_aload_n F dL_denialCause_4 rfl rfl ?_
  skip
  refine z_callVH F B cal_yX10_denialCause (m_denialCause R hb) dL_denialCause_5 rfl rfl (Nat.le_of_ble_eq_true rfl) (by decide) (by decide) (by decide) ml_L_93 im_yX10_denialCause se_yX10_denialCause r0 (by decide) rfl rfl (fun v hX qX => ?_) (fun D hX qX => ?_)
  · obtain ⟨⟨q0, rfl⟩, qh⟩ := qX; rw [qh]; clear qh
    refine z_istore_n F dL_denialCause_8 rfl rfl (hnl _ rfl) ?_
    refine z_goto (tgt := 17) F dL_denialCause_9 (by decide) ?_
    refine z_iload_n F dL_denialCause_17 rfl rfl ?_
    exact Z.widen (by decide) (by decide) (z_ireturnH F rfl B dL_denialCause_18 ⟨vInt (by rw [if_neg q0]), R⟩)
  · obtain ⟨q1, qm, j, rfl⟩ := qX; simp only [List.mem_cons, List.not_mem_nil, or_false] at qm; subst qm
    · refine ⟨[], [], 4, 9, 12, 38, 2, 1, rfl, rfl, by decide, (fun q hq => absurd hq List.not_mem_nil), zw_cl_38, zw_in_xN, Or.inl ⟨2, rfl, rfl, dL_denialCause_12⟩, rfl, rfl, hnl _ rfl, ?_⟩
      refine zi_sipush F dL_denialCause_13 (by decide) ?_
      exact Z.widen (by decide) (by decide) (z_ireturnH F rfl B dL_denialCause_16 ⟨vInt (by rw [if_pos q1]), R.junkR _⟩)
theorem w_undo (R : zRB o S h) (hO : zOk K S.1) (hK : K < 1700000) : zMetH yL_undo cL_undo 3 (some .int) [(3, 8, 11, 99)] 10 1 6 [.ref o] h (fun v h' => (0 < S.2.2.1.2.1 ∧ v = some (.int (iI ((S.2.2.1.2.1 - 1 : Nat) : Int))) ∧ zRB o (f_undo S) h') ∨ (S.2.2.1.2.1 = 0 ∧ v = some (.int (iI (-100000000))) ∧ zRB o S h')) (fun _ _ => False) := by
  refine zMetH.go (by decide +kernel) (Nat.le_of_ble_eq_true rfl) ?_
  intro X F B hnl hR hn
  have r0 := R.2.1
  have z0 := R.1
  obtain ⟨σ, τ, r1⟩ := R.2.2.1
  have hl6 := hO.2.2.2.1
  have hn6 := hO.2.2.2.2.1
  refine z_ldc F dL_undo_0 zw_den ?_
  refine z_istore_n F dL_undo_2 rfl rfl (hnl _ rfl) ?_
  refine z_aload_n F dL_undo_3 rfl rfl ?_
  skip
  refine z_callVH F B cal_yX10_undo (m_undo R) dL_undo_4 rfl rfl (Nat.le_of_ble_eq_true rfl) (by decide) (by decide) (by decide) ml_L_96 im_yX10_undo se_yX10_undo r0 (by decide) rfl rfl (fun v hX qX => ?_) (fun D hX qX => ?_)
  · obtain ⟨q0, rfl, R1⟩ := qX
    refine z_istore_n F dL_undo_7 rfl rfl (hnl _ rfl) ?_
    refine z_goto (tgt := 15) F dL_undo_8 (by decide) ?_
    refine z_iload_n F dL_undo_15 rfl rfl ?_
    exact Z.widen (by decide) (by decide) (z_ireturnH F rfl B dL_undo_16 (Or.inl ⟨q0, rfl, R1⟩))
  · obtain ⟨q1, rfl, R1⟩ := qX
    · refine ⟨[], [], 3, 8, 11, 99, 2, 1, rfl, rfl, by decide, (fun q hq => absurd hq List.not_mem_nil), zw_cl_99, zw_in_xS, Or.inl ⟨2, rfl, rfl, dL_undo_11⟩, rfl, rfl, hnl _ rfl, ?_⟩
      refine z_ldc F dL_undo_12 zw_den ?_
      exact Z.widen (by decide) (by decide) (z_ireturnH F rfl B dL_undo_14 (Or.inr ⟨q1, rfl, R1⟩))
theorem w_restore (R : zRB o S h) (hO : zOk K S.1) (hK : K < 1700000) : zMetH yL_restore cL_restore 3 (some .int) [(3, 8, 11, 99)] 10 1 6 [.ref o] h (fun v h' => (S.2.1.2 = true ∧ v = some (.int (iI S.2.1.1.2.2.2.1.2)) ∧ zRB o (f_rest S) h') ∨ (S.2.1.2 = false ∧ v = some (.int (iI (-100000000))) ∧ zRB o S h')) (fun _ _ => False) := by
  refine zMetH.go (by decide +kernel) (Nat.le_of_ble_eq_true rfl) ?_
  intro X F B hnl hR hn
  have r0 := R.2.1
  have z0 := R.1
  obtain ⟨σ, τ, r1⟩ := R.2.2.1
  have hl6 := hO.2.2.2.1
  have hn6 := hO.2.2.2.2.1
  refine z_ldc F dL_restore_0 zw_den ?_
  refine z_istore_n F dL_restore_2 rfl rfl (hnl _ rfl) ?_
  refine z_aload_n F dL_restore_3 rfl rfl ?_
  skip
  refine z_callVH F B cal_yX10_restoreSnapshot (m_restoreSnapshot R) dL_restore_4 rfl rfl (Nat.le_of_ble_eq_true rfl) (by decide) (by decide) (by decide) ml_L_101 im_yX10_restoreSnapshot se_yX10_restoreSnapshot r0 (by decide) rfl rfl (fun v hX qX => ?_) (fun D hX qX => ?_)
  · obtain ⟨q0, rfl, R1⟩ := qX
    refine z_istore_n F dL_restore_7 rfl rfl (hnl _ rfl) ?_
    refine z_goto (tgt := 15) F dL_restore_8 (by decide) ?_
    refine z_iload_n F dL_restore_15 rfl rfl ?_
    exact Z.widen (by decide) (by decide) (z_ireturnH F rfl B dL_restore_16 (Or.inl ⟨q0, rfl, R1⟩))
  · obtain ⟨q1, rfl, R1⟩ := qX
    · refine ⟨[], [], 3, 8, 11, 99, 2, 1, rfl, rfl, by decide, (fun q hq => absurd hq List.not_mem_nil), zw_cl_99, zw_in_xS, Or.inl ⟨2, rfl, rfl, dL_restore_11⟩, rfl, rfl, hnl _ rfl, ?_⟩
      refine z_ldc F dL_restore_12 zw_den ?_
      exact Z.widen (by decide) (by decide) (z_ireturnH F rfl B dL_restore_14 (Or.inr ⟨q1, rfl, R1⟩))
end
