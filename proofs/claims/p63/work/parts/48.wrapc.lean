/-! the law's methods with handlers: changes -/
def xAr : String := "java/lang/ArithmeticException"
theorem zw_den : Cond.constant RL 10 (iI (-100000000)) ∈ zT := zT_i 475 (by decide +kernel) (by decide +kernel)
theorem zw_cl_17 : Cond.classLink RL 17 xI ∈ zT := zT_i 393 (by decide +kernel) (by decide +kernel)
theorem zw_in_xI : Cond.instantiable xI 6 ∈ zT := zT_i 505 (by decide +kernel) (by decide +kernel)
theorem zw_cl_19 : Cond.classLink RL 19 xA ∈ zT := zT_i 473 (by decide +kernel) (by decide +kernel)
theorem zw_in_xA : Cond.instantiable xA 6 ∈ zT := zT_i 518 (by decide +kernel) (by decide +kernel)
theorem zw_cl_21 : Cond.classLink RL 21 xU ∈ zT := zT_i 474 (by decide +kernel) (by decide +kernel)
theorem zw_in_xU : Cond.instantiable xU 6 ∈ zT := zT_i 534 (by decide +kernel) (by decide +kernel)
theorem zw_cl_38 : Cond.classLink RL 38 xN ∈ zT := zT_i 826 (by decide +kernel) (by decide +kernel)
theorem zw_in_xN : Cond.instantiable xN 6 ∈ zT := zT_i 832 (by decide +kernel) (by decide +kernel)
theorem zw_cl_99 : Cond.classLink RL 99 xS ∈ zT := zT_i 858 (by decide +kernel) (by decide +kernel)
theorem zw_in_xS : Cond.instantiable xS 6 ∈ zT := zT_i 864 (by decide +kernel) (by decide +kernel)
theorem zw_cl_84 : Cond.classLink RL 84 xAr ∈ zT := zT_i 1210 (by decide +kernel) (by decide +kernel)
theorem zw_in_xAr : Cond.instantiable xAr 6 ∈ zT := zT_i 1211 (by decide +kernel) (by decide +kernel)
theorem calH_yL_setDepth : zCalH yL_setDepth cL_setDepth 6 (some .int) [(4, 13, 16, 17), (4, 13, 21, 19), (4, 13, 26, 21)] 4 := ⟨zT_i 392 (by decide +kernel) (by decide +kernel), zT_i 27 (by decide +kernel) (by decide +kernel), ⟨by decide +kernel, by decide +kernel, (by decide +kernel)⟩, by decide⟩
theorem calH_yL_addLight : zCalH yL_addLight cL_addLight 7 (some .int) [(4, 15, 18, 17), (4, 15, 23, 19), (4, 15, 28, 21)] 5 := ⟨zT_i 555 (by decide +kernel) (by decide +kernel), zT_i 27 (by decide +kernel) (by decide +kernel), ⟨by decide +kernel, by decide +kernel, (by decide +kernel)⟩, by decide⟩
theorem calH_yL_addShip : zCalH yL_addShip cL_addShip 6 (some .int) [(4, 13, 16, 17), (4, 13, 21, 19), (4, 13, 26, 21)] 4 := ⟨zT_i 574 (by decide +kernel) (by decide +kernel), zT_i 27 (by decide +kernel) (by decide +kernel), ⟨by decide +kernel, by decide +kernel, (by decide +kernel)⟩, by decide⟩
theorem calH_yL_steer : zCalH yL_steer cL_steer 6 (some .int) [(4, 13, 16, 17), (4, 13, 21, 21)] 4 := ⟨zT_i 604 (by decide +kernel) (by decide +kernel), zT_i 27 (by decide +kernel) (by decide +kernel), ⟨by decide +kernel, by decide +kernel, (by decide +kernel)⟩, by decide⟩
theorem calH_yL_execute : zCalH yL_execute cL_execute 3 (some .int) [(3, 8, 11, 19), (3, 8, 15, 21)] 1 := ⟨zT_i 639 (by decide +kernel) (by decide +kernel), zT_i 27 (by decide +kernel) (by decide +kernel), ⟨by decide +kernel, by decide +kernel, (by decide +kernel)⟩, by decide⟩
theorem calH_yL_denial : zCalH yL_denial cL_denial 3 (some .int) [(4, 9, 12, 38)] 1 := ⟨zT_i 825 (by decide +kernel) (by decide +kernel), zT_i 27 (by decide +kernel) (by decide +kernel), ⟨by decide +kernel, by decide +kernel, (by decide +kernel)⟩, by decide⟩
theorem calH_yL_denialCause : zCalH yL_denialCause cL_denialCause 3 (some .int) [(4, 9, 12, 38)] 1 := ⟨zT_i 849 (by decide +kernel) (by decide +kernel), zT_i 27 (by decide +kernel) (by decide +kernel), ⟨by decide +kernel, by decide +kernel, (by decide +kernel)⟩, by decide⟩
theorem calH_yL_undo : zCalH yL_undo cL_undo 3 (some .int) [(3, 8, 11, 99)] 1 := ⟨zT_i 857 (by decide +kernel) (by decide +kernel), zT_i 27 (by decide +kernel) (by decide +kernel), ⟨by decide +kernel, by decide +kernel, (by decide +kernel)⟩, by decide⟩
theorem calH_yL_restore : zCalH yL_restore cL_restore 3 (some .int) [(3, 8, 11, 99)] 1 := ⟨zT_i 885 (by decide +kernel) (by decide +kernel), zT_i 27 (by decide +kernel) (by decide +kernel), ⟨by decide +kernel, by decide +kernel, (by decide +kernel)⟩, by decide⟩
theorem calH_yL_put : zCalH yL_put cL_put 3 (some .boolean) [(0, 6, 9, 99)] 2 := ⟨zT_i 898 (by decide +kernel) (by decide +kernel), zT_i 27 (by decide +kernel) (by decide +kernel), ⟨by decide +kernel, by decide +kernel, (by decide +kernel)⟩, by decide⟩
theorem calH_yL_setPhase : zCalH yL_setPhase cL_setPhase 5 (some .int) [(3, 10, 13, 17), (3, 10, 18, 19), (3, 10, 23, 21)] 3 := ⟨zT_i 909 (by decide +kernel) (by decide +kernel), zT_i 27 (by decide +kernel) (by decide +kernel), ⟨by decide +kernel, by decide +kernel, (by decide +kernel)⟩, by decide⟩
theorem calH_yL_removeLight : zCalH yL_removeLight cL_removeLight 4 (some .int) [(3, 9, 12, 17)] 2 := ⟨zT_i 916 (by decide +kernel) (by decide +kernel), zT_i 27 (by decide +kernel) (by decide +kernel), ⟨by decide +kernel, by decide +kernel, (by decide +kernel)⟩, by decide⟩
theorem calH_yL_pass : zCalH yL_pass cL_pass 4 (some .int) [(3, 9, 12, 19)] 2 := ⟨zT_i 923 (by decide +kernel) (by decide +kernel), zT_i 27 (by decide +kernel) (by decide +kernel), ⟨by decide +kernel, by decide +kernel, (by decide +kernel)⟩, by decide⟩
theorem calH_yL_salvage : zCalH yL_salvage cL_salvage 4 (some .int) [(3, 9, 12, 17), (3, 9, 16, 21)] 2 := ⟨zT_i 930 (by decide +kernel) (by decide +kernel), zT_i 27 (by decide +kernel) (by decide +kernel), ⟨by decide +kernel, by decide +kernel, (by decide +kernel)⟩, by decide⟩
theorem calH_yL_goalColumn : zCalH yL_goalColumn cL_goalColumn 4 (some .int) [(4, 10, 13, 17), (4, 10, 18, 38)] 2 := ⟨zT_i 1020 (by decide +kernel) (by decide +kernel), zT_i 27 (by decide +kernel) (by decide +kernel), ⟨by decide +kernel, by decide +kernel, (by decide +kernel)⟩, by decide⟩
theorem calH_yL_goalRow : zCalH yL_goalRow cL_goalRow 4 (some .int) [(4, 10, 13, 17), (4, 10, 18, 38)] 2 := ⟨zT_i 1031 (by decide +kernel) (by decide +kernel), zT_i 27 (by decide +kernel) (by decide +kernel), ⟨by decide +kernel, by decide +kernel, (by decide +kernel)⟩, by decide⟩
theorem calH_yL_lightOn : zCalH yL_lightOn cL_lightOn 5 (some .int) [(4, 11, 14, 17), (4, 11, 20, 38)] 3 := ⟨zT_i 1119 (by decide +kernel) (by decide +kernel), zT_i 27 (by decide +kernel) (by decide +kernel), ⟨by decide +kernel, by decide +kernel, (by decide +kernel)⟩, by decide⟩
theorem calH_yL_sectorOf : zCalH yL_sectorOf cL_sectorOf 6 (some .int) [(5, 14, 17, 17), (5, 14, 23, 38)] 4 := ⟨zT_i 1127 (by decide +kernel) (by decide +kernel), zT_i 27 (by decide +kernel) (by decide +kernel), ⟨by decide +kernel, by decide +kernel, (by decide +kernel)⟩, by decide⟩
theorem calH_yL_minutesUntilSwept : zCalH yL_minutesUntilSwept cL_minutesUntilSwept 6 (some .int) [(5, 14, 17, 17), (5, 14, 23, 38)] 4 := ⟨zT_i 1141 (by decide +kernel) (by decide +kernel), zT_i 27 (by decide +kernel) (by decide +kernel), ⟨by decide +kernel, by decide +kernel, (by decide +kernel)⟩, by decide⟩
theorem calH_yL_minutesUntilSweptByDivision : zCalH yL_minutesUntilSweptByDivision cL_minutesUntilSweptByDivision 6 (some .int) [(5, 14, 17, 17), (5, 14, 23, 38)] 4 := ⟨zT_i 1153 (by decide +kernel) (by decide +kernel), zT_i 27 (by decide +kernel) (by decide +kernel), ⟨by decide +kernel, by decide +kernel, (by decide +kernel)⟩, by decide⟩
theorem calH_yL_seenShare : zCalH yL_seenShare cL_seenShare 3 (some .float) [(3, 8, 11, 84)] 1 := ⟨zT_i 1209 (by decide +kernel) (by decide +kernel), zT_i 27 (by decide +kernel) (by decide +kernel), ⟨by decide +kernel, by decide +kernel, (by decide +kernel)⟩, by decide⟩
theorem calH_yL_shipByDarkness : zCalH yL_shipByDarkness cL_shipByDarkness 4 (some .int) [(4, 10, 13, 38)] 2 := ⟨zT_i 1237 (by decide +kernel) (by decide +kernel), zT_i 27 (by decide +kernel) (by decide +kernel), ⟨by decide +kernel, by decide +kernel, (by decide +kernel)⟩, by decide⟩
theorem calH_yL_wayLength : zCalH yL_wayLength cL_wayLength 6 (some .int) [(5, 14, 17, 17), (5, 14, 23, 38)] 4 := ⟨zT_i 1252 (by decide +kernel) (by decide +kernel), zT_i 27 (by decide +kernel) (by decide +kernel), ⟨by decide +kernel, by decide +kernel, (by decide +kernel)⟩, by decide⟩
theorem calH_yL_wayLengthByRounds : zCalH yL_wayLengthByRounds cL_wayLengthByRounds 6 (some .int) [(5, 14, 17, 17), (5, 14, 23, 38)] 4 := ⟨zT_i 1264 (by decide +kernel) (by decide +kernel), zT_i 27 (by decide +kernel) (by decide +kernel), ⟨by decide +kernel, by decide +kernel, (by decide +kernel)⟩, by decide⟩
theorem calH_yL_minutesUntilArrival : zCalH yL_minutesUntilArrival cL_minutesUntilArrival 4 (some .int) [(4, 10, 13, 17), (4, 10, 18, 38)] 2 := ⟨zT_i 1530 (by decide +kernel) (by decide +kernel), zT_i 27 (by decide +kernel) (by decide +kernel), ⟨by decide +kernel, by decide +kernel, (by decide +kernel)⟩, by decide⟩
def f_an (a : Int) : Int := if a < 0 then -100000000 else a
section
variable {o K : Nat} {S : zBt} {h : zH}
theorem f_dl_n (C : zCo) (l : Int) : ¬ (f_dl C l).1 = -2 ∧ ¬ (f_dl C l).1 = -3 := by
  unfold f_dl
  split <;> dsimp only <;> omega
theorem f_cg_n (C : zCo) (l x y : Int) : ¬ (f_cg C l x y).1 = -2 := by
  unfold f_cg
  split
  · split
    · dsimp only; omega
    · cases f_ln (f_opF C (f_tide C.2.2.2.2.1) (C.2.2.1 l.toNat).2.1) (C.2.2.1 l.toNat).1 (8 * y + x).toNat <;> dsimp only <;> omega
  · dsimp only; omega
theorem f_sv_n (C : zCo) (l : Int) : ¬ (f_sv C l).1 = -2 := by
  unfold f_sv
  (repeat' split) <;> dsimp only <;> omega
theorem f_ps_n (C : zCo) (m : Int) : ¬ (f_ps C m).1 = -1 ∧ ¬ (f_ps C m).1 = -3 := by
  unfold f_ps
  have := f_mins_sg m.toNat C
  split <;> dsimp only <;> omega
theorem w_setDepth {x y d : Int} (hx : zI32 x) (hy : zI32 y) (hd : zI32 d) (R : zRB o S h) (hO : zOk K S.1) (hK : K < 1700000) : zMetH yL_setDepth cL_setDepth 6 (some .int) [(4, 13, 16, 17), (4, 13, 21, 19), (4, 13, 26, 21)] 11 1 6 [.ref o, .int (iI x), .int (iI y), .int (iI d)] h (fun v h' => v = some (.int (iI (f_an (f_cd S.1 x y d).1))) ∧ zRB o (f_fin S (f_cd S.1 x y d)) h') (fun _ _ => False) := by
  refine zMetH.go (by decide +kernel) (Nat.le_of_ble_eq_true rfl) ?_
  intro X F B hnl hR hn
  have r0 := R.2.1
  refine z_ldc F dL_setDepth_0 zw_den ?_
  refine z_istore F dL_setDepth_2 rfl (hnl _ rfl) ?_
  refine z_aload_n F dL_setDepth_4 rfl rfl ?_
  refine z_iload_n F dL_setDepth_5 rfl rfl ?_
  refine z_iload_n F dL_setDepth_6 rfl rfl ?_
  refine z_iload_n F dL_setDepth_7 rfl rfl ?_
  skip
  refine z_callVH F B cal_yX10_setDepth (m_setDepth hx hy hd R hO hK) dL_setDepth_8 rfl rfl (Nat.le_of_ble_eq_true rfl) (by decide) (by decide) (by decide) ml_L_11 im_yX10_setDepth se_yX10_setDepth r0 (by decide) rfl rfl (fun v hX qX => ?_) (fun D hX qX => ?_)
  · obtain ⟨hr, rfl, R1⟩ := qX
    refine z_istore F dL_setDepth_11 rfl (hnl _ rfl) ?_
    refine z_goto (tgt := 31) F dL_setDepth_13 (by decide) ?_
    refine z_iload F dL_setDepth_31 rfl ?_
    exact Z.widen (by decide) (by decide) (z_ireturnH F rfl B dL_setDepth_33 ⟨by unfold f_an; rw [if_neg (by omega)], R1⟩)
  · obtain ⟨qc, R1⟩ := qX
    rcases qc with ⟨hc, rfl⟩ | ⟨hc, rfl⟩ | ⟨hc, rfl⟩
    · refine ⟨[], [(4, 13, 21, 19), (4, 13, 26, 21)], 4, 13, 16, 17, 5, 2, rfl, rfl, by decide, (fun q hq => absurd hq List.not_mem_nil), zw_cl_17, zw_in_xI, Or.inr ⟨rfl, dL_setDepth_16⟩, rfl, rfl, hnl _ rfl, ?_⟩
      refine z_ldc F dL_setDepth_18 zw_den ?_
      exact Z.widen (by decide) (by decide) (z_ireturnH F rfl B dL_setDepth_20 ⟨by unfold f_an; rw [if_pos (by omega)], R1⟩)
    · refine ⟨[(4, 13, 16, 17)], [(4, 13, 26, 21)], 4, 13, 21, 19, 5, 2, rfl, rfl, by decide, (by intro q hq; simp only [List.mem_cons, List.not_mem_nil, or_false] at hq; subst hq; exact ⟨by decide, _, zw_cl_17, by decide +kernel⟩), zw_cl_19, zw_in_xA, Or.inr ⟨rfl, dL_setDepth_21⟩, rfl, rfl, hnl _ rfl, ?_⟩
      refine z_ldc F dL_setDepth_23 zw_den ?_
      exact Z.widen (by decide) (by decide) (z_ireturnH F rfl B dL_setDepth_25 ⟨by unfold f_an; rw [if_pos (by omega)], R1⟩)
    · refine ⟨[(4, 13, 16, 17), (4, 13, 21, 19)], [], 4, 13, 26, 21, 5, 2, rfl, rfl, by decide, (by intro q hq; simp only [List.mem_cons, List.not_mem_nil, or_false] at hq; rcases hq with rfl | rfl; exact ⟨by decide, _, zw_cl_17, by decide +kernel⟩; exact ⟨by decide, _, zw_cl_19, by decide +kernel⟩), zw_cl_21, zw_in_xU, Or.inr ⟨rfl, dL_setDepth_26⟩, rfl, rfl, hnl _ rfl, ?_⟩
      refine z_ldc F dL_setDepth_28 zw_den ?_
      exact Z.widen (by decide) (by decide) (z_ireturnH F rfl B dL_setDepth_30 ⟨by unfold f_an; rw [if_pos (by omega)], R1⟩)
theorem w_addLight {x y r p : Int} (hx : zI32 x) (hy : zI32 y) (hr : zI32 r) (hp : zI32 p) (R : zRB o S h) (hO : zOk K S.1) (hK : K < 1700000) : zMetH yL_addLight cL_addLight 7 (some .int) [(4, 15, 18, 17), (4, 15, 23, 19), (4, 15, 28, 21)] 11 1 6 [.ref o, .int (iI x), .int (iI y), .int (iI r), .int (iI p)] h (fun v h' => v = some (.int (iI (f_an (f_pl S.1 x y r p).1))) ∧ zRB o (f_fin S (f_pl S.1 x y r p)) h') (fun _ _ => False) := by
  refine zMetH.go (by decide +kernel) (Nat.le_of_ble_eq_true rfl) ?_
  intro X F B hnl hR hn
  have r0 := R.2.1
  refine z_ldc F dL_addLight_0 zw_den ?_
  refine z_istore F dL_addLight_2 rfl (hnl _ rfl) ?_
  refine z_aload_n F dL_addLight_4 rfl rfl ?_
  refine z_iload_n F dL_addLight_5 rfl rfl ?_
  refine z_iload_n F dL_addLight_6 rfl rfl ?_
  refine z_iload_n F dL_addLight_7 rfl rfl ?_
  refine z_iload F dL_addLight_8 rfl ?_
  skip
  refine z_callVH F B cal_yX10_addLight (m_addLight hx hy hr hp R hO hK) dL_addLight_10 rfl rfl (Nat.le_of_ble_eq_true rfl) (by decide) (by decide) (by decide) ml_L_23 im_yX10_addLight se_yX10_addLight r0 (by decide) rfl rfl (fun v hX qX => ?_) (fun D hX qX => ?_)
  · obtain ⟨hr, rfl, R1⟩ := qX
    refine z_istore F dL_addLight_13 rfl (hnl _ rfl) ?_
    refine z_goto (tgt := 33) F dL_addLight_15 (by decide) ?_
    refine z_iload F dL_addLight_33 rfl ?_
    exact Z.widen (by decide) (by decide) (z_ireturnH F rfl B dL_addLight_35 ⟨by unfold f_an; rw [if_neg (by omega)], R1⟩)
  · obtain ⟨qc, R1⟩ := qX
    rcases qc with ⟨hc, rfl⟩ | ⟨hc, rfl⟩ | ⟨hc, rfl⟩
    · refine ⟨[], [(4, 15, 23, 19), (4, 15, 28, 21)], 4, 15, 18, 17, 6, 2, rfl, rfl, by decide, (fun q hq => absurd hq List.not_mem_nil), zw_cl_17, zw_in_xI, Or.inr ⟨rfl, dL_addLight_18⟩, rfl, rfl, hnl _ rfl, ?_⟩
      refine z_ldc F dL_addLight_20 zw_den ?_
      exact Z.widen (by decide) (by decide) (z_ireturnH F rfl B dL_addLight_22 ⟨by unfold f_an; rw [if_pos (by omega)], R1⟩)
    · refine ⟨[(4, 15, 18, 17)], [(4, 15, 28, 21)], 4, 15, 23, 19, 6, 2, rfl, rfl, by decide, (by intro q hq; simp only [List.mem_cons, List.not_mem_nil, or_false] at hq; subst hq; exact ⟨by decide, _, zw_cl_17, by decide +kernel⟩), zw_cl_19, zw_in_xA, Or.inr ⟨rfl, dL_addLight_23⟩, rfl, rfl, hnl _ rfl, ?_⟩
      refine z_ldc F dL_addLight_25 zw_den ?_
      exact Z.widen (by decide) (by decide) (z_ireturnH F rfl B dL_addLight_27 ⟨by unfold f_an; rw [if_pos (by omega)], R1⟩)
    · refine ⟨[(4, 15, 18, 17), (4, 15, 23, 19)], [], 4, 15, 28, 21, 6, 2, rfl, rfl, by decide, (by intro q hq; simp only [List.mem_cons, List.not_mem_nil, or_false] at hq; rcases hq with rfl | rfl; exact ⟨by decide, _, zw_cl_17, by decide +kernel⟩; exact ⟨by decide, _, zw_cl_19, by decide +kernel⟩), zw_cl_21, zw_in_xU, Or.inr ⟨rfl, dL_addLight_28⟩, rfl, rfl, hnl _ rfl, ?_⟩
      refine z_ldc F dL_addLight_30 zw_den ?_
      exact Z.widen (by decide) (by decide) (z_ireturnH F rfl B dL_addLight_32 ⟨by unfold f_an; rw [if_pos (by omega)], R1⟩)
theorem w_setPhase {l p : Int} (hl : zI32 l) (hp : zI32 p) (R : zRB o S h) (hO : zOk K S.1) (hK : K < 1700000) : zMetH yL_setPhase cL_setPhase 5 (some .int) [(3, 10, 13, 17), (3, 10, 18, 19), (3, 10, 23, 21)] 11 1 6 [.ref o, .int (iI l), .int (iI p)] h (fun v h' => v = some (.int (iI (f_an (f_cp S.1 l p).1))) ∧ zRB o (f_fin S (f_cp S.1 l p)) h') (fun _ _ => False) := by
  refine zMetH.go (by decide +kernel) (Nat.le_of_ble_eq_true rfl) ?_
  intro X F B hnl hR hn
  have r0 := R.2.1
  refine z_ldc F dL_setPhase_0 zw_den ?_
  refine z_istore_n F dL_setPhase_2 rfl rfl (hnl _ rfl) ?_
  refine z_aload_n F dL_setPhase_3 rfl rfl ?_
  refine z_iload_n F dL_setPhase_4 rfl rfl ?_
  refine z_iload_n F dL_setPhase_5 rfl rfl ?_
  skip
  refine z_callVH F B cal_yX10_setPhase (m_setPhase hl hp R hO hK) dL_setPhase_6 rfl rfl (Nat.le_of_ble_eq_true rfl) (by decide) (by decide) (by decide) ml_L_27 im_yX10_setPhase se_yX10_setPhase r0 (by decide) rfl rfl (fun v hX qX => ?_) (fun D hX qX => ?_)
  · obtain ⟨hr, rfl, R1⟩ := qX
    refine z_istore_n F dL_setPhase_9 rfl rfl (hnl _ rfl) ?_
    refine z_goto (tgt := 28) F dL_setPhase_10 (by decide) ?_
    refine z_iload_n F dL_setPhase_28 rfl rfl ?_
    exact Z.widen (by decide) (by decide) (z_ireturnH F rfl B dL_setPhase_29 ⟨by unfold f_an; rw [if_neg (by omega)], R1⟩)
  · obtain ⟨qc, R1⟩ := qX
    rcases qc with ⟨hc, rfl⟩ | ⟨hc, rfl⟩ | ⟨hc, rfl⟩
    · refine ⟨[], [(3, 10, 18, 19), (3, 10, 23, 21)], 3, 10, 13, 17, 4, 2, rfl, rfl, by decide, (fun q hq => absurd hq List.not_mem_nil), zw_cl_17, zw_in_xI, Or.inr ⟨rfl, dL_setPhase_13⟩, rfl, rfl, hnl _ rfl, ?_⟩
      refine z_ldc F dL_setPhase_15 zw_den ?_
      exact Z.widen (by decide) (by decide) (z_ireturnH F rfl B dL_setPhase_17 ⟨by unfold f_an; rw [if_pos (by omega)], R1⟩)
    · refine ⟨[(3, 10, 13, 17)], [(3, 10, 23, 21)], 3, 10, 18, 19, 4, 2, rfl, rfl, by decide, (by intro q hq; simp only [List.mem_cons, List.not_mem_nil, or_false] at hq; subst hq; exact ⟨by decide, _, zw_cl_17, by decide +kernel⟩), zw_cl_19, zw_in_xA, Or.inr ⟨rfl, dL_setPhase_18⟩, rfl, rfl, hnl _ rfl, ?_⟩
      refine z_ldc F dL_setPhase_20 zw_den ?_
      exact Z.widen (by decide) (by decide) (z_ireturnH F rfl B dL_setPhase_22 ⟨by unfold f_an; rw [if_pos (by omega)], R1⟩)
    · refine ⟨[(3, 10, 13, 17), (3, 10, 18, 19)], [], 3, 10, 23, 21, 4, 2, rfl, rfl, by decide, (by intro q hq; simp only [List.mem_cons, List.not_mem_nil, or_false] at hq; rcases hq with rfl | rfl; exact ⟨by decide, _, zw_cl_17, by decide +kernel⟩; exact ⟨by decide, _, zw_cl_19, by decide +kernel⟩), zw_cl_21, zw_in_xU, Or.inr ⟨rfl, dL_setPhase_23⟩, rfl, rfl, hnl _ rfl, ?_⟩
      refine z_ldc F dL_setPhase_25 zw_den ?_
      exact Z.widen (by decide) (by decide) (z_ireturnH F rfl B dL_setPhase_27 ⟨by unfold f_an; rw [if_pos (by omega)], R1⟩)
theorem w_removeLight {l : Int} (hl : zI32 l) (R : zRB o S h) (hO : zOk K S.1) (hK : K < 1700000) : zMetH yL_removeLight cL_removeLight 4 (some .int) [(3, 9, 12, 17)] 11 1 6 [.ref o, .int (iI l)] h (fun v h' => v = some (.int (iI (f_an (f_dl S.1 l).1))) ∧ zRB o (f_fin S (f_dl S.1 l)) h') (fun _ _ => False) := by
  refine zMetH.go (by decide +kernel) (Nat.le_of_ble_eq_true rfl) ?_
  intro X F B hnl hR hn
  have r0 := R.2.1
  have hne := f_dl_n S.1 l
  refine z_ldc F dL_removeLight_0 zw_den ?_
  refine z_istore_n F dL_removeLight_2 rfl rfl (hnl _ rfl) ?_
  refine z_aload_n F dL_removeLight_3 rfl rfl ?_
  refine z_iload_n F dL_removeLight_4 rfl rfl ?_
  skip
  refine z_callVH F B cal_yX10_removeLight (m_removeLight hl R hO hK) dL_removeLight_5 rfl rfl (Nat.le_of_ble_eq_true rfl) (by decide) (by decide) (by decide) ml_L_31 im_yX10_removeLight se_yX10_removeLight r0 (by decide) rfl rfl (fun v hX qX => ?_) (fun D hX qX => ?_)
  · obtain ⟨hr, rfl, R1⟩ := qX
    refine z_istore_n F dL_removeLight_8 rfl rfl (hnl _ rfl) ?_
    refine z_goto (tgt := 16) F dL_removeLight_9 (by decide) ?_
    refine z_iload_n F dL_removeLight_16 rfl rfl ?_
    exact Z.widen (by decide) (by decide) (z_ireturnH F rfl B dL_removeLight_17 ⟨by unfold f_an; rw [if_neg (by omega)], R1⟩)
  · obtain ⟨qc, R1⟩ := qX
    rcases qc with ⟨hc, rfl⟩ | ⟨hc, rfl⟩ | ⟨hc, rfl⟩
    · refine ⟨[], [], 3, 9, 12, 17, 3, 1, rfl, rfl, by decide, (fun q hq => absurd hq List.not_mem_nil), zw_cl_17, zw_in_xI, Or.inl ⟨3, rfl, rfl, dL_removeLight_12⟩, rfl, rfl, hnl _ rfl, ?_⟩
      refine z_ldc F dL_removeLight_13 zw_den ?_
      exact Z.widen (by decide) (by decide) (z_ireturnH F rfl B dL_removeLight_15 ⟨by unfold f_an; rw [if_pos (by omega)], R1⟩)
    · exact False.elim (by omega)
    · exact False.elim (by omega)
theorem w_addShip {x y d : Int} (hx : zI32 x) (hy : zI32 y) (hd : zI32 d) (R : zRB o S h) (hO : zOk K S.1) (hK : K < 1700000) : zMetH yL_addShip cL_addShip 6 (some .int) [(4, 13, 16, 17), (4, 13, 21, 19), (4, 13, 26, 21)] 11 1 6 [.ref o, .int (iI x), .int (iI y), .int (iI d)] h (fun v h' => v = some (.int (iI (f_an (f_ls S.1 x y d).1))) ∧ zRB o (f_fin S (f_ls S.1 x y d)) h') (fun _ _ => False) := by
  refine zMetH.go (by decide +kernel) (Nat.le_of_ble_eq_true rfl) ?_
  intro X F B hnl hR hn
  have r0 := R.2.1
  refine z_ldc F dL_addShip_0 zw_den ?_
  refine z_istore F dL_addShip_2 rfl (hnl _ rfl) ?_
  refine z_aload_n F dL_addShip_4 rfl rfl ?_
  refine z_iload_n F dL_addShip_5 rfl rfl ?_
  refine z_iload_n F dL_addShip_6 rfl rfl ?_
  refine z_iload_n F dL_addShip_7 rfl rfl ?_
  skip
  refine z_callVH F B cal_yX10_addShip (m_addShip hx hy hd R hO hK) dL_addShip_8 rfl rfl (Nat.le_of_ble_eq_true rfl) (by decide) (by decide) (by decide) ml_L_49 im_yX10_addShip se_yX10_addShip r0 (by decide) rfl rfl (fun v hX qX => ?_) (fun D hX qX => ?_)
  · obtain ⟨hr, rfl, R1⟩ := qX
    refine z_istore F dL_addShip_11 rfl (hnl _ rfl) ?_
    refine z_goto (tgt := 31) F dL_addShip_13 (by decide) ?_
    refine z_iload F dL_addShip_31 rfl ?_
    exact Z.widen (by decide) (by decide) (z_ireturnH F rfl B dL_addShip_33 ⟨by unfold f_an; rw [if_neg (by omega)], R1⟩)
  · obtain ⟨qc, R1⟩ := qX
    rcases qc with ⟨hc, rfl⟩ | ⟨hc, rfl⟩ | ⟨hc, rfl⟩
    · refine ⟨[], [(4, 13, 21, 19), (4, 13, 26, 21)], 4, 13, 16, 17, 5, 2, rfl, rfl, by decide, (fun q hq => absurd hq List.not_mem_nil), zw_cl_17, zw_in_xI, Or.inr ⟨rfl, dL_addShip_16⟩, rfl, rfl, hnl _ rfl, ?_⟩
      refine z_ldc F dL_addShip_18 zw_den ?_
      exact Z.widen (by decide) (by decide) (z_ireturnH F rfl B dL_addShip_20 ⟨by unfold f_an; rw [if_pos (by omega)], R1⟩)
    · refine ⟨[(4, 13, 16, 17)], [(4, 13, 26, 21)], 4, 13, 21, 19, 5, 2, rfl, rfl, by decide, (by intro q hq; simp only [List.mem_cons, List.not_mem_nil, or_false] at hq; subst hq; exact ⟨by decide, _, zw_cl_17, by decide +kernel⟩), zw_cl_19, zw_in_xA, Or.inr ⟨rfl, dL_addShip_21⟩, rfl, rfl, hnl _ rfl, ?_⟩
      refine z_ldc F dL_addShip_23 zw_den ?_
      exact Z.widen (by decide) (by decide) (z_ireturnH F rfl B dL_addShip_25 ⟨by unfold f_an; rw [if_pos (by omega)], R1⟩)
    · refine ⟨[(4, 13, 16, 17), (4, 13, 21, 19)], [], 4, 13, 26, 21, 5, 2, rfl, rfl, by decide, (by intro q hq; simp only [List.mem_cons, List.not_mem_nil, or_false] at hq; rcases hq with rfl | rfl; exact ⟨by decide, _, zw_cl_17, by decide +kernel⟩; exact ⟨by decide, _, zw_cl_19, by decide +kernel⟩), zw_cl_21, zw_in_xU, Or.inr ⟨rfl, dL_addShip_26⟩, rfl, rfl, hnl _ rfl, ?_⟩
      refine z_ldc F dL_addShip_28 zw_den ?_
      exact Z.widen (by decide) (by decide) (z_ireturnH F rfl B dL_addShip_30 ⟨by unfold f_an; rw [if_pos (by omega)], R1⟩)
theorem w_steer {l x y : Int} (hl : zI32 l) (hx : zI32 x) (hy : zI32 y) (R : zRB o S h) (hO : zOk K S.1) (hK : K < 1700000) : zMetH yL_steer cL_steer 6 (some .int) [(4, 13, 16, 17), (4, 13, 21, 21)] 11 1 6 [.ref o, .int (iI l), .int (iI x), .int (iI y)] h (fun v h' => v = some (.int (iI (f_an (f_cg S.1 l x y).1))) ∧ zRB o (f_fin S (f_cg S.1 l x y)) h') (fun _ _ => False) := by
  refine zMetH.go (by decide +kernel) (Nat.le_of_ble_eq_true rfl) ?_
  intro X F B hnl hR hn
  have r0 := R.2.1
  have hne := f_cg_n S.1 l x y
  refine z_ldc F dL_steer_0 zw_den ?_
  refine z_istore F dL_steer_2 rfl (hnl _ rfl) ?_
  refine z_aload_n F dL_steer_4 rfl rfl ?_
  refine z_iload_n F dL_steer_5 rfl rfl ?_
  refine z_iload_n F dL_steer_6 rfl rfl ?_
  refine z_iload_n F dL_steer_7 rfl rfl ?_
  skip
  refine z_callVH F B cal_yX10_steer (m_steer hl hx hy R hO hK) dL_steer_8 rfl rfl (Nat.le_of_ble_eq_true rfl) (by decide) (by decide) (by decide) ml_L_52 im_yX10_steer se_yX10_steer r0 (by decide) rfl rfl (fun v hX qX => ?_) (fun D hX qX => ?_)
  · obtain ⟨hr, rfl, R1⟩ := qX
    refine z_istore F dL_steer_11 rfl (hnl _ rfl) ?_
    refine z_goto (tgt := 26) F dL_steer_13 (by decide) ?_
    refine z_iload F dL_steer_26 rfl ?_
    exact Z.widen (by decide) (by decide) (z_ireturnH F rfl B dL_steer_28 ⟨by unfold f_an; rw [if_neg (by omega)], R1⟩)
  · obtain ⟨qc, R1⟩ := qX
    rcases qc with ⟨hc, rfl⟩ | ⟨hc, rfl⟩ | ⟨hc, rfl⟩
    · refine ⟨[], [(4, 13, 21, 21)], 4, 13, 16, 17, 5, 2, rfl, rfl, by decide, (fun q hq => absurd hq List.not_mem_nil), zw_cl_17, zw_in_xI, Or.inr ⟨rfl, dL_steer_16⟩, rfl, rfl, hnl _ rfl, ?_⟩
      refine z_ldc F dL_steer_18 zw_den ?_
      exact Z.widen (by decide) (by decide) (z_ireturnH F rfl B dL_steer_20 ⟨by unfold f_an; rw [if_pos (by omega)], R1⟩)
    · exact False.elim (by omega)
    · refine ⟨[(4, 13, 16, 17)], [], 4, 13, 21, 21, 5, 2, rfl, rfl, by decide, (by intro q hq; simp only [List.mem_cons, List.not_mem_nil, or_false] at hq; subst hq; exact ⟨by decide, _, zw_cl_17, by decide +kernel⟩), zw_cl_21, zw_in_xU, Or.inr ⟨rfl, dL_steer_21⟩, rfl, rfl, hnl _ rfl, ?_⟩
      refine z_ldc F dL_steer_23 zw_den ?_
      exact Z.widen (by decide) (by decide) (z_ireturnH F rfl B dL_steer_25 ⟨by unfold f_an; rw [if_pos (by omega)], R1⟩)
theorem w_salvage {l : Int} (hl : zI32 l) (R : zRB o S h) (hO : zOk K S.1) (hK : K < 1700000) : zMetH yL_salvage cL_salvage 4 (some .int) [(3, 9, 12, 17), (3, 9, 16, 21)] 11 1 6 [.ref o, .int (iI l)] h (fun v h' => v = some (.int (iI (f_an (f_sv S.1 l).1))) ∧ zRB o (f_fin S (f_sv S.1 l)) h') (fun _ _ => False) := by
  refine zMetH.go (by decide +kernel) (Nat.le_of_ble_eq_true rfl) ?_
  intro X F B hnl hR hn
  have r0 := R.2.1
  have hne := f_sv_n S.1 l
  refine z_ldc F dL_salvage_0 zw_den ?_
  refine z_istore_n F dL_salvage_2 rfl rfl (hnl _ rfl) ?_
  refine z_aload_n F dL_salvage_3 rfl rfl ?_
  refine z_iload_n F dL_salvage_4 rfl rfl ?_
  skip
  refine z_callVH F B cal_yX10_salvage (m_salvage hl R hO hK) dL_salvage_5 rfl rfl (Nat.le_of_ble_eq_true rfl) (by decide) (by decide) (by decide) ml_L_55 im_yX10_salvage se_yX10_salvage r0 (by decide) rfl rfl (fun v hX qX => ?_) (fun D hX qX => ?_)
  · obtain ⟨hr, rfl, R1⟩ := qX
    refine z_istore_n F dL_salvage_8 rfl rfl (hnl _ rfl) ?_
    refine z_goto (tgt := 20) F dL_salvage_9 (by decide) ?_
    refine z_iload_n F dL_salvage_20 rfl rfl ?_
    exact Z.widen (by decide) (by decide) (z_ireturnH F rfl B dL_salvage_21 ⟨by unfold f_an; rw [if_neg (by omega)], R1⟩)
  · obtain ⟨qc, R1⟩ := qX
    rcases qc with ⟨hc, rfl⟩ | ⟨hc, rfl⟩ | ⟨hc, rfl⟩
    · refine ⟨[], [(3, 9, 16, 21)], 3, 9, 12, 17, 3, 1, rfl, rfl, by decide, (fun q hq => absurd hq List.not_mem_nil), zw_cl_17, zw_in_xI, Or.inl ⟨3, rfl, rfl, dL_salvage_12⟩, rfl, rfl, hnl _ rfl, ?_⟩
      refine z_ldc F dL_salvage_13 zw_den ?_
      exact Z.widen (by decide) (by decide) (z_ireturnH F rfl B dL_salvage_15 ⟨by unfold f_an; rw [if_pos (by omega)], R1⟩)
    · exact False.elim (by omega)
    · refine ⟨[(3, 9, 12, 17)], [], 3, 9, 16, 21, 3, 1, rfl, rfl, by decide, (by intro q hq; simp only [List.mem_cons, List.not_mem_nil, or_false] at hq; subst hq; exact ⟨by decide, _, zw_cl_17, by decide +kernel⟩), zw_cl_21, zw_in_xU, Or.inl ⟨3, rfl, rfl, dL_salvage_16⟩, rfl, rfl, hnl _ rfl, ?_⟩
      refine z_ldc F dL_salvage_17 zw_den ?_
      exact Z.widen (by decide) (by decide) (z_ireturnH F rfl B dL_salvage_19 ⟨by unfold f_an; rw [if_pos (by omega)], R1⟩)
theorem w_pass {m : Int} (hm : zI32 m) (R : zRB o S h) (hO : zOk K S.1) (hK : K < 1700000) : zMetH yL_pass cL_pass 4 (some .int) [(3, 9, 12, 19)] 11 1 6 [.ref o, .int (iI m)] h (fun v h' => v = some (.int (iI (f_an (f_ps S.1 m).1))) ∧ zRB o (f_fin S (f_ps S.1 m)) h') (fun _ _ => False) := by
  refine zMetH.go (by decide +kernel) (Nat.le_of_ble_eq_true rfl) ?_
  intro X F B hnl hR hn
  have r0 := R.2.1
  have hne := f_ps_n S.1 m
  refine z_ldc F dL_pass_0 zw_den ?_
  refine z_istore_n F dL_pass_2 rfl rfl (hnl _ rfl) ?_
  refine z_aload_n F dL_pass_3 rfl rfl ?_
  refine z_iload_n F dL_pass_4 rfl rfl ?_
  skip
  refine z_callVH F B cal_yX10_pass (m_pass hm R hO hK) dL_pass_5 rfl rfl (Nat.le_of_ble_eq_true rfl) (by decide) (by decide) (by decide) ml_L_58 im_yX10_pass se_yX10_pass r0 (by decide) rfl rfl (fun v hX qX => ?_) (fun D hX qX => ?_)
  · obtain ⟨hr, rfl, R1⟩ := qX
    refine z_istore_n F dL_pass_8 rfl rfl (hnl _ rfl) ?_
    refine z_goto (tgt := 16) F dL_pass_9 (by decide) ?_
    refine z_iload_n F dL_pass_16 rfl rfl ?_
    exact Z.widen (by decide) (by decide) (z_ireturnH F rfl B dL_pass_17 ⟨by unfold f_an; rw [if_neg (by omega)], R1⟩)
  · obtain ⟨qc, R1⟩ := qX
    rcases qc with ⟨hc, rfl⟩ | ⟨hc, rfl⟩ | ⟨hc, rfl⟩
    · exact False.elim (by omega)
    · refine ⟨[], [], 3, 9, 12, 19, 3, 1, rfl, rfl, by decide, (fun q hq => absurd hq List.not_mem_nil), zw_cl_19, zw_in_xA, Or.inl ⟨3, rfl, rfl, dL_pass_12⟩, rfl, rfl, hnl _ rfl, ?_⟩
      refine z_ldc F dL_pass_13 zw_den ?_
      exact Z.widen (by decide) (by decide) (z_ireturnH F rfl B dL_pass_15 ⟨by unfold f_an; rw [if_pos (by omega)], R1⟩)
    · exact False.elim (by omega)
end
