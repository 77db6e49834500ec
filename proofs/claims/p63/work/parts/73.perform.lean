/-! one command is performed -/
theorem ml_ord : Cond.methodLink RX10 463 ⟨"BeamChart$CommandKind", "ordinal", "()I"⟩ ∈ zT := zT_i 723 (by decide +kernel) (by decide +kernel)
theorem sm_ord : Cond.sameMethod "BeamChart$CommandKind" "java/lang/Enum" "ordinal" "()I" ∈ zT := zT_i 724 (by decide +kernel) (by decide +kernel)
theorem se_ord : Cond.selects "BeamChart$CommandKind" ⟨"BeamChart$CommandKind", "ordinal", "()I"⟩ yJx29ce0_ordinal_8abf5 ∈ zT := zT_i 726 (by decide +kernel) (by decide +kernel)
def f_perf (C : zCo) (k : Nat) (V : Nat → Nat) : zCh := match k with
  | 0 => f_cd C (V 0 : Nat) (V 1 : Nat) (V 2 : Nat)
  | 1 => f_pl C (V 0 : Nat) (V 1 : Nat) (V 2 : Nat) (V 3 : Nat)
  | 2 => f_cp C (V 0 : Nat) (V 1 : Nat)
  | 3 => f_dl C (V 0 : Nat)
  | 4 => f_ls C (V 0 : Nat) (V 1 : Nat) (V 2 : Nat)
  | 5 => f_cg C (V 0 : Nat) (V 1 : Nat) (V 2 : Nat)
  | 6 => f_sv C (V 0 : Nat)
  | _ => f_ps C (V 0 : Nat)
/-- how many values a command has -/
def f_ar (k : Nat) : Nat := [3, 4, 2, 1, 3, 3, 1, 1].getD k 1
theorem f_perf_congr {C : zCo} {k : Nat} {V W : Nat → Nat} (h : ∀ j, j < f_ar k → V j = W j) : f_perf C k V = f_perf C k W := by
  by_cases h8 : k < 8
  · rcases (show k = 0 ∨ k = 1 ∨ k = 2 ∨ k = 3 ∨ k = 4 ∨ k = 5 ∨ k = 6 ∨ k = 7 by omega) with rfl | rfl | rfl | rfl | rfl | rfl | rfl | rfl
    · unfold f_perf; rw [h 0 (by decide), h 1 (by decide), h 2 (by decide)]; all_goals rfl
    · unfold f_perf; rw [h 0 (by decide), h 1 (by decide), h 2 (by decide), h 3 (by decide)]; all_goals rfl
    · unfold f_perf; rw [h 0 (by decide), h 1 (by decide)]; all_goals rfl
    · unfold f_perf; rw [h 0 (by decide)]; all_goals rfl
    · unfold f_perf; rw [h 0 (by decide), h 1 (by decide), h 2 (by decide)]; all_goals rfl
    · unfold f_perf; rw [h 0 (by decide), h 1 (by decide), h 2 (by decide)]; all_goals rfl
    · unfold f_perf; rw [h 0 (by decide)]; all_goals rfl
    · unfold f_perf; rw [h 0 (by decide)]; all_goals rfl
  · obtain ⟨q, rfl⟩ : ∃ q, k = q + 8 := ⟨k - 8, by omega⟩
    have h0 := h 0 (by unfold f_ar; rw [List.getD_eq_getElem?_getD, List.getElem?_eq_none (by show 8 ≤ _; omega)]; decide)
    show f_ps C (V 0 : Nat) = f_ps C (W 0 : Nat)
    rw [h0]
section
variable {o K : Nat} {S : zBt} {h : zH}
theorem m_perform {c k : Nat} {V : Nat → Nat} (hc : c < 10) (hk : (zTk S.2.2.2.1.1 c).1 = k) (hV : (zTk S.2.2.2.1.1 c).2 = V) (b : ∀ j, j < f_ar k → zI32 (V j : Nat)) (Bs : zRs h) (R : zRB o S h) (hO : zOk K S.1) (hK : K < 1600000) : zMet yX10_perform cX10_perform 3 (some .int) 6 0 0 [.ref o, .ref (o + 190 + 2 * c)] h (fun v h' => v = some (.int (iI (f_perf S.1 k V).1)) ∧ zRB o (f_put S (f_perf S.1 k V)) h') (fun _ _ => False) := by
  refine zMet.go (by decide +kernel) (Nat.le_of_ble_eq_true rfl) ?_
  intro X F B hnl hR hn
  have hK : K < 1800000 := by omega
  have z := R.1
  have r0 := R.2.1
  have rt := R.2.2.2.2.2.2.2.2.1
  obtain ⟨e1, e2, e3⟩ := rt.2.2.2 c hc
  rw [hk] at e1 e3
  rw [hV] at e2
  rw [show o + 187 + 3 + 2 * c = o + 190 + 2 * c by omega] at e1
  rcases (show k = 0 ∨ k = 1 ∨ k = 2 ∨ k = 3 ∨ k = 4 ∨ k = 5 ∨ k = 6 ∨ k = 7 by omega) with rfl | rfl | rfl | rfl | rfl | rfl | rfl | rfl
  · refine z_aload_n F dX10_perform_0 rfl rfl ?_
    refine z_getfield F fl_X10_449 dX10_perform_1 e1 (by decide) rfl ?_
    refine z_astore_n F dX10_perform_4 rfl rfl (hnl _ rfl) ?_
    refine z_getstatic F gs_X10_454 dX10_perform_5 ?_
    refine z_aload_n F dX10_perform_8 rfl rfl ?_
    refine z_getfield F fl_X10_459 dX10_perform_9 e1 (by decide) rfl ?_
    refine z_callU F B cal_yJx29ce0_ordinal_8abf5 (m_ordinal (i := 0) (by decide)) dX10_perform_12 rfl rfl (Nat.le_of_ble_eq_true rfl) (by decide) (by decide) (by decide) ml_ord sm_ord se_ord im_yJx29ce0_ordinal_8abf5 rfl ⟨by decide +kernel, by decide +kernel, by decide +kernel⟩ (ro_kind 0 (by decide)) (fun v hX qX => ?_) (fun C h1 q => q.elim)
    obtain ⟨rfl, qX⟩ := qX
    rw [qX]
    clear qX hX
    refine zi_iaload (i := 0) F dX10_perform_15 Bs.2.1 rfl (by omega) (zar_get (by omega)) ?_
    refine z_tableIn (off := 44) (tgt := 60) F dX10_perform_16 (by decide +kernel) (by decide +kernel) (by decide +kernel) (by decide) ?_
    refine z_aload_n F dX10_perform_60 rfl rfl ?_
    refine z_aload_n F dX10_perform_61 rfl rfl ?_
    refine zi_iconst F dX10_perform_62 ?_
    refine zi_iaload (i := 0) F dX10_perform_63 e2 rfl (by omega) (zar_get (by omega)) ?_
    refine z_aload_n F dX10_perform_64 rfl rfl ?_
    refine zi_iconst F dX10_perform_65 ?_
    refine zi_iaload (i := 1) F dX10_perform_66 e2 rfl (by omega) (zar_get (by omega)) ?_
    refine z_aload_n F dX10_perform_67 rfl rfl ?_
    refine zi_iconst F dX10_perform_68 ?_
    refine zi_iaload (i := 2) F dX10_perform_69 e2 rfl (by omega) (zar_get (by omega)) ?_
    refine z_callV F B cal_yX10_changeDepth (m_changeDepth (b 0 (by decide)) (b 1 (by decide)) (b 2 (by decide)) R hO hK) dX10_perform_70 rfl rfl (Nat.le_of_ble_eq_true rfl) (by decide) (by decide) (by decide) ml_X10_66 im_yX10_changeDepth se_yX10_changeDepth r0 (by decide) rfl rfl (fun v hX qX => ?_) (fun C h1 q => q.elim)
    obtain ⟨rfl, R2⟩ := qX
    exact Z.widen (by decide) (by decide) (z_ireturn F rfl B dX10_perform_73 ⟨rfl, R2⟩)
  · refine z_aload_n F dX10_perform_0 rfl rfl ?_
    refine z_getfield F fl_X10_449 dX10_perform_1 e1 (by decide) rfl ?_
    refine z_astore_n F dX10_perform_4 rfl rfl (hnl _ rfl) ?_
    refine z_getstatic F gs_X10_454 dX10_perform_5 ?_
    refine z_aload_n F dX10_perform_8 rfl rfl ?_
    refine z_getfield F fl_X10_459 dX10_perform_9 e1 (by decide) rfl ?_
    refine z_callU F B cal_yJx29ce0_ordinal_8abf5 (m_ordinal (i := 1) (by decide)) dX10_perform_12 rfl rfl (Nat.le_of_ble_eq_true rfl) (by decide) (by decide) (by decide) ml_ord sm_ord se_ord im_yJx29ce0_ordinal_8abf5 rfl ⟨by decide +kernel, by decide +kernel, by decide +kernel⟩ (ro_kind 1 (by decide)) (fun v hX qX => ?_) (fun C h1 q => q.elim)
    obtain ⟨rfl, qX⟩ := qX
    rw [qX]
    clear qX hX
    refine zi_iaload (i := 1) F dX10_perform_15 Bs.2.1 rfl (by omega) (zar_get (by omega)) ?_
    refine z_tableIn (off := 58) (tgt := 74) F dX10_perform_16 (by decide +kernel) (by decide +kernel) (by decide +kernel) (by decide) ?_
    refine z_aload_n F dX10_perform_74 rfl rfl ?_
    refine z_aload_n F dX10_perform_75 rfl rfl ?_
    refine zi_iconst F dX10_perform_76 ?_
    refine zi_iaload (i := 0) F dX10_perform_77 e2 rfl (by omega) (zar_get (by omega)) ?_
    refine z_aload_n F dX10_perform_78 rfl rfl ?_
    refine zi_iconst F dX10_perform_79 ?_
    refine zi_iaload (i := 1) F dX10_perform_80 e2 rfl (by omega) (zar_get (by omega)) ?_
    refine z_aload_n F dX10_perform_81 rfl rfl ?_
    refine zi_iconst F dX10_perform_82 ?_
    refine zi_iaload (i := 2) F dX10_perform_83 e2 rfl (by omega) (zar_get (by omega)) ?_
    refine z_aload_n F dX10_perform_84 rfl rfl ?_
    refine zi_iconst F dX10_perform_85 ?_
    refine zi_iaload (i := 3) F dX10_perform_86 e2 rfl (by omega) (zar_get (by omega)) ?_
    refine z_callV F B cal_yX10_placeLight (m_placeLight (b 0 (by decide)) (b 1 (by decide)) (b 2 (by decide)) (b 3 (by decide)) R hO hK) dX10_perform_87 rfl rfl (Nat.le_of_ble_eq_true rfl) (by decide) (by decide) (by decide) ml_X10_124 im_yX10_placeLight se_yX10_placeLight r0 (by decide) rfl rfl (fun v hX qX => ?_) (fun C h1 q => q.elim)
    obtain ⟨rfl, R2⟩ := qX
    exact Z.widen (by decide) (by decide) (z_ireturn F rfl B dX10_perform_90 ⟨rfl, R2⟩)
  · refine z_aload_n F dX10_perform_0 rfl rfl ?_
    refine z_getfield F fl_X10_449 dX10_perform_1 e1 (by decide) rfl ?_
    refine z_astore_n F dX10_perform_4 rfl rfl (hnl _ rfl) ?_
    refine z_getstatic F gs_X10_454 dX10_perform_5 ?_
    refine z_aload_n F dX10_perform_8 rfl rfl ?_
    refine z_getfield F fl_X10_459 dX10_perform_9 e1 (by decide) rfl ?_
    refine z_callU F B cal_yJx29ce0_ordinal_8abf5 (m_ordinal (i := 2) (by decide)) dX10_perform_12 rfl rfl (Nat.le_of_ble_eq_true rfl) (by decide) (by decide) (by decide) ml_ord sm_ord se_ord im_yJx29ce0_ordinal_8abf5 rfl ⟨by decide +kernel, by decide +kernel, by decide +kernel⟩ (ro_kind 2 (by decide)) (fun v hX qX => ?_) (fun C h1 q => q.elim)
    obtain ⟨rfl, qX⟩ := qX
    rw [qX]
    clear qX hX
    refine zi_iaload (i := 2) F dX10_perform_15 Bs.2.1 rfl (by omega) (zar_get (by omega)) ?_
    refine z_tableIn (off := 75) (tgt := 91) F dX10_perform_16 (by decide +kernel) (by decide +kernel) (by decide +kernel) (by decide) ?_
    refine z_aload_n F dX10_perform_91 rfl rfl ?_
    refine z_aload_n F dX10_perform_92 rfl rfl ?_
    refine zi_iconst F dX10_perform_93 ?_
    refine zi_iaload (i := 0) F dX10_perform_94 e2 rfl (by omega) (zar_get (by omega)) ?_
    refine z_aload_n F dX10_perform_95 rfl rfl ?_
    refine zi_iconst F dX10_perform_96 ?_
    refine zi_iaload (i := 1) F dX10_perform_97 e2 rfl (by omega) (zar_get (by omega)) ?_
    refine z_callV F B cal_yX10_changePhase (m_changePhase (b 0 (by decide)) (b 1 (by decide)) R hO hK) dX10_perform_98 rfl rfl (Nat.le_of_ble_eq_true rfl) (by decide) (by decide) (by decide) ml_X10_128 im_yX10_changePhase se_yX10_changePhase r0 (by decide) rfl rfl (fun v hX qX => ?_) (fun C h1 q => q.elim)
    obtain ⟨rfl, R2⟩ := qX
    exact Z.widen (by decide) (by decide) (z_ireturn F rfl B dX10_perform_101 ⟨rfl, R2⟩)
  · refine z_aload_n F dX10_perform_0 rfl rfl ?_
    refine z_getfield F fl_X10_449 dX10_perform_1 e1 (by decide) rfl ?_
    refine z_astore_n F dX10_perform_4 rfl rfl (hnl _ rfl) ?_
    refine z_getstatic F gs_X10_454 dX10_perform_5 ?_
    refine z_aload_n F dX10_perform_8 rfl rfl ?_
    refine z_getfield F fl_X10_459 dX10_perform_9 e1 (by decide) rfl ?_
    refine z_callU F B cal_yJx29ce0_ordinal_8abf5 (m_ordinal (i := 3) (by decide)) dX10_perform_12 rfl rfl (Nat.le_of_ble_eq_true rfl) (by decide) (by decide) (by decide) ml_ord sm_ord se_ord im_yJx29ce0_ordinal_8abf5 rfl ⟨by decide +kernel, by decide +kernel, by decide +kernel⟩ (ro_kind 3 (by decide)) (fun v hX qX => ?_) (fun C h1 q => q.elim)
    obtain ⟨rfl, qX⟩ := qX
    rw [qX]
    clear qX hX
    refine zi_iaload (i := 3) F dX10_perform_15 Bs.2.1 rfl (by omega) (zar_get (by omega)) ?_
    refine z_tableIn (off := 86) (tgt := 102) F dX10_perform_16 (by decide +kernel) (by decide +kernel) (by decide +kernel) (by decide) ?_
    refine z_aload_n F dX10_perform_102 rfl rfl ?_
    refine z_aload_n F dX10_perform_103 rfl rfl ?_
    refine zi_iconst F dX10_perform_104 ?_
    refine zi_iaload (i := 0) F dX10_perform_105 e2 rfl (by omega) (zar_get (by omega)) ?_
    refine z_callV F B cal_yX10_douseLight (m_douseLight (b 0 (by decide)) R hO hK) dX10_perform_106 rfl rfl (Nat.le_of_ble_eq_true rfl) (by decide) (by decide) (by decide) ml_X10_131 im_yX10_douseLight se_yX10_douseLight r0 (by decide) rfl rfl (fun v hX qX => ?_) (fun C h1 q => q.elim)
    obtain ⟨rfl, R2⟩ := qX
    exact Z.widen (by decide) (by decide) (z_ireturn F rfl B dX10_perform_109 ⟨rfl, R2⟩)
  · refine z_aload_n F dX10_perform_0 rfl rfl ?_
    refine z_getfield F fl_X10_449 dX10_perform_1 e1 (by decide) rfl ?_
    refine z_astore_n F dX10_perform_4 rfl rfl (hnl _ rfl) ?_
    refine z_getstatic F gs_X10_454 dX10_perform_5 ?_
    refine z_aload_n F dX10_perform_8 rfl rfl ?_
    refine z_getfield F fl_X10_459 dX10_perform_9 e1 (by decide) rfl ?_
    refine z_callU F B cal_yJx29ce0_ordinal_8abf5 (m_ordinal (i := 4) (by decide)) dX10_perform_12 rfl rfl (Nat.le_of_ble_eq_true rfl) (by decide) (by decide) (by decide) ml_ord sm_ord se_ord im_yJx29ce0_ordinal_8abf5 rfl ⟨by decide +kernel, by decide +kernel, by decide +kernel⟩ (ro_kind 4 (by decide)) (fun v hX qX => ?_) (fun C h1 q => q.elim)
    obtain ⟨rfl, qX⟩ := qX
    rw [qX]
    clear qX hX
    refine zi_iaload (i := 4) F dX10_perform_15 Bs.2.1 rfl (by omega) (zar_get (by omega)) ?_
    refine z_tableIn (off := 94) (tgt := 110) F dX10_perform_16 (by decide +kernel) (by decide +kernel) (by decide +kernel) (by decide) ?_
    refine z_aload_n F dX10_perform_110 rfl rfl ?_
    refine z_aload_n F dX10_perform_111 rfl rfl ?_
    refine zi_iconst F dX10_perform_112 ?_
    refine zi_iaload (i := 0) F dX10_perform_113 e2 rfl (by omega) (zar_get (by omega)) ?_
    refine z_aload_n F dX10_perform_114 rfl rfl ?_
    refine zi_iconst F dX10_perform_115 ?_
    refine zi_iaload (i := 1) F dX10_perform_116 e2 rfl (by omega) (zar_get (by omega)) ?_
    refine z_aload_n F dX10_perform_117 rfl rfl ?_
    refine zi_iconst F dX10_perform_118 ?_
    refine zi_iaload (i := 2) F dX10_perform_119 e2 rfl (by omega) (zar_get (by omega)) ?_
    refine z_callV F B cal_yX10_launchShip (m_launchShip (b 0 (by decide)) (b 1 (by decide)) (b 2 (by decide)) R hO hK) dX10_perform_120 rfl rfl (Nat.le_of_ble_eq_true rfl) (by decide) (by decide) (by decide) ml_X10_210 im_yX10_launchShip se_yX10_launchShip r0 (by decide) rfl rfl (fun v hX qX => ?_) (fun C h1 q => q.elim)
    obtain ⟨rfl, R2⟩ := qX
    exact Z.widen (by decide) (by decide) (z_ireturn F rfl B dX10_perform_123 ⟨rfl, R2⟩)
  · refine z_aload_n F dX10_perform_0 rfl rfl ?_
    refine z_getfield F fl_X10_449 dX10_perform_1 e1 (by decide) rfl ?_
    refine z_astore_n F dX10_perform_4 rfl rfl (hnl _ rfl) ?_
    refine z_getstatic F gs_X10_454 dX10_perform_5 ?_
    refine z_aload_n F dX10_perform_8 rfl rfl ?_
    refine z_getfield F fl_X10_459 dX10_perform_9 e1 (by decide) rfl ?_
    refine z_callU F B cal_yJx29ce0_ordinal_8abf5 (m_ordinal (i := 5) (by decide)) dX10_perform_12 rfl rfl (Nat.le_of_ble_eq_true rfl) (by decide) (by decide) (by decide) ml_ord sm_ord se_ord im_yJx29ce0_ordinal_8abf5 rfl ⟨by decide +kernel, by decide +kernel, by decide +kernel⟩ (ro_kind 5 (by decide)) (fun v hX qX => ?_) (fun C h1 q => q.elim)
    obtain ⟨rfl, qX⟩ := qX
    rw [qX]
    clear qX hX
    refine zi_iaload (i := 5) F dX10_perform_15 Bs.2.1 rfl (by omega) (zar_get (by omega)) ?_
    refine z_tableIn (off := 108) (tgt := 124) F dX10_perform_16 (by decide +kernel) (by decide +kernel) (by decide +kernel) (by decide) ?_
    refine z_aload_n F dX10_perform_124 rfl rfl ?_
    refine z_aload_n F dX10_perform_125 rfl rfl ?_
    refine zi_iconst F dX10_perform_126 ?_
    refine zi_iaload (i := 0) F dX10_perform_127 e2 rfl (by omega) (zar_get (by omega)) ?_
    refine z_aload_n F dX10_perform_128 rfl rfl ?_
    refine zi_iconst F dX10_perform_129 ?_
    refine zi_iaload (i := 1) F dX10_perform_130 e2 rfl (by omega) (zar_get (by omega)) ?_
    refine z_aload_n F dX10_perform_131 rfl rfl ?_
    refine zi_iconst F dX10_perform_132 ?_
    refine zi_iaload (i := 2) F dX10_perform_133 e2 rfl (by omega) (zar_get (by omega)) ?_
    refine z_callV F B cal_yX10_changeGoal (m_changeGoal (b 0 (by decide)) (b 1 (by decide)) (b 2 (by decide)) R hO hK) dX10_perform_134 rfl rfl (Nat.le_of_ble_eq_true rfl) (by decide) (by decide) (by decide) ml_X10_213 im_yX10_changeGoal se_yX10_changeGoal r0 (by decide) rfl rfl (fun v hX qX => ?_) (fun C h1 q => q.elim)
    obtain ⟨rfl, R2⟩ := qX
    exact Z.widen (by decide) (by decide) (z_ireturn F rfl B dX10_perform_137 ⟨rfl, R2⟩)
  · refine z_aload_n F dX10_perform_0 rfl rfl ?_
    refine z_getfield F fl_X10_449 dX10_perform_1 e1 (by decide) rfl ?_
    refine z_astore_n F dX10_perform_4 rfl rfl (hnl _ rfl) ?_
    refine z_getstatic F gs_X10_454 dX10_perform_5 ?_
    refine z_aload_n F dX10_perform_8 rfl rfl ?_
    refine z_getfield F fl_X10_459 dX10_perform_9 e1 (by decide) rfl ?_
    refine z_callU F B cal_yJx29ce0_ordinal_8abf5 (m_ordinal (i := 6) (by decide)) dX10_perform_12 rfl rfl (Nat.le_of_ble_eq_true rfl) (by decide) (by decide) (by decide) ml_ord sm_ord se_ord im_yJx29ce0_ordinal_8abf5 rfl ⟨by decide +kernel, by decide +kernel, by decide +kernel⟩ (ro_kind 6 (by decide)) (fun v hX qX => ?_) (fun C h1 q => q.elim)
    obtain ⟨rfl, qX⟩ := qX
    rw [qX]
    clear qX hX
    refine zi_iaload (i := 6) F dX10_perform_15 Bs.2.1 rfl (by omega) (zar_get (by omega)) ?_
    refine z_tableIn (off := 122) (tgt := 138) F dX10_perform_16 (by decide +kernel) (by decide +kernel) (by decide +kernel) (by decide) ?_
    refine z_aload_n F dX10_perform_138 rfl rfl ?_
    refine z_aload_n F dX10_perform_139 rfl rfl ?_
    refine zi_iconst F dX10_perform_140 ?_
    refine zi_iaload (i := 0) F dX10_perform_141 e2 rfl (by omega) (zar_get (by omega)) ?_
    refine z_callV F B cal_yX10_salvageShip (m_salvageShip (b 0 (by decide)) R hO hK) dX10_perform_142 rfl rfl (Nat.le_of_ble_eq_true rfl) (by decide) (by decide) (by decide) ml_X10_216 im_yX10_salvageShip se_yX10_salvageShip r0 (by decide) rfl rfl (fun v hX qX => ?_) (fun C h1 q => q.elim)
    obtain ⟨rfl, R2⟩ := qX
    exact Z.widen (by decide) (by decide) (z_ireturn F rfl B dX10_perform_145 ⟨rfl, R2⟩)
  · refine z_aload_n F dX10_perform_0 rfl rfl ?_
    refine z_getfield F fl_X10_449 dX10_perform_1 e1 (by decide) rfl ?_
    refine z_astore_n F dX10_perform_4 rfl rfl (hnl _ rfl) ?_
    refine z_getstatic F gs_X10_454 dX10_perform_5 ?_
    refine z_aload_n F dX10_perform_8 rfl rfl ?_
    refine z_getfield F fl_X10_459 dX10_perform_9 e1 (by decide) rfl ?_
    refine z_callU F B cal_yJx29ce0_ordinal_8abf5 (m_ordinal (i := 7) (by decide)) dX10_perform_12 rfl rfl (Nat.le_of_ble_eq_true rfl) (by decide) (by decide) (by decide) ml_ord sm_ord se_ord im_yJx29ce0_ordinal_8abf5 rfl ⟨by decide +kernel, by decide +kernel, by decide +kernel⟩ (ro_kind 7 (by decide)) (fun v hX qX => ?_) (fun C h1 q => q.elim)
    obtain ⟨rfl, qX⟩ := qX
    rw [qX]
    clear qX hX
    refine zi_iaload (i := 7) F dX10_perform_15 Bs.2.1 rfl (by omega) (zar_get (by omega)) ?_
    refine z_tableOut (tgt := 146) F dX10_perform_16 (by decide +kernel) (by decide) ?_
    refine z_aload_n F dX10_perform_146 rfl rfl ?_
    refine z_aload_n F dX10_perform_147 rfl rfl ?_
    refine zi_iconst F dX10_perform_148 ?_
    refine zi_iaload (i := 0) F dX10_perform_149 e2 rfl (by omega) (zar_get (by omega)) ?_
    refine z_callV F B cal_yX10_passMinutes (m_passMinutes (b 0 (by decide)) R hO (by omega)) dX10_perform_150 rfl rfl (Nat.le_of_ble_eq_true rfl) (by decide) (by decide) (by decide) ml_X10_219 im_yX10_passMinutes se_yX10_passMinutes r0 (by decide) rfl rfl (fun v hX qX => ?_) (fun C h1 q => q.elim)
    obtain ⟨rfl, R2⟩ := qX
    exact Z.widen (by decide) (by decide) (z_ireturn F rfl B dX10_perform_153 ⟨rfl, R2⟩)
end
