/-! undo, snapshots, the latest denial -/
def f_undo (S : zBt) : zBt := (S.2.2.1.2.2 ((S.2.2.1.1 + (S.2.2.1.2.1 - 1)) % 8), S.2.1, (S.2.2.1.1, S.2.2.1.2.1 - 1, S.2.2.1.2.2), S.2.2.2)
def f_save (S : zBt) : zBt := (S.1, (S.1, true), S.2.2)
def f_rest (S : zBt) : zBt := (S.2.1.1, S.2.1, (S.2.2.1.1, 0, S.2.2.1.2.2), S.2.2.2)
section
variable {o K : Nat} {S : zBt} {h : zH}
theorem m_undo (R : zRB o S h) : zMet yX10_undo cX10_undo 1 (some .int) 9 1 6 [.ref o] h (fun v h' => 0 < S.2.2.1.2.1 ∧ v = some (.int (iI ((S.2.2.1.2.1 - 1 : Nat) : Int))) ∧ zRB o (f_undo S) h') (fun D h' => S.2.2.1.2.1 = 0 ∧ D = xS ∧ zRB o S h') := by
  refine zMet.go (by decide +kernel) (Nat.le_of_ble_eq_true rfl) ?_
  intro X F B hnl hR hn
  have z := R.1
  have r0 := R.2.1
  obtain ⟨π, h1, h2, h3, h4, h5, h6⟩ := R.2.2.2.2.1
  refine z_aload_n F dX10_undo_0 rfl rfl ?_
  refine z_getfield F fl_X10_22 dX10_undo_1 r0 (by decide) rfl ?_
  refine z_getfield F fl_X10_396 dX10_undo_4 h1 (by decide) rfl ?_
  refine zi_if_ne (tgt := 21) F dX10_undo_7 (by decide) (by first | omega | (dsimp only at *; omega)) (fun c7 => ?_) (fun c7 => ?_)
  · refine z_aload_n F dX10_undo_21 rfl rfl ?_
    refine z_getfield F fl_X10_22 dX10_undo_22 r0 (by decide) rfl ?_
    refine z_aload_n F dX10_undo_25 rfl rfl ?_
    refine z_getfield F fl_X10_12 dX10_undo_26 r0 (by decide) rfl ?_
    refine z_callV F B cal_yX6_takeBack (m_htake (by omega) (by omega) (by omega) (by omega) R.2.2.2.2.1 R.2.2.1) dX10_undo_29 rfl rfl (Nat.le_of_ble_eq_true rfl) (by decide) (by decide) (by decide) ml_X10_399 im_yX6_takeBack se_yX6_takeBack h1 (by decide) rfl rfl (fun v hX qX => ?_) (fun C h1 q => q.elim)
    obtain ⟨rfl, H, Kc, s⟩ := qX
    have R1 : zRB o (f_undo S) hX := R.take s Kc H
    refine z_aload_n F dX10_undo_32 rfl rfl ?_
    refine z_getfield F fl_X10_22 dX10_undo_33 R1.2.1 (by decide) rfl ?_
    refine z_getfield F fl_X10_396 dX10_undo_36 (R1.2.2.2.2.1.choose_spec.1) (by decide) rfl ?_
    exact Z.widen (by decide) (by decide) (z_ireturn F rfl B dX10_undo_39 ⟨by omega, rfl, R1⟩)
  · exact z_throwSW F B thr_X10_308_397_312 dX10_undo_10 dX10_undo_13 dX10_undo_14 dX10_undo_17 dX10_undo_20 (by decide) (by decide) (by decide) (by decide) (fun j => ⟨by omega, rfl, R.junkR _⟩)
theorem m_undoCount (R : zRB o S h) : zMet yX10_undoCount cX10_undoCount 1 (some .int) 1 0 0 [.ref o] h (fun v h' => v = some (.int (iI ((S.2.2.1.2.1 : Int)))) ∧ h' = h) (fun _ _ => False) := by
  refine zMet.go (by decide +kernel) (Nat.le_of_ble_eq_true rfl) ?_
  intro X F B hnl hR hn
  have r0 := R.2.1
  refine z_aload_n F dX10_undoCount_0 rfl rfl ?_
  refine z_getfield F fl_X10_22 dX10_undoCount_1 r0 (by decide) rfl ?_
  refine z_getfield F fl_X10_396 dX10_undoCount_4 (R.2.2.2.2.1.choose_spec.1) (by decide) rfl ?_
  exact Z.widen (by decide) (by decide) (z_ireturn F rfl B dX10_undoCount_7 ⟨rfl, rfl⟩)
theorem m_saveSnapshot (R : zRB o S h) : zMet yX10_saveSnapshot cX10_saveSnapshot 1 (some .int) 3 0 0 [.ref o] h (fun v h' => v = some (.int (iI S.1.2.2.2.1.2)) ∧ zRB o (f_save S) h') (fun _ _ => False) := by
  refine zMet.go (by decide +kernel) (Nat.le_of_ble_eq_true rfl) ?_
  intro X F B hnl hR hn
  have z := R.1
  have r0 := R.2.1
  obtain ⟨σ, τ, r1⟩ := R.2.2.1
  obtain ⟨σ2, τ2, r2⟩ := R.2.2.2.1
  refine z_aload_n F dX10_saveSnapshot_0 rfl rfl ?_
  refine z_getfield F fl_X10_16 dX10_saveSnapshot_1 r0 (by decide) rfl ?_
  refine z_aload_n F dX10_saveSnapshot_4 rfl rfl ?_
  refine z_getfield F fl_X10_12 dX10_saveSnapshot_5 r0 (by decide) rfl ?_
  refine z_callV F B cal_yX2_copyFrom (m_ccopy (by omega) (by omega) (by omega) r2 r1) dX10_saveSnapshot_8 rfl rfl (Nat.le_of_ble_eq_true rfl) (by decide) (by decide) (by decide) ml_X10_402 im_yX2_copyFrom se_yX2_copyFrom r2.ob (by decide) rfl rfl (fun v hX qX => ?_) (fun C h1 q => q.elim)
  obtain ⟨rfl, q1, s⟩ := qX
  have R1 := R.snap s ⟨_, _, q1⟩
  refine z_aload_n F dX10_saveSnapshot_11 rfl rfl ?_
  refine zi_iconst F dX10_saveSnapshot_12 ?_
  refine z_putfield F fp_X10_405 dX10_saveSnapshot_13 (zmut_of F (by omega)) R1.2.1 (by decide) (Nat.le_of_ble_eq_true rfl) ⟨rfl, rfl⟩ ?_
  have R2 := R1.obj (zSame.rf.set (c := (12, (zBf o (S.1, (S.1, S.2.1.2), S.2.2)).set 2 (.int (iI 1)))) rfl) (B := true) (M := S.2.2.2.2) (zset_same R1.2.1)
  refine z_aload_n F dX10_saveSnapshot_16 rfl rfl ?_
  refine z_getfield F fl_X10_12 dX10_saveSnapshot_17 R2.2.1 (by decide) rfl ?_
  refine z_getfield F fl_X10_222 dX10_saveSnapshot_20 (R2.2.2.1.choose_spec.choose_spec.ob) (by decide) rfl ?_
  exact Z.widen (by decide) (by decide) (z_ireturn F rfl B dX10_saveSnapshot_23 ⟨rfl, R2⟩)
theorem m_restoreSnapshot (R : zRB o S h) : zMet yX10_restoreSnapshot cX10_restoreSnapshot 1 (some .int) 9 1 6 [.ref o] h (fun v h' => S.2.1.2 = true ∧ v = some (.int (iI S.2.1.1.2.2.2.1.2)) ∧ zRB o (f_rest S) h') (fun D h' => S.2.1.2 = false ∧ D = xS ∧ zRB o S h') := by
  refine zMet.go (by decide +kernel) (Nat.le_of_ble_eq_true rfl) ?_
  intro X F B hnl hR hn
  have z := R.1
  have r0 := R.2.1
  obtain ⟨σ, τ, r1⟩ := R.2.2.1
  obtain ⟨σ2, τ2, r2⟩ := R.2.2.2.1
  refine z_aload_n F dX10_restoreSnapshot_0 rfl rfl ?_
  refine z_getfield F fl_X10_405 dX10_restoreSnapshot_1 r0 (by decide) rfl ?_
  refine zi_if_ne (tgt := 18) F dX10_restoreSnapshot_4 (by decide) (zBo_b _) (fun c4 => ?_) (fun c4 => ?_)
  · refine z_aload_n F dX10_restoreSnapshot_18 rfl rfl ?_
    refine z_getfield F fl_X10_12 dX10_restoreSnapshot_19 r0 (by decide) rfl ?_
    refine z_aload_n F dX10_restoreSnapshot_22 rfl rfl ?_
    refine z_getfield F fl_X10_16 dX10_restoreSnapshot_23 r0 (by decide) rfl ?_
    refine z_callV F B cal_yX2_copyFrom (m_ccopy (by omega) (by omega) (by omega) r1 r2) dX10_restoreSnapshot_26 rfl rfl (Nat.le_of_ble_eq_true rfl) (by decide) (by decide) (by decide) ml_X10_402 im_yX2_copyFrom se_yX2_copyFrom r1.ob (by decide) rfl rfl (fun v hX qX => ?_) (fun C h1 q => q.elim)
    obtain ⟨rfl, q1, s⟩ := qX
    have R1 := R.coast s ⟨_, _, q1⟩
    obtain ⟨π, h1, h2, h3, h4, h5, h6⟩ := id R1.2.2.2.2.1
    refine z_aload_n F dX10_restoreSnapshot_29 rfl rfl ?_
    refine z_getfield F fl_X10_22 dX10_restoreSnapshot_30 R1.2.1 (by decide) rfl ?_
    refine zi_iconst F dX10_restoreSnapshot_33 ?_
    refine z_putfield F fp_X10_396 dX10_restoreSnapshot_34 (zmut_of F (by omega)) h1 (by decide) (Nat.le_of_ble_eq_true rfl) ⟨rfl, rfl⟩ ?_
    have H2 : zHi (o + 33) S.2.2.1.1 0 S.2.2.1.2.2 (hX.set (o + 33) (8, [.ref (o + 33 + 1), .ref (o + 33 + 2 + 16 * π 8), .int (iI S.2.2.1.1), .int (iI (0 : Nat))])) := ⟨π, zset_same h1, zkeep h2 (by omega), h3, fun i hi => (h4 i hi).same (zSame.rf.set (S := fun a => a = o + 33) rfl) (fun a g1 g2 q => by omega), h5, by omega⟩
    have R2 := R1.hist2 (zSame.rf.set ⟨by omega, by omega⟩) H2
    refine z_aload_n F dX10_restoreSnapshot_37 rfl rfl ?_
    refine z_getfield F fl_X10_12 dX10_restoreSnapshot_38 R2.2.1 (by decide) rfl ?_
    refine z_getfield F fl_X10_222 dX10_restoreSnapshot_41 (R2.2.2.1.choose_spec.choose_spec.ob) (by decide) rfl ?_
    exact Z.widen (by decide) (by decide) (z_ireturn F rfl B dX10_restoreSnapshot_44 ⟨by rw [zBo_n] at c4; exact c4, rfl, R2⟩)
  · exact z_throwSW F B thr_X10_308_408_312 dX10_restoreSnapshot_7 dX10_restoreSnapshot_10 dX10_restoreSnapshot_11 dX10_restoreSnapshot_14 dX10_restoreSnapshot_17 (by decide) (by decide) (by decide) (by decide) (fun j => ⟨by rw [zBo_z] at c4; exact c4, rfl, R.junkR _⟩)
theorem m_denial (R : zRB o S h) (hb : zI32 S.2.2.2.2.2.1) : zMet yX10_denial cX10_denial 1 (some .int) 8 1 6 [.ref o] h (fun v h' => (¬ S.2.2.2.2.2.1 = 0 ∧ v = some (.int (iI S.2.2.2.2.2.1))) ∧ h' = h) (fun D h' => S.2.2.2.2.2.1 = 0 ∧ zTh [xN] h D h') := by
  refine zMet.go (by decide +kernel) (Nat.le_of_ble_eq_true rfl) ?_
  intro X F B hnl hR hn
  have r0 := R.2.1
  have hb1 := hb.1
  have hb2 := hb.2
  refine z_aload_n F dX10_denial_0 rfl rfl ?_
  refine z_getfield F fl_X10_340 dX10_denial_1 r0 (by decide) rfl ?_
  refine zi_if_ne (tgt := 18) F dX10_denial_4 (by decide) (by first | omega | (dsimp only at *; omega)) (fun c4 => ?_) (fun c4 => ?_)
  · refine z_aload_n F dX10_denial_18 rfl rfl ?_
    refine z_getfield F fl_X10_340 dX10_denial_19 r0 (by decide) rfl ?_
    exact Z.widen (by decide) (by decide) (z_ireturn F rfl B dX10_denial_22 ⟨⟨by omega, rfl⟩, rfl⟩)
  · exact z_throwGW F B thr_X10_140_386_144 dX10_denial_7 dX10_denial_10 dX10_denial_11 dX10_denial_14 dX10_denial_17 (by decide) (by decide) (by decide) (by decide) (fun j => ⟨by omega, by decide, j, rfl⟩)
theorem m_denialCause (R : zRB o S h) (hb : zI32 S.2.2.2.2.2.2.2) : zMet yX10_denialCause cX10_denialCause 1 (some .int) 8 1 6 [.ref o] h (fun v h' => (¬ S.2.2.2.2.2.2.2 = 0 ∧ v = some (.int (iI S.2.2.2.2.2.2.2))) ∧ h' = h) (fun D h' => S.2.2.2.2.2.2.2 = 0 ∧ zTh [xN] h D h') := by
  refine zMet.go (by decide +kernel) (Nat.le_of_ble_eq_true rfl) ?_
  intro X F B hnl hR hn
  have r0 := R.2.1
  have hb1 := hb.1
  have hb2 := hb.2
  refine z_aload_n F dX10_denialCause_0 rfl rfl ?_
  refine z_getfield F fl_X10_391 dX10_denialCause_1 r0 (by decide) rfl ?_
  refine zi_if_ne (tgt := 18) F dX10_denialCause_4 (by decide) (by first | omega | (dsimp only at *; omega)) (fun c4 => ?_) (fun c4 => ?_)
  · refine z_aload_n F dX10_denialCause_18 rfl rfl ?_
    refine z_getfield F fl_X10_391 dX10_denialCause_19 r0 (by decide) rfl ?_
    exact Z.widen (by decide) (by decide) (z_ireturn F rfl B dX10_denialCause_22 ⟨⟨by omega, rfl⟩, rfl⟩)
  · exact z_throwGW F B thr_X10_140_394_144 dX10_denialCause_7 dX10_denialCause_10 dX10_denialCause_11 dX10_denialCause_14 dX10_denialCause_17 (by decide) (by decide) (by decide) (by decide) (fun j => ⟨by omega, by decide, j, rfl⟩)
end
