/-! what changes the chart, further -/
section
variable {o K : Nat} {S : zBt} {h : zH}
theorem m_changePhase {l p : Int} (hl : zI32 l) (hp : zI32 p) (R : zRB o S h) (hO : zOk K S.1) (hK : K < 1800000) : zMet yX10_changePhase cX10_changePhase 5 (some .int) 3 0 0 [.ref o, .int (iI l), .int (iI p)] h (fun v h' => v = some (.int (iI (f_cp S.1 l p).1)) ∧ zRB o (f_put S (f_cp S.1 l p)) h') (fun _ _ => False) := by
  refine zMet.go (by decide +kernel) (Nat.le_of_ble_eq_true rfl) ?_
  intro X F B hnl hR hn
  have z := R.1
  have r0 := R.2.1
  obtain ⟨σ, τ, r1⟩ := R.2.2.1
  have hp1 := hp.1
  have hp2 := hp.2
  have hl6 := hO.2.2.2.1
  by_cases hv : 0 ≤ l ∧ l < S.1.2.2.2.1.1
  · obtain ⟨i, rfl⟩ : ∃ i : Nat, l = i := ⟨l.toNat, by omega⟩
    have hi6 : i < 6 := by omega
    have hli := r1.li hi6
    have ps := r1.ps.1 i hi6
    have h8 := (hO.2.1 i).2.2.2.2.1
    refine z_aload_n F dX10_changePhase_0 rfl rfl ?_
    refine z_getfield F fl_X10_12 dX10_changePhase_1 r0 (by decide) rfl ?_
    refine z_iload_n F dX10_changePhase_4 rfl rfl ?_
    refine z_callV F B cal_yX2_hasLight (m_hasLight r1 hO hl) dX10_changePhase_5 rfl rfl (Nat.le_of_ble_eq_true rfl) (by decide) (by decide) (by decide) ml_X10_420 im_yX2_hasLight se_yX2_hasLight r1.ob (by decide) rfl rfl (fun v hX qX => ?_) (fun C h1 q => q.elim)
    obtain ⟨rfl, qX⟩ := qX
    rw [qX]
    clear qX hX
    rw [if_pos hv]
    refine zi_if_ne (tgt := 13) F dX10_changePhase_8 (by decide) (by first | omega | (dsimp only at *; omega)) (fun c8 => ?_) (fun c8 => False.elim (by first | omega | (dsimp only at *; omega)))
    refine z_iload_n F dX10_changePhase_13 rfl rfl ?_
    refine zi_if_lt (tgt := 23) F dX10_changePhase_14 (by decide) (by first | omega | (dsimp only at *; omega)) (fun c14 => ?_) (fun c14 => ?_)
    · refine zi_bipush F dX10_changePhase_23 (by decide) ?_
      exact Z.widen (by decide) (by decide) (z_ireturn F rfl B dX10_changePhase_25 (by have e : f_cp S.1 i p = (-2, S.1, none) := (by unfold f_cp; rw [if_pos hv, if_neg (by omega)]); rw [e]; exact ⟨rfl, R⟩))
    · refine z_iload_n F dX10_changePhase_17 rfl rfl ?_
      refine zi_bipush F dX10_changePhase_18 (by decide) ?_
      refine zi_icmp_lt (tgt := 26) F dX10_changePhase_20 (by decide) (by first | omega | (dsimp only at *; omega)) (fun c20 => ?_) (fun c20 => ?_)
      · refine z_aload_n F dX10_changePhase_26 rfl rfl ?_
        refine z_getfield F fl_X10_12 dX10_changePhase_27 r0 (by decide) rfl ?_
        refine z_getfield F fl_X10_280 dX10_changePhase_30 r1.ob (by decide) rfl ?_
        refine z_iload_n F dX10_changePhase_33 rfl rfl ?_
        refine zi_aaload (i := i) F dX10_changePhase_34 r1.la (by decide) (by decide) rfl rfl (by omega) (zar_get (by omega)) rfl ?_
        refine z_astore_n F dX10_changePhase_35 rfl rfl (hnl _ rfl) ?_
        refine z_aload_n F dX10_changePhase_36 rfl rfl ?_
        refine z_getfield F fl_X10_424 dX10_changePhase_37 hli (by decide) rfl ?_
        have e0 : f_cp S.1 i p = if ((S.1.2.1 i).2.2.2.1 : Int) = p then ((-3, S.1, some (7, p)) : zCh) else (((S.1.2.1 i).2.2.2.1 : Nat), (S.1.1, zup S.1.2.1 i (lph (S.1.2.1 i) p.toNat), S.1.2.2), none) := by unfold f_cp; rw [if_pos hv, if_pos (by omega)]; rfl
        refine z_istore F dX10_changePhase_40 rfl (hnl _ rfl) ?_
        refine z_iload F dX10_changePhase_42 rfl ?_
        refine z_iload_n F dX10_changePhase_44 rfl rfl ?_
        refine zi_icmp_ne (tgt := 56) F dX10_changePhase_45 (by decide) (by first | omega | (dsimp only at *; omega)) (fun c45 => ?_) (fun c45 => ?_)
        · refine z_aload_n F dX10_changePhase_56 rfl rfl ?_
          refine z_iload_n F dX10_changePhase_57 rfl rfl ?_
          rw [show iI p = iI ((p.toNat : Nat) : Int) by congr 1; omega]
          refine z_putfield F fp_X10_424 dX10_changePhase_58 (zmut_of F (by omega)) hli (by decide) (Nat.le_of_ble_eq_true rfl) ⟨rfl, rfl⟩ ?_
          refine z_iload F dX10_changePhase_61 rfl ?_
          exact Z.widen (by decide) (by decide) (z_ireturn F rfl B dX10_changePhase_63 (by rw [e0, if_neg (by omega)]; exact ⟨rfl, R.coast (zSame.rf.set ⟨by omega, by omega⟩) ⟨σ, τ, r1.putL hi6 (lph (S.1.2.1 i) p.toNat) rfl⟩⟩))
        · refine z_aload_n F dX10_changePhase_48 rfl rfl ?_
          refine zi_bipush F dX10_changePhase_49 (by decide) ?_
          refine z_iload_n F dX10_changePhase_51 rfl rfl ?_
          refine z_callV F B cal_yX10_deny (m_deny R) dX10_changePhase_52 rfl rfl (Nat.le_of_ble_eq_true rfl) (by decide) (by decide) (by decide) ml_X10_414 im_yX10_deny se_yX10_deny r0 (by decide) rfl rfl (fun v hX qX => ?_) (fun C h1 q => q.elim)
          obtain ⟨rfl, R1⟩ := qX
          exact Z.widen (by decide) (by decide) (z_ireturn F rfl B dX10_changePhase_55 (by rw [e0, if_pos (by omega)]; exact ⟨rfl, R1⟩))
      · refine zi_bipush F dX10_changePhase_23 (by decide) ?_
        exact Z.widen (by decide) (by decide) (z_ireturn F rfl B dX10_changePhase_25 (by have e : f_cp S.1 i p = (-2, S.1, none) := (by unfold f_cp; rw [if_pos hv, if_neg (by omega)]); rw [e]; exact ⟨rfl, R⟩))
  · refine z_aload_n F dX10_changePhase_0 rfl rfl ?_
    refine z_getfield F fl_X10_12 dX10_changePhase_1 r0 (by decide) rfl ?_
    refine z_iload_n F dX10_changePhase_4 rfl rfl ?_
    refine z_callV F B cal_yX2_hasLight (m_hasLight r1 hO hl) dX10_changePhase_5 rfl rfl (Nat.le_of_ble_eq_true rfl) (by decide) (by decide) (by decide) ml_X10_420 im_yX2_hasLight se_yX2_hasLight r1.ob (by decide) rfl rfl (fun v hX qX => ?_) (fun C h1 q => q.elim)
    obtain ⟨rfl, qX⟩ := qX
    rw [qX]
    clear qX hX
    rw [if_neg hv]
    refine zi_if_ne (tgt := 13) F dX10_changePhase_8 (by decide) (by first | omega | (dsimp only at *; omega)) (fun c8 => False.elim (by first | omega | (dsimp only at *; omega))) (fun c8 => ?_)
    refine zi_iconst F dX10_changePhase_11 ?_
    exact Z.widen (by decide) (by decide) (z_ireturn F rfl B dX10_changePhase_12 (by have e : f_cp S.1 l p = (-1, S.1, none) := (by unfold f_cp; rw [if_neg hv]); rw [e]; exact ⟨rfl, R⟩))
theorem m_douseLight {l : Int} (hl : zI32 l) (R : zRB o S h) (hO : zOk K S.1) (hK : K < 1800000) : zMet yX10_douseLight cX10_douseLight 3 (some .int) 3 0 0 [.ref o, .int (iI l)] h (fun v h' => v = some (.int (iI (f_dl S.1 l).1)) ∧ zRB o (f_put S (f_dl S.1 l)) h') (fun _ _ => False) := by
  refine zMet.go (by decide +kernel) (Nat.le_of_ble_eq_true rfl) ?_
  intro X F B hnl hR hn
  have z := R.1
  have r0 := R.2.1
  obtain ⟨σ, τ, r1⟩ := R.2.2.1
  have hl6 := hO.2.2.2.1
  by_cases hv : 0 ≤ l ∧ l < S.1.2.2.2.1.1
  · obtain ⟨i, rfl⟩ : ∃ i : Nat, l = i := ⟨l.toNat, by omega⟩
    have hi6 : i < 6 := by omega
    have hli := r1.li hi6
    refine z_aload_n F dX10_douseLight_0 rfl rfl ?_
    refine z_getfield F fl_X10_12 dX10_douseLight_1 r0 (by decide) rfl ?_
    refine z_iload_n F dX10_douseLight_4 rfl rfl ?_
    refine z_callV F B cal_yX2_hasLight (m_hasLight r1 hO hl) dX10_douseLight_5 rfl rfl (Nat.le_of_ble_eq_true rfl) (by decide) (by decide) (by decide) ml_X10_420 im_yX2_hasLight se_yX2_hasLight r1.ob (by decide) rfl rfl (fun v hX qX => ?_) (fun C h1 q => q.elim)
    obtain ⟨rfl, qX⟩ := qX
    rw [qX]
    clear qX hX
    rw [if_pos hv]
    refine zi_if_ne (tgt := 13) F dX10_douseLight_8 (by decide) (by first | omega | (dsimp only at *; omega)) (fun c8 => ?_) (fun c8 => False.elim (by first | omega | (dsimp only at *; omega)))
    refine z_aload_n F dX10_douseLight_13 rfl rfl ?_
    refine z_getfield F fl_X10_12 dX10_douseLight_14 r0 (by decide) rfl ?_
    refine z_getfield F fl_X10_280 dX10_douseLight_17 r1.ob (by decide) rfl ?_
    refine z_iload_n F dX10_douseLight_20 rfl rfl ?_
    refine zi_aaload (i := i) F dX10_douseLight_21 r1.la (by decide) (by decide) rfl rfl (by omega) (zar_get (by omega)) rfl ?_
    refine z_getfield F fl_X10_273 dX10_douseLight_22 hli (by decide) rfl ?_
    refine z_istore_n F dX10_douseLight_25 rfl rfl (hnl _ rfl) ?_
    refine z_aload_n F dX10_douseLight_26 rfl rfl ?_
    refine z_getfield F fl_X10_12 dX10_douseLight_27 r0 (by decide) rfl ?_
    refine z_iload_n F dX10_douseLight_30 rfl rfl ?_
    refine z_callV F B cal_yX2_takeLight (m_takeLight (by omega) r1 (by omega) hl6) dX10_douseLight_31 rfl rfl (Nat.le_of_ble_eq_true rfl) (by decide) (by decide) (by decide) ml_X10_427 im_yX2_takeLight se_yX2_takeLight r1.ob (by decide) rfl rfl (fun v hX qX => ?_) (fun C h1 q => q.elim)
    obtain ⟨rfl, ⟨σ2, τ2, r2⟩, s2⟩ := qX
    refine z_aload_n F dX10_douseLight_34 rfl rfl ?_
    refine z_getfield F fl_X10_12 dX10_douseLight_35 (s2.get r0 (fun q => by have := q.1; omega)) (by decide) rfl ?_
    refine z_dup F dX10_douseLight_38 rfl ?_
    refine z_getfield F fl_X10_277 dX10_douseLight_39 r2.ob (by decide) rfl ?_
    refine z_iload_n F dX10_douseLight_42 rfl rfl ?_
    refine zi_iadd F dX10_douseLight_43 ?_
    refine z_putfield F fp_X10_277 dX10_douseLight_44 (zmut_of F (by omega)) r2.ob (by decide) (Nat.le_of_ble_eq_true rfl) ⟨rfl, rfl⟩ ?_
    refine z_iload_n F dX10_douseLight_47 rfl rfl ?_
    exact Z.widen (by decide) (by decide) (z_ireturn F rfl B dX10_douseLight_48 (by have e : f_dl S.1 i = ((((S.1.2.1 i).2.2.2.2 : Nat), (S.1.1, (fun k => S.1.2.1 (zrot i S.1.2.2.2.1.1 k)), S.1.2.2.1, (S.1.2.2.2.1.1 - 1, S.1.2.2.2.1.2), (S.1.2.2.2.2.1, S.1.2.2.2.2.2.1, S.1.2.2.2.2.2.2.1 + (S.1.2.1 i).2.2.2.2, S.1.2.2.2.2.2.2.2)), none) : zCh) := (by unfold f_dl; rw [if_pos hv]; rfl); rw [e]; exact ⟨rfl, R.coast (s2.set ⟨by omega, by omega⟩) ⟨σ2, τ2, r2.putO _ rfl rfl rfl rfl⟩⟩))
  · refine z_aload_n F dX10_douseLight_0 rfl rfl ?_
    refine z_getfield F fl_X10_12 dX10_douseLight_1 r0 (by decide) rfl ?_
    refine z_iload_n F dX10_douseLight_4 rfl rfl ?_
    refine z_callV F B cal_yX2_hasLight (m_hasLight r1 hO hl) dX10_douseLight_5 rfl rfl (Nat.le_of_ble_eq_true rfl) (by decide) (by decide) (by decide) ml_X10_420 im_yX2_hasLight se_yX2_hasLight r1.ob (by decide) rfl rfl (fun v hX qX => ?_) (fun C h1 q => q.elim)
    obtain ⟨rfl, qX⟩ := qX
    rw [qX]
    clear qX hX
    rw [if_neg hv]
    refine zi_if_ne (tgt := 13) F dX10_douseLight_8 (by decide) (by first | omega | (dsimp only at *; omega)) (fun c8 => False.elim (by first | omega | (dsimp only at *; omega))) (fun c8 => ?_)
    refine zi_iconst F dX10_douseLight_11 ?_
    exact Z.widen (by decide) (by decide) (z_ireturn F rfl B dX10_douseLight_12 (by have e : f_dl S.1 l = (-1, S.1, none) := (by unfold f_dl; rw [if_neg hv]); rw [e]; exact ⟨rfl, R⟩))
theorem m_salvageShip {l : Int} (hl : zI32 l) (R : zRB o S h) (hO : zOk K S.1) (hK : K < 1800000) : zMet yX10_salvageShip cX10_salvageShip 3 (some .int) 3 0 0 [.ref o, .int (iI l)] h (fun v h' => v = some (.int (iI (f_sv S.1 l).1)) ∧ zRB o (f_put S (f_sv S.1 l)) h') (fun _ _ => False) := by
  refine zMet.go (by decide +kernel) (Nat.le_of_ble_eq_true rfl) ?_
  intro X F B hnl hR hn
  have z := R.1
  have r0 := R.2.1
  obtain ⟨σ, τ, r1⟩ := R.2.2.1
  have hl6 := hO.2.2.2.2.1
  by_cases hv : 0 ≤ l ∧ l < S.1.2.2.2.1.2
  · obtain ⟨i, rfl⟩ : ∃ i : Nat, l = i := ⟨l.toNat, by omega⟩
    have hi6 : i < 6 := by omega
    have hli := r1.si hi6
    have e0 : f_sv S.1 i = if (S.1.2.2.1 i).2.2.2.1 then (((10 * (S.1.2.2.1 i).2.1 : Nat), (S.1.1, S.1.2.1, (fun k => S.1.2.2.1 (zrot i S.1.2.2.2.1.2 k)), (S.1.2.2.2.1.1, S.1.2.2.2.1.2 - 1), (S.1.2.2.2.2.1, S.1.2.2.2.2.2.1, S.1.2.2.2.2.2.2.1, S.1.2.2.2.2.2.2.2.1, S.1.2.2.2.2.2.2.2.2 + 10 * (S.1.2.2.1 i).2.1)), none) : zCh) else (-3, S.1, some (6, (i : Int))) := by unfold f_sv; rw [if_pos hv]; rfl
    refine z_aload_n F dX10_salvageShip_0 rfl rfl ?_
    refine z_getfield F fl_X10_12 dX10_salvageShip_1 r0 (by decide) rfl ?_
    refine z_iload_n F dX10_salvageShip_4 rfl rfl ?_
    refine z_callV F B cal_yX2_hasShip (m_hasShip r1 hO hl) dX10_salvageShip_5 rfl rfl (Nat.le_of_ble_eq_true rfl) (by decide) (by decide) (by decide) ml_X10_433 im_yX2_hasShip se_yX2_hasShip r1.ob (by decide) rfl rfl (fun v hX qX => ?_) (fun C h1 q => q.elim)
    obtain ⟨rfl, qX⟩ := qX
    rw [qX]
    clear qX hX
    rw [if_pos hv]
    refine zi_if_ne (tgt := 13) F dX10_salvageShip_8 (by decide) (by first | omega | (dsimp only at *; omega)) (fun c8 => ?_) (fun c8 => False.elim (by first | omega | (dsimp only at *; omega)))
    refine z_aload_n F dX10_salvageShip_13 rfl rfl ?_
    refine z_getfield F fl_X10_12 dX10_salvageShip_14 r0 (by decide) rfl ?_
    refine z_getfield F fl_X10_301 dX10_salvageShip_17 r1.ob (by decide) rfl ?_
    refine z_iload_n F dX10_salvageShip_20 rfl rfl ?_
    refine zi_aaload (i := i) F dX10_salvageShip_21 r1.sa (by decide) (by decide) rfl rfl (by omega) (zar_get (by omega)) rfl ?_
    refine z_getfield F fl_X10_236 dX10_salvageShip_22 hli (by decide) rfl ?_
    refine zi_if_ne (tgt := 36) F dX10_salvageShip_25 (by decide) (zBo_b _) (fun c25 => ?_) (fun c25 => ?_)
    · refine zi_bipush F dX10_salvageShip_36 (by decide) ?_
      refine z_aload_n F dX10_salvageShip_38 rfl rfl ?_
      refine z_getfield F fl_X10_12 dX10_salvageShip_39 r0 (by decide) rfl ?_
      refine z_getfield F fl_X10_301 dX10_salvageShip_42 r1.ob (by decide) rfl ?_
      refine z_iload_n F dX10_salvageShip_45 rfl rfl ?_
      refine zi_aaload (i := i) F dX10_salvageShip_46 r1.sa (by decide) (by decide) rfl rfl (by omega) (zar_get (by omega)) rfl ?_
      refine z_getfield F fl_X10_246 dX10_salvageShip_47 hli (by decide) rfl ?_
      refine zi_imul F dX10_salvageShip_50 ?_
      refine z_istore_n F dX10_salvageShip_51 rfl rfl (hnl _ rfl) ?_
      refine z_aload_n F dX10_salvageShip_52 rfl rfl ?_
      refine z_getfield F fl_X10_12 dX10_salvageShip_53 r0 (by decide) rfl ?_
      refine z_iload_n F dX10_salvageShip_56 rfl rfl ?_
      refine z_callV F B cal_yX2_takeShip (m_takeShip (by omega) r1 (by omega) hl6) dX10_salvageShip_57 rfl rfl (Nat.le_of_ble_eq_true rfl) (by decide) (by decide) (by decide) ml_X10_436 im_yX2_takeShip se_yX2_takeShip r1.ob (by decide) rfl rfl (fun v hX qX => ?_) (fun C h1 q => q.elim)
      obtain ⟨rfl, ⟨σ2, τ2, r2⟩, s2⟩ := qX
      refine z_aload_n F dX10_salvageShip_60 rfl rfl ?_
      refine z_getfield F fl_X10_12 dX10_salvageShip_61 (s2.get r0 (fun q => by have := q.1; omega)) (by decide) rfl ?_
      refine z_dup F dX10_salvageShip_64 rfl ?_
      refine z_getfield F fl_X10_287 dX10_salvageShip_65 r2.ob (by decide) rfl ?_
      refine z_iload_n F dX10_salvageShip_68 rfl rfl ?_
      refine zi_iadd F dX10_salvageShip_69 ?_
      refine z_putfield F fp_X10_287 dX10_salvageShip_70 (zmut_of F (by omega)) r2.ob (by decide) (Nat.le_of_ble_eq_true rfl) ⟨rfl, rfl⟩ ?_
      refine z_iload_n F dX10_salvageShip_73 rfl rfl ?_
      exact Z.widen (by decide) (by decide) (z_ireturn F rfl B dX10_salvageShip_74 (by rw [zBo_n] at c25; rw [e0, if_pos c25]; exact ⟨rfl, R.coast (s2.set ⟨by omega, by omega⟩) ⟨σ2, τ2, r2.putO _ rfl rfl rfl rfl⟩⟩))
    · refine z_aload_n F dX10_salvageShip_28 rfl rfl ?_
      refine zi_bipush F dX10_salvageShip_29 (by decide) ?_
      refine z_iload_n F dX10_salvageShip_31 rfl rfl ?_
      refine z_callV F B cal_yX10_deny (m_deny R) dX10_salvageShip_32 rfl rfl (Nat.le_of_ble_eq_true rfl) (by decide) (by decide) (by decide) ml_X10_414 im_yX10_deny se_yX10_deny r0 (by decide) rfl rfl (fun v hX qX => ?_) (fun C h1 q => q.elim)
      obtain ⟨rfl, R1⟩ := qX
      exact Z.widen (by decide) (by decide) (z_ireturn F rfl B dX10_salvageShip_35 (by rw [zBo_z] at c25; rw [e0, if_neg (by rw [c25]; decide)]; exact ⟨rfl, R1⟩))
  · refine z_aload_n F dX10_salvageShip_0 rfl rfl ?_
    refine z_getfield F fl_X10_12 dX10_salvageShip_1 r0 (by decide) rfl ?_
    refine z_iload_n F dX10_salvageShip_4 rfl rfl ?_
    refine z_callV F B cal_yX2_hasShip (m_hasShip r1 hO hl) dX10_salvageShip_5 rfl rfl (Nat.le_of_ble_eq_true rfl) (by decide) (by decide) (by decide) ml_X10_433 im_yX2_hasShip se_yX2_hasShip r1.ob (by decide) rfl rfl (fun v hX qX => ?_) (fun C h1 q => q.elim)
    obtain ⟨rfl, qX⟩ := qX
    rw [qX]
    clear qX hX
    rw [if_neg hv]
    refine zi_if_ne (tgt := 13) F dX10_salvageShip_8 (by decide) (by first | omega | (dsimp only at *; omega)) (fun c8 => False.elim (by first | omega | (dsimp only at *; omega))) (fun c8 => ?_)
    refine zi_iconst F dX10_salvageShip_11 ?_
    exact Z.widen (by decide) (by decide) (z_ireturn F rfl B dX10_salvageShip_12 (by have e : f_sv S.1 l = (-1, S.1, none) := (by unfold f_sv; rw [if_neg hv]); rw [e]; exact ⟨rfl, R⟩))
theorem m_launchShip {x y d : Int} (hx : zI32 x) (hy : zI32 y) (hd : zI32 d) (R : zRB o S h) (hO : zOk K S.1) (hK : K < 1800000) : zMet yX10_launchShip cX10_launchShip 7 (some .int) 4 0 0 [.ref o, .int (iI x), .int (iI y), .int (iI d)] h (fun v h' => v = some (.int (iI (f_ls S.1 x y d).1)) ∧ zRB o (f_put S (f_ls S.1 x y d)) h') (fun _ _ => False) := by
  refine zMet.go (by decide +kernel) (Nat.le_of_ble_eq_true rfl) ?_
  intro X F B hnl hR hn
  have z := R.1
  have r0 := R.2.1
  obtain ⟨σ, τ, r1⟩ := R.2.2.1
  have hd1 := hd.1
  have hd2 := hd.2
  have hl6 := hO.2.2.2.2.1
  by_cases hv : 0 ≤ x ∧ x < 8 ∧ 0 ≤ y ∧ y < 8
  · have hgo : 1 ≤ d ∧ d ≤ 9 → Z X 0 0 24 [(0, .ref o), (1, .int (iI x)), (2, .int (iI y)), (3, .int (iI d))] [] h := by
      intro hd9
      refine z_aload_n F dX10_launchShip_24 rfl rfl ?_
      refine z_getfield F fl_X10_12 dX10_launchShip_25 r0 (by decide) rfl ?_
      refine z_getfield F fl_X10_222 dX10_launchShip_28 r1.ob (by decide) rfl ?_
      refine z_istore F dX10_launchShip_31 rfl (hnl _ rfl) ?_
      refine z_iload F dX10_launchShip_33 rfl ?_
      refine zi_bipush F dX10_launchShip_35 (by decide) ?_
      refine zi_icmp_lt (tgt := 48) F dX10_launchShip_37 (by decide) (by omega) (fun c37 => ?_) (fun c37 => ?_); rotate_left
      · refine z_aload_n F dX10_launchShip_40 rfl rfl ?_
        refine zi_iconst F dX10_launchShip_41 ?_
        refine zi_bipush F dX10_launchShip_42 (by decide) ?_
        refine z_callV F B cal_yX10_deny (m_deny R) dX10_launchShip_44 rfl rfl (Nat.le_of_ble_eq_true rfl) (by decide) (by decide) (by decide) ml_X10_414 im_yX10_deny se_yX10_deny r0 (by decide) rfl rfl (fun v hX qX => ?_) (fun C h1 q => q.elim)
        obtain ⟨rfl, R1⟩ := qX
        exact Z.widen (by decide) (by decide) (z_ireturn F rfl B dX10_launchShip_47 (by have e : f_ls S.1 x y d = (-3, S.1, some (1, 6)) := (by unfold f_ls; rw [if_pos hv, if_pos hd9, if_pos (by omega)]); rw [e]; exact ⟨rfl, R1⟩))
      refine z_iload_n F dX10_launchShip_48 rfl rfl ?_
      refine zi_bipush F dX10_launchShip_49 (by decide) ?_
      refine zi_imul F dX10_launchShip_51 ?_
      refine z_iload_n F dX10_launchShip_52 rfl rfl ?_
      refine zi_iadd F dX10_launchShip_53 ?_
      rw [show (y * 8 + x : Int) = (((8 * y + x).toNat : Nat) : Int) by omega]
      refine z_istore F dX10_launchShip_54 rfl (hnl _ rfl) ?_
      have hc : (8 * y + x).toNat < 64 := by omega
      have e0 : f_ls S.1 x y d = if (f_wa S.1 (8 * y + x).toNat : Int) < d then ((-3, S.1, some (3, (f_wa S.1 (8 * y + x).toNat : Int))) : zCh) else (((S.1.2.2.2.1.2 : Nat), (S.1.1, S.1.2.1, zup S.1.2.2.1 S.1.2.2.2.1.2 ((8 * y + x).toNat, d.toNat, none, false, 0), (S.1.2.2.2.1.1, S.1.2.2.2.1.2 + 1), S.1.2.2.2.2), none) : zCh) := by unfold f_ls; rw [if_pos hv, if_pos hd9, if_neg (by omega)]
      generalize (8 * y + x).toNat = c at hc e0 ⊢
      have hfd := f_dep_le hO (c : Int)
      have hft := f_tide_le S.1.2.2.2.2.1
      have hwa : f_wa S.1 (c : Int) ≤ 11 := by unfold f_wa f_ww; split <;> omega
      refine z_aload_n F dX10_launchShip_56 rfl rfl ?_
      refine z_getfield F fl_X10_12 dX10_launchShip_57 r0 (by decide) rfl ?_
      refine z_iload F dX10_launchShip_60 rfl ?_
      refine z_callV F B cal_yX2_waterOf (m_waterOf (c := (c : Int)) r1 hO (by omega) (by omega)) dX10_launchShip_62 rfl rfl (Nat.le_of_ble_eq_true rfl) (by decide) (by decide) (by decide) ml_X10_81 im_yX2_waterOf se_yX2_waterOf r1.ob (by decide) rfl rfl (fun v hX qX => ?_) (fun C h1 q => q.elim)
      obtain ⟨rfl, qX⟩ := qX
      rw [qX]
      clear qX hX
      refine z_istore F dX10_launchShip_65 rfl (hnl _ rfl) ?_
      refine z_iload F dX10_launchShip_67 rfl ?_
      refine z_iload_n F dX10_launchShip_69 rfl rfl ?_
      refine zi_icmp_ge (tgt := 81) F dX10_launchShip_70 (by decide) (by first | omega | (dsimp only at *; omega)) (fun c70 => ?_) (fun c70 => ?_)
      · refine z_aload_n F dX10_launchShip_81 rfl rfl ?_
        refine z_getfield F fl_X10_12 dX10_launchShip_82 r0 (by decide) rfl ?_
        refine z_getfield F fl_X10_301 dX10_launchShip_85 r1.ob (by decide) rfl ?_
        refine z_iload F dX10_launchShip_88 rfl ?_
        refine zi_aaload (i := S.1.2.2.2.1.2) F dX10_launchShip_90 r1.sa (by decide) (by decide) rfl rfl (by omega) (zar_get (by omega)) rfl ?_
        refine z_iload F dX10_launchShip_91 rfl ?_
        refine z_iload_n F dX10_launchShip_93 rfl rfl ?_
        have hln := r1.si (i := S.1.2.2.2.1.2) (by omega)
        have pt := r1.pt.1 S.1.2.2.2.1.2 (by omega)
        rw [show iI d = iI ((d.toNat : Nat) : Int) by congr 1; omega]
        refine z_callV F B cal_yX8_start (m_sstart (by omega) hln) dX10_launchShip_94 rfl rfl (Nat.le_of_ble_eq_true rfl) (by decide) (by decide) (by decide) ml_X10_430 im_yX8_start se_yX8_start hln (by decide) rfl rfl (fun v hX qX => ?_) (fun C h1 q => q.elim)
        obtain ⟨rfl, rfl⟩ := qX
        have r2 := r1.putS (i := S.1.2.2.2.1.2) (by omega) (c, d.toNat, none, false, 0) rfl
        refine z_aload_n F dX10_launchShip_97 rfl rfl ?_
        refine z_getfield F fl_X10_12 dX10_launchShip_98 (zkeep r0 (by omega)) (by decide) rfl ?_
        refine z_dup F dX10_launchShip_101 rfl ?_
        refine z_getfield F fl_X10_222 dX10_launchShip_102 r2.ob (by decide) rfl ?_
        refine zi_iconst F dX10_launchShip_105 ?_
        refine zi_iadd F dX10_launchShip_106 ?_
        refine z_putfield F fp_X10_222 dX10_launchShip_107 (zmut_of F (by omega)) r2.ob (by decide) (Nat.le_of_ble_eq_true rfl) ⟨rfl, rfl⟩ ?_
        refine z_iload F dX10_launchShip_110 rfl ?_
        exact Z.widen (by decide) (by decide) (z_ireturn F rfl B dX10_launchShip_112 (by rw [e0, if_neg (by omega)]; exact ⟨rfl, R.coast ((zSame.rf.set ⟨by omega, by omega⟩).set ⟨by omega, by omega⟩) ⟨σ, τ, r2.putO (S.1.1, S.1.2.1, zup S.1.2.2.1 S.1.2.2.2.1.2 (c, d.toNat, none, false, 0), (S.1.2.2.2.1.1, S.1.2.2.2.1.2 + 1), S.1.2.2.2.2) rfl rfl rfl rfl⟩⟩))
      · refine z_aload_n F dX10_launchShip_73 rfl rfl ?_
        refine zi_iconst F dX10_launchShip_74 ?_
        refine z_iload F dX10_launchShip_75 rfl ?_
        refine z_callV F B cal_yX10_deny (m_deny R) dX10_launchShip_77 rfl rfl (Nat.le_of_ble_eq_true rfl) (by decide) (by decide) (by decide) ml_X10_414 im_yX10_deny se_yX10_deny r0 (by decide) rfl rfl (fun v hX qX => ?_) (fun C h1 q => q.elim)
        obtain ⟨rfl, R1⟩ := qX
        exact Z.widen (by decide) (by decide) (z_ireturn F rfl B dX10_launchShip_80 (by rw [e0, if_pos (by omega)]; exact ⟨rfl, R1⟩))
    refine z_iload_n F dX10_launchShip_0 rfl rfl ?_
    refine z_iload_n F dX10_launchShip_1 rfl rfl ?_
    refine z_callS F B cal_yX10_isCell (m_isCell hx hy _) dX10_launchShip_2 rfl rfl (Nat.le_of_ble_eq_true rfl) (by decide) (by decide) (by decide) ml_X10_410 st_yX10_isCell (fun v hX qX => ?_) (fun C h1 q => q.elim)
    obtain ⟨rfl, qX⟩ := qX
    rw [qX]
    clear qX hX
    rw [if_pos hv]
    refine zi_if_ne (tgt := 10) F dX10_launchShip_5 (by decide) (by first | omega | (dsimp only at *; omega)) (fun c5 => ?_) (fun c5 => False.elim (by first | omega | (dsimp only at *; omega)))
    refine z_iload_n F dX10_launchShip_10 rfl rfl ?_
    refine zi_iconst F dX10_launchShip_11 ?_
    refine zi_icmp_lt (tgt := 21) F dX10_launchShip_12 (by decide) (by first | omega | (dsimp only at *; omega)) (fun c12 => ?_) (fun c12 => ?_)
    · refine zi_bipush F dX10_launchShip_21 (by decide) ?_
      exact Z.widen (by decide) (by decide) (z_ireturn F rfl B dX10_launchShip_23 (by have e : f_ls S.1 x y d = (-2, S.1, none) := (by unfold f_ls; rw [if_pos hv, if_neg (by omega)]); rw [e]; exact ⟨rfl, R⟩))
    · refine z_iload_n F dX10_launchShip_15 rfl rfl ?_
      refine zi_bipush F dX10_launchShip_16 (by decide) ?_
      refine zi_icmp_le (tgt := 24) F dX10_launchShip_18 (by decide) (by first | omega | (dsimp only at *; omega)) (fun c18 => ?_) (fun c18 => ?_)
      · exact Z.keys [0, 1, 2, 3] rfl (hgo (by omega))
      · refine zi_bipush F dX10_launchShip_21 (by decide) ?_
        exact Z.widen (by decide) (by decide) (z_ireturn F rfl B dX10_launchShip_23 (by have e : f_ls S.1 x y d = (-2, S.1, none) := (by unfold f_ls; rw [if_pos hv, if_neg (by omega)]); rw [e]; exact ⟨rfl, R⟩))
  · refine z_iload_n F dX10_launchShip_0 rfl rfl ?_
    refine z_iload_n F dX10_launchShip_1 rfl rfl ?_
    refine z_callS F B cal_yX10_isCell (m_isCell hx hy _) dX10_launchShip_2 rfl rfl (Nat.le_of_ble_eq_true rfl) (by decide) (by decide) (by decide) ml_X10_410 st_yX10_isCell (fun v hX qX => ?_) (fun C h1 q => q.elim)
    obtain ⟨rfl, qX⟩ := qX
    rw [qX]
    clear qX hX
    rw [if_neg hv]
    refine zi_if_ne (tgt := 10) F dX10_launchShip_5 (by decide) (by first | omega | (dsimp only at *; omega)) (fun c5 => False.elim (by first | omega | (dsimp only at *; omega))) (fun c5 => ?_)
    refine zi_iconst F dX10_launchShip_8 ?_
    exact Z.widen (by decide) (by decide) (z_ireturn F rfl B dX10_launchShip_9 (by have e : f_ls S.1 x y d = (-1, S.1, none) := (by unfold f_ls; rw [if_neg hv]); rw [e]; exact ⟨rfl, R⟩))
theorem m_changeGoal {l x y : Int} (hl : zI32 l) (hx : zI32 x) (hy : zI32 y) (R : zRB o S h) (hO : zOk K S.1) (hK : K < 1800000) : zMet yX10_changeGoal cX10_changeGoal 7 (some .int) 4 0 0 [.ref o, .int (iI l), .int (iI x), .int (iI y)] h (fun v h' => v = some (.int (iI (f_cg S.1 l x y).1)) ∧ zRB o (f_put S (f_cg S.1 l x y)) h') (fun _ _ => False) := by
  refine zMet.go (by decide +kernel) (Nat.le_of_ble_eq_true rfl) ?_
  intro X F B hnl hR hn
  have z := R.1
  have r0 := R.2.1
  obtain ⟨σ, τ, r1⟩ := R.2.2.1
  have hl6 := hO.2.2.2.2.1
  have hm := hO.2.2.2.2.2.1
  by_cases hvl : 0 ≤ l ∧ l < S.1.2.2.2.1.2
  · obtain ⟨i, rfl⟩ : ∃ i : Nat, l = i := ⟨l.toNat, by omega⟩
    have hi6 : i < 6 := by omega
    have hli := r1.si hi6
    have pt := r1.pt.1 i hi6
    have sk := hO.2.2.1 i
    by_cases hv : 0 ≤ x ∧ x < 8 ∧ 0 ≤ y ∧ y < 8
    · have hgo : (S.1.2.2.1 i).2.2.2.1 = false → Z X 0 0 47 [(4, .ref (τ i)), (0, .ref o), (1, .int (iI i)), (2, .int (iI x)), (3, .int (iI y))] [] h := by
        intro hwr
        have e0 : f_cg S.1 i x y = match f_ln (f_opF S.1 (f_tide S.1.2.2.2.2.1) (S.1.2.2.1 i).2.1) (S.1.2.2.1 i).1 (8 * y + x).toNat with | none => ((-3, S.1, some (4, (i : Int))) : zCh) | some k => ((k : Int), (S.1.1, S.1.2.1, zup S.1.2.2.1 i (sgo (S.1.2.2.1 i) (if (8 * y + x).toNat = (S.1.2.2.1 i).1 then none else some (8 * y + x).toNat)), S.1.2.2.2), none) := by unfold f_cg; rw [if_pos ⟨hvl, hv⟩, if_neg (by show ¬ (S.1.2.2.1 i).2.2.2.1 = true; rw [hwr]; decide)]; rfl
        have hc : (8 * y + x).toNat < 64 := by omega
        have hlb := f_ln_b (op := f_opF S.1 (f_tide S.1.2.2.2.2.1) (S.1.2.2.1 i).2.1) sk.1 (8 * y + x).toNat
        obtain ⟨op, ln, fc, qu, W⟩ := R.2.2.2.2.2.1
        refine z_iload_n F dX10_changeGoal_47 rfl rfl ?_
        refine zi_bipush F dX10_changeGoal_48 (by decide) ?_
        refine zi_imul F dX10_changeGoal_50 ?_
        refine z_iload_n F dX10_changeGoal_51 rfl rfl ?_
        refine zi_iadd F dX10_changeGoal_52 ?_
        rw [show (y * 8 + x : Int) = (((8 * y + x).toNat : Nat) : Int) by omega]
        refine z_istore F dX10_changeGoal_53 rfl (hnl _ rfl) ?_
        generalize (8 * y + x).toNat = c at hc e0 hlb ⊢
        refine z_aload_n F dX10_changeGoal_55 rfl rfl ?_
        refine z_getfield F fl_X10_29 dX10_changeGoal_56 r0 (by decide) rfl ?_
        refine z_aload_n F dX10_changeGoal_59 rfl rfl ?_
        refine z_getfield F fl_X10_12 dX10_changeGoal_60 r0 (by decide) rfl ?_
        refine z_aload_n F dX10_changeGoal_63 rfl rfl ?_
        refine z_getfield F fl_X10_12 dX10_changeGoal_64 r0 (by decide) rfl ?_
        refine z_getfield F fl_X10_84 dX10_changeGoal_67 r1.ob (by decide) rfl ?_
        refine z_callS F B cal_yX10_tideAt (m_tideAt _ (by omega) _) dX10_changeGoal_70 rfl rfl (Nat.le_of_ble_eq_true rfl) (by decide) (by decide) (by decide) ml_X10_87 st_yX10_tideAt (fun v hX qX => ?_) (fun C h1 q => q.elim)
        obtain ⟨rfl, qX⟩ := qX
        rw [qX]
        clear qX hX
        refine z_aload F dX10_changeGoal_73 rfl ?_
        refine z_getfield F fl_X10_246 dX10_changeGoal_75 hli (by decide) rfl ?_
        refine z_callV F B cal_yX9_openFor (m_openFor (by omega) (by omega) r1 W hO (f_tide_le _) sk.2.1) dX10_changeGoal_78 rfl rfl (Nat.le_of_ble_eq_true rfl) (by decide) (by decide) (by decide) ml_X10_249 im_yX9_openFor se_yX9_openFor W.1 (by decide) rfl rfl (fun v hX qX => ?_) (fun C h1 q => q.elim)
        obtain ⟨rfl, W1, s1⟩ := qX
        refine z_aload_n F dX10_changeGoal_81 rfl rfl ?_
        refine z_getfield F fl_X10_29 dX10_changeGoal_82 (s1.get r0 (fun q => by have := q.1; omega)) (by decide) rfl ?_
        refine z_aload F dX10_changeGoal_85 rfl ?_
        refine z_getfield F fl_X10_229 dX10_changeGoal_87 (s1.get hli (fun q => by have := q.1; omega)) (by decide) rfl ?_
        refine z_callV F B cal_yX9_searchFrom (m_searchFrom (by omega) sk.1 W1) dX10_changeGoal_90 rfl rfl (Nat.le_of_ble_eq_true rfl) (by decide) (by decide) (by decide) ml_X10_117 im_yX9_searchFrom se_yX9_searchFrom W1.1 (by decide) rfl rfl (fun v hX qX => ?_) (fun C h1 q => q.elim)
        obtain ⟨rfl, W2, s2⟩ := qX
        rw [f_ln_eq sk.1] at W2
        have s3 := s1.tr s2
        have R3 := R.ways s3 ⟨_, _, _, _, W2⟩
        have r03 := R3.2.1
        have r13 := r1.same s3 (fun a g1 g2 q => by have := q.1; omega)
        have hli3 := r13.si hi6
        refine z_aload_n F dX10_changeGoal_93 rfl rfl ?_
        refine z_getfield F fl_X10_29 dX10_changeGoal_94 r03 (by decide) rfl ?_
        refine z_iload F dX10_changeGoal_97 rfl ?_
        refine z_callV F B cal_yX9_lengthTo (m_lengthTo (by omega) W2) dX10_changeGoal_99 rfl rfl (Nat.le_of_ble_eq_true rfl) (by decide) (by decide) (by decide) ml_X10_121 im_yX9_lengthTo se_yX9_lengthTo W2.1 (by decide) rfl rfl (fun v hX qX => ?_) (fun C h1 q => q.elim)
        obtain ⟨rfl, qX⟩ := qX
        rw [qX]
        clear qX hX
        rw [show f_len (f_ln (f_opF S.1 (f_tide S.1.2.2.2.2.1) (S.1.2.2.1 i).2.1) (S.1.2.2.1 i).1) (c : Int) = zGo (f_ln (f_opF S.1 (f_tide S.1.2.2.2.2.1) (S.1.2.2.1 i).2.1) (S.1.2.2.1 i).1 c) from if_pos (by omega)]
        cases hk : f_ln (f_opF S.1 (f_tide S.1.2.2.2.2.1) (S.1.2.2.1 i).2.1) (S.1.2.2.1 i).1 c with
        | none =>
          rw [hk] at e0
          rw [show zGo none = -1 from rfl]
          refine z_istore F dX10_changeGoal_102 rfl (hnl _ rfl) ?_
          refine z_iload F dX10_changeGoal_104 rfl ?_
          refine zi_iconst F dX10_changeGoal_106 ?_
          refine zi_icmp_ne (tgt := 117) F dX10_changeGoal_107 (by decide) (by first | omega | (dsimp only at *; omega)) (fun c107 => False.elim (by first | omega | (dsimp only at *; omega))) (fun c107 => ?_)
          refine z_aload_n F dX10_changeGoal_110 rfl rfl ?_
          refine zi_iconst F dX10_changeGoal_111 ?_
          refine z_iload_n F dX10_changeGoal_112 rfl rfl ?_
          refine z_callV F B cal_yX10_deny (m_deny R3) dX10_changeGoal_113 rfl rfl (Nat.le_of_ble_eq_true rfl) (by decide) (by decide) (by decide) ml_X10_414 im_yX10_deny se_yX10_deny r03 (by decide) rfl rfl (fun v hX qX => ?_) (fun C h1 q => q.elim)
          obtain ⟨rfl, R4⟩ := qX
          exact Z.widen (by decide) (by decide) (z_ireturn F rfl B dX10_changeGoal_116 (by rw [e0]; exact ⟨rfl, R4⟩))
        | some k =>
          rw [hk] at e0 hlb
          rw [show zGo (some k) = (k : Int) from rfl]
          replace hlb : -1 ≤ (k : Int) ∧ (k : Int) < 64 := hlb
          refine z_istore F dX10_changeGoal_102 rfl (hnl _ rfl) ?_
          refine z_iload F dX10_changeGoal_104 rfl ?_
          refine zi_iconst F dX10_changeGoal_106 ?_
          refine zi_icmp_ne (tgt := 117) F dX10_changeGoal_107 (by decide) (by first | omega | (dsimp only at *; omega)) (fun c107 => ?_) (fun c107 => False.elim (by first | omega | (dsimp only at *; omega)))
          refine z_aload F dX10_changeGoal_117 rfl ?_
          refine z_iload F dX10_changeGoal_119 rfl ?_
          refine z_aload F dX10_changeGoal_121 rfl ?_
          refine z_getfield F fl_X10_229 dX10_changeGoal_123 hli3 (by decide) rfl ?_
          refine zi_icmp_ne (tgt := 133) F dX10_changeGoal_126 (by decide) (by first | omega | (dsimp only at *; omega)) (fun c126 => ?_) (fun c126 => ?_)
          · refine z_iload F dX10_changeGoal_133 rfl ?_
            refine z_putfield F fp_X10_378 dX10_changeGoal_135 (zmut_of F (by omega)) hli3 (by decide) (Nat.le_of_ble_eq_true rfl) ⟨rfl, rfl⟩ ?_
            refine z_iload F dX10_changeGoal_138 rfl ?_
            exact Z.widen (by decide) (by decide) (z_ireturn F rfl B dX10_changeGoal_140 (by rw [e0]; first | (rw [if_pos (by omega)]; exact ⟨rfl, R3.coast (zSame.rf.set ⟨by omega, by omega⟩) ⟨σ, τ, r13.putS hi6 (sgo (S.1.2.2.1 i) none) rfl⟩⟩) | (rw [if_neg (by omega)]; exact ⟨rfl, R3.coast (zSame.rf.set ⟨by omega, by omega⟩) ⟨σ, τ, r13.putS hi6 (sgo (S.1.2.2.1 i) (some c)) rfl⟩⟩)))
          · refine zi_iconst F dX10_changeGoal_129 ?_
            refine z_goto (tgt := 135) F dX10_changeGoal_130 (by decide) ?_
            refine z_putfield F fp_X10_378 dX10_changeGoal_135 (zmut_of F (by omega)) hli3 (by decide) (Nat.le_of_ble_eq_true rfl) ⟨rfl, rfl⟩ ?_
            refine z_iload F dX10_changeGoal_138 rfl ?_
            exact Z.widen (by decide) (by decide) (z_ireturn F rfl B dX10_changeGoal_140 (by rw [e0]; first | (rw [if_pos (by omega)]; exact ⟨rfl, R3.coast (zSame.rf.set ⟨by omega, by omega⟩) ⟨σ, τ, r13.putS hi6 (sgo (S.1.2.2.1 i) none) rfl⟩⟩) | (rw [if_neg (by omega)]; exact ⟨rfl, R3.coast (zSame.rf.set ⟨by omega, by omega⟩) ⟨σ, τ, r13.putS hi6 (sgo (S.1.2.2.1 i) (some c)) rfl⟩⟩)))
      refine z_aload_n F dX10_changeGoal_0 rfl rfl ?_
      refine z_getfield F fl_X10_12 dX10_changeGoal_1 r0 (by decide) rfl ?_
      refine z_iload_n F dX10_changeGoal_4 rfl rfl ?_
      refine z_callV F B cal_yX2_hasShip (m_hasShip r1 hO hl) dX10_changeGoal_5 rfl rfl (Nat.le_of_ble_eq_true rfl) (by decide) (by decide) (by decide) ml_X10_433 im_yX2_hasShip se_yX2_hasShip r1.ob (by decide) rfl rfl (fun v hX qX => ?_) (fun C h1 q => q.elim)
      obtain ⟨rfl, qX⟩ := qX
      rw [qX]
      clear qX hX
      rw [if_pos hvl]
      refine zi_if_eq (tgt := 19) F dX10_changeGoal_8 (by decide) (by first | omega | (dsimp only at *; omega)) (fun c8 => False.elim (by first | omega | (dsimp only at *; omega))) (fun c8 => ?_)
      refine z_iload_n F dX10_changeGoal_11 rfl rfl ?_
      refine z_iload_n F dX10_changeGoal_12 rfl rfl ?_
      refine z_callS F B cal_yX10_isCell (m_isCell hx hy _) dX10_changeGoal_13 rfl rfl (Nat.le_of_ble_eq_true rfl) (by decide) (by decide) (by decide) ml_X10_410 st_yX10_isCell (fun v hX qX => ?_) (fun C h1 q => q.elim)
      obtain ⟨rfl, qX⟩ := qX
      rw [qX]
      clear qX hX
      rw [if_pos hv]
      refine zi_if_ne (tgt := 21) F dX10_changeGoal_16 (by decide) (by first | omega | (dsimp only at *; omega)) (fun c16 => ?_) (fun c16 => False.elim (by first | omega | (dsimp only at *; omega)))
      refine z_aload_n F dX10_changeGoal_21 rfl rfl ?_
      refine z_getfield F fl_X10_12 dX10_changeGoal_22 r0 (by decide) rfl ?_
      refine z_getfield F fl_X10_301 dX10_changeGoal_25 r1.ob (by decide) rfl ?_
      refine z_iload_n F dX10_changeGoal_28 rfl rfl ?_
      refine zi_aaload (i := i) F dX10_changeGoal_29 r1.sa (by decide) (by decide) rfl rfl (by omega) (zar_get (by omega)) rfl ?_
      refine z_astore F dX10_changeGoal_30 rfl (hnl _ rfl) ?_
      refine z_aload F dX10_changeGoal_32 rfl ?_
      refine z_getfield F fl_X10_236 dX10_changeGoal_34 hli (by decide) rfl ?_
      refine zi_if_eq (tgt := 47) F dX10_changeGoal_37 (by decide) (zBo_b _) (fun c37 => ?_) (fun c37 => ?_)
      · exact Z.keys [4, 0, 1, 2, 3] rfl (hgo (by rw [zBo_z] at c37; exact c37))
      · refine z_aload_n F dX10_changeGoal_40 rfl rfl ?_
        refine zi_iconst F dX10_changeGoal_41 ?_
        refine z_iload_n F dX10_changeGoal_42 rfl rfl ?_
        refine z_callV F B cal_yX10_deny (m_deny R) dX10_changeGoal_43 rfl rfl (Nat.le_of_ble_eq_true rfl) (by decide) (by decide) (by decide) ml_X10_414 im_yX10_deny se_yX10_deny r0 (by decide) rfl rfl (fun v hX qX => ?_) (fun C h1 q => q.elim)
        obtain ⟨rfl, R1⟩ := qX
        exact Z.widen (by decide) (by decide) (z_ireturn F rfl B dX10_changeGoal_46 (by have e : f_cg S.1 i x y = (-3, S.1, some (5, (i : Int))) := (by rw [zBo_n] at c37; unfold f_cg; rw [if_pos ⟨hvl, hv⟩, if_pos (show (S.1.2.2.1 (i : Int).toNat).2.2.2.1 = true from c37)]); rw [e]; exact ⟨rfl, R1⟩))
    · refine z_aload_n F dX10_changeGoal_0 rfl rfl ?_
      refine z_getfield F fl_X10_12 dX10_changeGoal_1 r0 (by decide) rfl ?_
      refine z_iload_n F dX10_changeGoal_4 rfl rfl ?_
      refine z_callV F B cal_yX2_hasShip (m_hasShip r1 hO hl) dX10_changeGoal_5 rfl rfl (Nat.le_of_ble_eq_true rfl) (by decide) (by decide) (by decide) ml_X10_433 im_yX2_hasShip se_yX2_hasShip r1.ob (by decide) rfl rfl (fun v hX qX => ?_) (fun C h1 q => q.elim)
      obtain ⟨rfl, qX⟩ := qX
      rw [qX]
      clear qX hX
      rw [if_pos hvl]
      refine zi_if_eq (tgt := 19) F dX10_changeGoal_8 (by decide) (by first | omega | (dsimp only at *; omega)) (fun c8 => False.elim (by first | omega | (dsimp only at *; omega))) (fun c8 => ?_)
      refine z_iload_n F dX10_changeGoal_11 rfl rfl ?_
      refine z_iload_n F dX10_changeGoal_12 rfl rfl ?_
      refine z_callS F B cal_yX10_isCell (m_isCell hx hy _) dX10_changeGoal_13 rfl rfl (Nat.le_of_ble_eq_true rfl) (by decide) (by decide) (by decide) ml_X10_410 st_yX10_isCell (fun v hX qX => ?_) (fun C h1 q => q.elim)
      obtain ⟨rfl, qX⟩ := qX
      rw [qX]
      clear qX hX
      rw [if_neg hv]
      refine zi_if_ne (tgt := 21) F dX10_changeGoal_16 (by decide) (by first | omega | (dsimp only at *; omega)) (fun c16 => False.elim (by first | omega | (dsimp only at *; omega))) (fun c16 => ?_)
      refine zi_iconst F dX10_changeGoal_19 ?_
      exact Z.widen (by decide) (by decide) (z_ireturn F rfl B dX10_changeGoal_20 (by have e : f_cg S.1 i x y = (-1, S.1, none) := (by unfold f_cg; rw [if_neg (fun q => hv q.2)]); rw [e]; exact ⟨rfl, R⟩))
  · refine z_aload_n F dX10_changeGoal_0 rfl rfl ?_
    refine z_getfield F fl_X10_12 dX10_changeGoal_1 r0 (by decide) rfl ?_
    refine z_iload_n F dX10_changeGoal_4 rfl rfl ?_
    refine z_callV F B cal_yX2_hasShip (m_hasShip r1 hO hl) dX10_changeGoal_5 rfl rfl (Nat.le_of_ble_eq_true rfl) (by decide) (by decide) (by decide) ml_X10_433 im_yX2_hasShip se_yX2_hasShip r1.ob (by decide) rfl rfl (fun v hX qX => ?_) (fun C h1 q => q.elim)
    obtain ⟨rfl, qX⟩ := qX
    rw [qX]
    clear qX hX
    rw [if_neg hvl]
    refine zi_if_eq (tgt := 19) F dX10_changeGoal_8 (by decide) (by first | omega | (dsimp only at *; omega)) (fun c8 => ?_) (fun c8 => False.elim (by first | omega | (dsimp only at *; omega)))
    refine zi_iconst F dX10_changeGoal_19 ?_
    exact Z.widen (by decide) (by decide) (z_ireturn F rfl B dX10_changeGoal_20 (by have e : f_cg S.1 l x y = (-1, S.1, none) := (by unfold f_cg; rw [if_neg (fun q => hvl q.1)]); rw [e]; exact ⟨rfl, R⟩))
end
