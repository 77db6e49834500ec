/-! minutes pass; what is settled; undo, snapshots; the public changes -/
theorem zOk.mono {K K' : Nat} {C : zCo} (h : zOk K C) (hk : K ≤ K') : zOk K' C := by
  obtain ⟨h1, h2, h3, h4, h5, h6, h7, h8, h9, h10⟩ := h
  refine ⟨h1, fun i => ?_, fun i => ?_, h4, h5, by omega, by omega, by omega, by omega, by omega⟩
  · have := h2 i
    exact ⟨this.1, this.2.1, this.2.2.1, this.2.2.2.1, this.2.2.2.2.1, by omega⟩
  · have := h3 i
    exact ⟨this.1, this.2.1, this.2.2.1, by omega⟩
theorem zOk.ships {K : Nat} {C : zCo} {L : Nat → zSp} (h : zOk K C) (hL : ∀ j, zSk K (L j)) : zOk K (C.1, C.2.1, L, C.2.2.2) := ⟨h.1, h.2.1, hL, h.2.2.2⟩
def f_tick (C : zCo) : zCo := (C.1, C.2.1, C.2.2.1, C.2.2.2.1, (C.2.2.2.2.1 + 1, C.2.2.2.2.2))
theorem f_tick_ok {K : Nat} {C : zCo} (h : zOk K C) : zOk (K + 1) (f_tick C) := by
  obtain ⟨h1, h2, h3, h4, h5, h6, h7⟩ := h.mono (Nat.le_succ K)
  exact ⟨h1, h2, h3, h4, h5, by have := h.2.2.2.2.2.1; show C.2.2.2.2.1 + 1 ≤ K + 1; omega, h7⟩
def f_mvC (C : zCo) : zCo := (C.1, C.2.1, f_mv C C.2.2.2.1.2, C.2.2.2)
theorem f_mvC_ok {K : Nat} {C : zCo} (h : zOk K C) : zOk K (f_mvC C) := h.ships fun j => by
  have := h.2.2.1 j
  unfold f_mv
  split
  · exact f_mv1_ok this
  · exact this
theorem f_wk_ok {K : Nat} {C : zCo} (h : zOk K C) : zOk (K + 6) (f_wk C) := f_wkC_ok h (fun j => by
  have := h.2.2.1 j
  split
  · exact f_wk1_ok this
  · exact this) (Nat.le_trans (zcnt_le _ _) h.2.2.2.2.1)
theorem f_sg_ok {K : Nat} {C : zCo} (h : zOk K C) : zOk (K + 36) (f_sg C) := by
  have hl6 := h.2.2.2.1
  have hn6 := h.2.2.2.2.1
  refine f_sgC_ok h (fun l => ?_) (fun j => ?_) ?_
  · split
    · exact Nat.le_trans (zcnt_le _ _) hn6
    · omega
  · have := h.2.2.1 j
    split
    · exact f_sg1_ok this
    · exact ⟨this.1, this.2.1, this.2.2.1, Nat.le_succ_of_le this.2.2.2⟩
  · have := zsum_le (f := f_sgn C) (M := 6) (fun i => by
      unfold f_sgn f_lsw
      split
      · omega
      · exact Nat.le_trans (zcnt_le _ _) hl6) C.2.2.2.1.2
    omega
theorem f_min_eq (C : zCo) : f_min C = f_sg (f_wk (f_mvC (f_tick C))) := rfl
theorem f_min_ok {K : Nat} {C : zCo} (h : zOk K C) : zOk (K + 43) (f_min C) := by
  rw [f_min_eq]
  exact (f_sg_ok (f_wk_ok (f_mvC_ok (f_tick_ok h)))).mono (by omega)
theorem f_mins_ok : ∀ {n K : Nat} {C : zCo}, zOk K C → zOk (K + 43 * n) (f_mins n C)
  | 0, _, _, h => h
  | n + 1, K, C, h => (f_mins_ok (n := n) (f_min_ok h)).mono (by omega)
theorem f_min_sg (C : zCo) : C.2.2.2.2.2.1 ≤ (f_min C).2.2.2.2.2.1 := Nat.le_add_right _ _
theorem f_mins_sg : ∀ (n : Nat) (C : zCo), C.2.2.2.2.2.1 ≤ (f_mins n C).2.2.2.2.2.1
  | 0, _ => Nat.le_refl _
  | n + 1, C => Nat.le_trans (f_min_sg C) (f_mins_sg n (f_min C))
theorem f_mins_end : ∀ (n : Nat) (C : zCo), f_mins (n + 1) C = f_min (f_mins n C)
  | 0, _ => rfl
  | n + 1, C => f_mins_end n (f_min C)
section
variable {o K : Nat} {S : zBt} {h : zH}
theorem m_passMinutes {m : Int} (hm : zI32 m) (R : zRB o S h) (hO : zOk K S.1) (hK : K < 1700000) : zMet yX10_passMinutes cX10_passMinutes 4 (some .int) 5 0 0 [.ref o, .int (iI m)] h (fun v h' => v = some (.int (iI (f_ps S.1 m).1)) ∧ zRB o (f_put S (f_ps S.1 m)) h') (fun _ _ => False) := by
  refine zMet.go (by decide +kernel) (Nat.le_of_ble_eq_true rfl) ?_
  intro X F B hnl hR hn
  have z := R.1
  have r0 := R.2.1
  obtain ⟨σ, τ, r1⟩ := R.2.2.1
  have hm1 := hm.1
  have hm2 := hm.2
  have hK1 := hO.2.2.2.2.2.1
  by_cases hv : 1 ≤ m ∧ m ≤ 48
  · obtain ⟨mm, rfl⟩ : ∃ mm : Nat, m = mm := ⟨m.toNat, by omega⟩
    have e0 : f_ps S.1 mm = (((f_mins mm S.1).2.2.2.2.2.1 : Int) - S.1.2.2.2.2.2.1, f_mins mm S.1, none) := by unfold f_ps; rw [if_pos hv]; rfl
    refine z_iload_n F dX10_passMinutes_0 rfl rfl ?_
    refine zi_iconst F dX10_passMinutes_1 ?_
    refine zi_icmp_lt (tgt := 11) F dX10_passMinutes_2 (by decide) (by first | omega | (dsimp only at *; omega)) (fun c2 => False.elim (by first | omega | (dsimp only at *; omega))) (fun c2 => ?_)
    refine z_iload_n F dX10_passMinutes_5 rfl rfl ?_
    refine zi_bipush F dX10_passMinutes_6 (by decide) ?_
    refine zi_icmp_le (tgt := 14) F dX10_passMinutes_8 (by decide) (by first | omega | (dsimp only at *; omega)) (fun c8 => ?_) (fun c8 => False.elim (by first | omega | (dsimp only at *; omega)))
    refine z_aload_n F dX10_passMinutes_14 rfl rfl ?_
    refine z_getfield F fl_X10_12 dX10_passMinutes_15 r0 (by decide) rfl ?_
    refine z_getfield F fl_X10_276 dX10_passMinutes_18 r1.ob (by decide) rfl ?_
    refine z_istore_n F dX10_passMinutes_21 rfl rfl (hnl _ rfl) ?_
    refine zi_iconst F dX10_passMinutes_22 ?_
    refine z_istore_n F dX10_passMinutes_23 rfl rfl (hnl _ rfl) ?_
    suffices KK : ∀ n i : Nat, n + i = mm → ∀ h1 : zH, zRB o (f_put S (0, f_mins i S.1, none)) h1 → Z X 0 0 24 [(3, .int (iI i)), (2, .int (iI S.1.2.2.2.2.2.1)), (0, .ref o), (1, .int (iI mm))] [] h1 from Z.keys [3, 2, 0, 1] rfl (KK mm 0 rfl h R)
    clear r0 r1
    intro n
    induction n with
    | zero =>
      intro i hi h1 R1
      have r0 := R1.2.1
      obtain ⟨σ, τ, r1⟩ := R1.2.2.1
      have hin : i = mm := by omega
      subst hin
      refine z_iload_n F dX10_passMinutes_24 rfl rfl ?_
      refine z_iload_n F dX10_passMinutes_25 rfl rfl ?_
      refine zi_icmp_ge (tgt := 73) F dX10_passMinutes_26 (by decide) (by first | omega | (dsimp only at *; omega)) (fun c26 => ?_) (fun c26 => False.elim (by first | omega | (dsimp only at *; omega)))
      refine z_aload_n F dX10_passMinutes_73 rfl rfl ?_
      refine z_getfield F fl_X10_12 dX10_passMinutes_74 r0 (by decide) rfl ?_
      refine z_getfield F fl_X10_276 dX10_passMinutes_77 r1.ob (by decide) rfl ?_
      refine z_iload_n F dX10_passMinutes_80 rfl rfl ?_
      refine zi_isub F dX10_passMinutes_81 ?_
      exact Z.widen (by decide) (by decide) (z_ireturn F rfl B dX10_passMinutes_82 (by rw [e0]; exact ⟨rfl, R1⟩))
    | succ n ih =>
      intro i hi h1 R1
      have r0 := R1.2.1
      obtain ⟨σ, τ, r1⟩ := R1.2.2.1
      have hOi : zOk (K + 43 * i) (f_mins i S.1) := f_mins_ok hO
      refine z_iload_n F dX10_passMinutes_24 rfl rfl ?_
      refine z_iload_n F dX10_passMinutes_25 rfl rfl ?_
      refine zi_icmp_ge (tgt := 73) F dX10_passMinutes_26 (by decide) (by first | omega | (dsimp only at *; omega)) (fun c26 => False.elim (by first | omega | (dsimp only at *; omega))) (fun c26 => ?_)
      refine z_aload_n F dX10_passMinutes_29 rfl rfl ?_
      refine z_getfield F fl_X10_12 dX10_passMinutes_30 r0 (by decide) rfl ?_
      refine z_dup F dX10_passMinutes_33 rfl ?_
      refine z_getfield F fl_X10_84 dX10_passMinutes_34 r1.ob (by decide) rfl ?_
      refine zi_iconst F dX10_passMinutes_37 ?_
      refine zi_iadd F dX10_passMinutes_38 ?_
      refine z_putfield F fp_X10_84 dX10_passMinutes_39 (zmut_of F (by omega)) r1.ob (by decide) (Nat.le_of_ble_eq_true rfl) ⟨rfl, rfl⟩ ?_
      have r2 := r1.putO (f_tick (f_mins i S.1)) (fs := (zCf (o + 1) (f_mins i S.1)).set 5 (.int (iI (((f_mins i S.1).2.2.2.2.1 : Nat) + 1 : Int)))) rfl rfl rfl rfl
      refine zgen (P := fun h' => zRB o (f_put S (0, f_tick (f_mins i S.1), none)) h') (R1.coast (zSame.rf.set ⟨by omega, by omega⟩) ⟨σ, τ, r2⟩) (fun h2 R2 => ?_)
      clear r2
      obtain ⟨σ2, τ2, q1⟩ := R2.2.2.1
      refine z_aload_n F dX10_passMinutes_42 rfl rfl ?_
      refine z_getfield F fl_X10_12 dX10_passMinutes_43 R2.2.1 (by decide) rfl ?_
      refine z_aload_n F dX10_passMinutes_46 rfl rfl ?_
      refine z_getfield F fl_X10_29 dX10_passMinutes_47 R2.2.1 (by decide) rfl ?_
      refine z_callV F B cal_yX2_moveShips (m_moveShips (K := K + 43 * i + 1) (by omega) (by omega) (by omega) (by omega) q1 R2.2.2.2.2.2.1 (f_tick_ok hOi)) dX10_passMinutes_50 rfl rfl (Nat.le_of_ble_eq_true rfl) (by decide) (by decide) (by decide) ml_X10_439 im_yX2_moveShips se_yX2_moveShips q1.ob (by decide) rfl rfl (fun v hX qX => ?_) (fun C h1 q => q.elim)
      obtain ⟨rfl, q2, W2, s2⟩ := qX
      replace q2 : zRepC (o + 1) σ2 τ2 (f_mvC (f_tick (f_mins i S.1))) hX := q2
      have R3 : zRB o (f_put S (0, f_mvC (f_tick (f_mins i S.1)), none)) hX := R2.two s2 ⟨_, _, q2⟩ W2
      refine z_aload_n F dX10_passMinutes_53 rfl rfl ?_
      refine z_getfield F fl_X10_12 dX10_passMinutes_54 R3.2.1 (by decide) rfl ?_
      refine z_callV F B cal_yX2_wreckShips (m_wreckShips (K := K + 43 * i + 1) (by omega) (by omega) q2 (f_mvC_ok (f_tick_ok hOi))) dX10_passMinutes_57 rfl rfl (Nat.le_of_ble_eq_true rfl) (by decide) (by decide) (by decide) ml_X10_443 im_yX2_wreckShips se_yX2_wreckShips q2.ob (by decide) rfl rfl (fun v hX qX => ?_) (fun C h1 q => q.elim)
      rename_i h3
      obtain ⟨rfl, q3, s3⟩ := qX
      have R4 : zRB o (f_put S (0, f_wk (f_mvC (f_tick (f_mins i S.1))), none)) hX := R3.coast s3 ⟨_, _, q3⟩
      refine z_aload_n F dX10_passMinutes_60 rfl rfl ?_
      refine z_getfield F fl_X10_12 dX10_passMinutes_61 R4.2.1 (by decide) rfl ?_
      refine z_callV F B cal_yX2_sightShips (m_sightShips (K := K + 43 * i + 1 + 6) (by omega) (by omega) q3 (f_wk_ok (f_mvC_ok (f_tick_ok hOi)))) dX10_passMinutes_64 rfl rfl (Nat.le_of_ble_eq_true rfl) (by decide) (by decide) (by decide) ml_X10_446 im_yX2_sightShips se_yX2_sightShips q3.ob (by decide) rfl rfl (fun v hX qX => ?_) (fun C h1 q => q.elim)
      obtain ⟨rfl, q4, s4⟩ := qX
      have R5 := R4.coast s4 ⟨_, _, q4⟩
      refine zi_iinc F dX10_passMinutes_67 rfl rfl (hnl _ rfl) ?_
      refine z_goto (tgt := 24) F dX10_passMinutes_70 (by decide) ?_
      exact Z.keys [3, 2, 0, 1] rfl (ih (i + 1) (by omega) _ (by rw [f_mins_end]; exact R5))
  · refine z_iload_n F dX10_passMinutes_0 rfl rfl ?_
    refine zi_iconst F dX10_passMinutes_1 ?_
    refine zi_icmp_lt (tgt := 11) F dX10_passMinutes_2 (by decide) (by first | omega | (dsimp only at *; omega)) (fun c2 => ?_) (fun c2 => ?_)
    · refine zi_bipush F dX10_passMinutes_11 (by decide) ?_
      exact Z.widen (by decide) (by decide) (z_ireturn F rfl B dX10_passMinutes_13 (by have e : f_ps S.1 m = (-2, S.1, none) := (by unfold f_ps; rw [if_neg hv]); rw [e]; exact ⟨rfl, R⟩))
    · refine z_iload_n F dX10_passMinutes_5 rfl rfl ?_
      refine zi_bipush F dX10_passMinutes_6 (by decide) ?_
      refine zi_icmp_le (tgt := 14) F dX10_passMinutes_8 (by decide) (by first | omega | (dsimp only at *; omega)) (fun c8 => ?_) (fun c8 => ?_)
      · exact False.elim (by omega)
      · refine zi_bipush F dX10_passMinutes_11 (by decide) ?_
        exact Z.widen (by decide) (by decide) (z_ireturn F rfl B dX10_passMinutes_13 (by have e : f_ps S.1 m = (-2, S.1, none) := (by unfold f_ps; rw [if_neg hv]); rw [e]; exact ⟨rfl, R⟩))
def f_keep (S : zBt) : zBt := (S.1, S.2.1, (f_kf S.2.2.1.1 S.2.2.1.2.1, f_kc S.2.2.1.2.1, zsw S.2.2.1.2.2 ((S.2.2.1.1 + S.2.2.1.2.1) % 8)), S.2.2.2)
def f_prep (S : zBt) : zBt := (S.1, S.2.1, (S.2.2.1.1, S.2.2.1.2.1, zup S.2.2.1.2.2 8 S.1), S.2.2.2)
def xA : String := "java/lang/IllegalArgumentException"
def xU : String := "java/lang/UnsupportedOperationException"
def xS : String := "java/lang/IllegalStateException"
theorem m_settle {a : Int} (ha : zI32 a) (R : zRB o S h) : zMet yX10_settle cX10_settle 2 (some .int) 9 1 6 [.ref o, .int (iI a)] h (fun v h' => (¬ a = -1 ∧ ¬ a = -2 ∧ ¬ a = -3) ∧ v = some (.int (iI a)) ∧ zRB o (f_keep S) h') (fun D h' => ((a = -1 ∧ D = xI) ∨ (a = -2 ∧ D = xA) ∨ (a = -3 ∧ D = xU)) ∧ zRB o S h') := by
  refine zMet.go (by decide +kernel) (Nat.le_of_ble_eq_true rfl) ?_
  intro X F B hnl hR hn
  have z := R.1
  have r0 := R.2.1
  have ha1 := ha.1
  have ha2 := ha.2
  refine z_iload_n F dX10_settle_0 rfl rfl ?_
  refine zi_iconst F dX10_settle_1 ?_
  refine zi_icmp_ne (tgt := 16) F dX10_settle_2 (by decide) (by first | omega | (dsimp only at *; omega)) (fun c2 => ?_) (fun c2 => ?_)
  · refine z_iload_n F dX10_settle_16 rfl rfl ?_
    refine zi_bipush F dX10_settle_17 (by decide) ?_
    refine zi_icmp_ne (tgt := 33) F dX10_settle_19 (by decide) (by first | omega | (dsimp only at *; omega)) (fun c19 => ?_) (fun c19 => ?_)
    · refine z_iload_n F dX10_settle_33 rfl rfl ?_
      refine zi_bipush F dX10_settle_34 (by decide) ?_
      refine zi_icmp_ne (tgt := 50) F dX10_settle_36 (by decide) (by first | omega | (dsimp only at *; omega)) (fun c36 => ?_) (fun c36 => ?_)
      · refine z_aload_n F dX10_settle_50 rfl rfl ?_
        refine z_getfield F fl_X10_22 dX10_settle_51 r0 (by decide) rfl ?_
        refine z_callV F B cal_yX6_keep (m_hkeep (by omega) R.2.2.2.2.1) dX10_settle_54 rfl rfl (Nat.le_of_ble_eq_true rfl) (by decide) (by decide) (by decide) ml_X10_352 im_yX6_keep se_yX6_keep (R.2.2.2.2.1.choose_spec.1) (by decide) rfl rfl (fun v hX qX => ?_) (fun C h1 q => q.elim)
        obtain ⟨rfl, H, s⟩ := qX
        refine z_iload_n F dX10_settle_57 rfl rfl ?_
        exact Z.widen (by decide) (by decide) (z_ireturn F rfl B dX10_settle_58 ⟨⟨by omega, by omega, by omega⟩, rfl, R.hist2 s H⟩)
      · exact z_throwSW F B thr_X10_347_472_351 dX10_settle_39 dX10_settle_42 dX10_settle_43 dX10_settle_46 dX10_settle_49 (by decide) (by decide) (by decide) (by decide) (fun j => ⟨Or.inr (Or.inr ⟨by omega, rfl⟩), R.junkR _⟩)
    · exact z_throwSW F B thr_X10_321_470_325 dX10_settle_22 dX10_settle_25 dX10_settle_26 dX10_settle_29 dX10_settle_32 (by decide) (by decide) (by decide) (by decide) (fun j => ⟨Or.inr (Or.inl ⟨by omega, rfl⟩), R.junkR _⟩)
  · exact z_throwSW F B thr_X10_357_468_361 dX10_settle_5 dX10_settle_8 dX10_settle_9 dX10_settle_12 dX10_settle_15 (by decide) (by decide) (by decide) (by decide) (fun j => ⟨Or.inl ⟨by omega, rfl⟩, R.junkR _⟩)
theorem m_prepare (R : zRB o S h) : zMet yX6_prepare cX6_prepare 2 none 3 0 0 [.ref (o + 33), .ref (o + 1)] h (fun v h' => v = none ∧ zRB o (f_prep S) h') (fun _ _ => False) := by
  have z := R.1
  exact (m_hprep (by omega) (by omega) (by omega) R.2.2.2.2.1 R.2.2.1).mono (fun v h' q => ⟨q.1, R.hist (q.2.2.wk (by omega) (by omega)) q.2.1⟩) (fun _ _ q => q)
/-- what a public change leaves -/
def f_fin (S : zBt) (r : zCh) : zBt := if r.1 < 0 then f_put (f_prep S) r else f_keep (f_put (f_prep S) r)
def zThC (o : Nat) (S : zBt) (r : zCh) (D : String) (h' : zH) : Prop := ((r.1 = -1 ∧ D = xI) ∨ (r.1 = -2 ∧ D = xA) ∨ (r.1 = -3 ∧ D = xU)) ∧ zRB o (f_fin S r) h'
end
section
variable {o K : Nat} {S : zBt} {h : zH} {C : zCo}
theorem f_cd_b {x y d : Int} (hO : zOk K C) : zI32 (f_cd C x y d).1 ∧ ((f_cd C x y d).1 < 0 → (f_cd C x y d).1 = -1 ∨ (f_cd C x y d).1 = -2 ∨ (f_cd C x y d).1 = -3) := by
  unfold f_cd zI32
  have := hO.1 (8 * y + x).toNat
  (repeat' split) <;> dsimp only <;> omega
theorem m_setDepth {x y d : Int} (hx : zI32 x) (hy : zI32 y) (hd : zI32 d) (R : zRB o S h) (hO : zOk K S.1) (hK : K < 1700000) : zMet yX10_setDepth cX10_setDepth 4 (some .int) 10 1 6 [.ref o, .int (iI x), .int (iI y), .int (iI d)] h (fun v h' => 0 ≤ (f_cd S.1 x y d).1 ∧ v = some (.int (iI (f_cd S.1 x y d).1)) ∧ zRB o (f_fin S (f_cd S.1 x y d)) h') (fun D h' => zThC o S (f_cd S.1 x y d) D h') := by
  refine zMet.go (by decide +kernel) (Nat.le_of_ble_eq_true rfl) ?_
  intro X F B hnl hR hn
  have r0 := R.2.1
  have hb := f_cd_b (x := x) (y := y) (d := d) hO
  refine z_aload_n F dX10_setDepth_0 rfl rfl ?_
  refine z_getfield F fl_X10_22 dX10_setDepth_1 r0 (by decide) rfl ?_
  refine z_aload_n F dX10_setDepth_4 rfl rfl ?_
  refine z_getfield F fl_X10_12 dX10_setDepth_5 r0 (by decide) rfl ?_
  refine z_callV F B cal_yX6_prepare (m_prepare R) dX10_setDepth_8 rfl rfl (Nat.le_of_ble_eq_true rfl) (by decide) (by decide) (by decide) ml_X10_62 im_yX6_prepare se_yX6_prepare (R.2.2.2.2.1.choose_spec.1) (by decide) rfl rfl (fun v hX qX => ?_) (fun C h1 q => q.elim)
  obtain ⟨rfl, R1⟩ := qX
  refine z_aload_n F dX10_setDepth_11 rfl rfl ?_
  refine z_aload_n F dX10_setDepth_12 rfl rfl ?_
  refine z_iload_n F dX10_setDepth_13 rfl rfl ?_
  refine z_iload_n F dX10_setDepth_14 rfl rfl ?_
  refine z_iload_n F dX10_setDepth_15 rfl rfl ?_
  refine z_callV F B cal_yX10_changeDepth (m_changeDepth hx hy hd R1 hO (by omega)) dX10_setDepth_16 rfl rfl (Nat.le_of_ble_eq_true rfl) (by decide) (by decide) (by decide) ml_X10_66 im_yX10_changeDepth se_yX10_changeDepth R1.2.1 (by decide) rfl rfl (fun v hX qX => ?_) (fun C h1 q => q.elim)
  obtain ⟨rfl, R2⟩ := qX
  refine z_callV F B cal_yX10_settle (m_settle hb.1 R2) dX10_setDepth_19 rfl rfl (Nat.le_of_ble_eq_true rfl) (by decide) (by decide) (by decide) ml_X10_70 im_yX10_settle se_yX10_settle R2.2.1 (by decide) rfl rfl (fun v hX qX => ?_) (fun D h1 q => ⟨q.1, by unfold f_fin; rw [if_pos (by have h9 : (f_cd S.1 x y d).1 < 0 := (by rcases q.1 with q | q | q <;> (have := q.1; change (f_cd S.1 x y d).1 = _ at this; omega)); exact h9)]; exact q.2⟩)
  obtain ⟨q1, rfl, R3⟩ := qX
  change ¬ (f_cd S.1 x y d).1 = -1 ∧ ¬ (f_cd S.1 x y d).1 = -2 ∧ ¬ (f_cd S.1 x y d).1 = -3 at q1
  exact Z.widen (by decide) (by decide) (z_ireturn F rfl B dX10_setDepth_22 ⟨by omega, rfl, by unfold f_fin; rw [if_neg (by omega)]; exact R3⟩)
theorem f_pl_b {x y r p : Int} (hO : zOk K C) : zI32 (f_pl C x y r p).1 ∧ ((f_pl C x y r p).1 < 0 → (f_pl C x y r p).1 = -1 ∨ (f_pl C x y r p).1 = -2 ∨ (f_pl C x y r p).1 = -3) := by
  have := hO.2.2.2.1
  unfold f_pl zI32
  (repeat' split) <;> dsimp only <;> omega
theorem m_addLight {x y r p : Int} (hx : zI32 x) (hy : zI32 y) (hr : zI32 r) (hp : zI32 p) (R : zRB o S h) (hO : zOk K S.1) (hK : K < 1700000) : zMet yX10_addLight cX10_addLight 5 (some .int) 10 1 6 [.ref o, .int (iI x), .int (iI y), .int (iI r), .int (iI p)] h (fun v h' => 0 ≤ (f_pl S.1 x y r p).1 ∧ v = some (.int (iI (f_pl S.1 x y r p).1)) ∧ zRB o (f_fin S (f_pl S.1 x y r p)) h') (fun D h' => zThC o S (f_pl S.1 x y r p) D h') := by
  refine zMet.go (by decide +kernel) (Nat.le_of_ble_eq_true rfl) ?_
  intro X F B hnl hR hn
  have r0 := R.2.1
  have hb := f_pl_b (x := x) (y := y) (r := r) (p := p) hO
  refine z_aload_n F dX10_addLight_0 rfl rfl ?_
  refine z_getfield F fl_X10_22 dX10_addLight_1 r0 (by decide) rfl ?_
  refine z_aload_n F dX10_addLight_4 rfl rfl ?_
  refine z_getfield F fl_X10_12 dX10_addLight_5 r0 (by decide) rfl ?_
  refine z_callV F B cal_yX6_prepare (m_prepare R) dX10_addLight_8 rfl rfl (Nat.le_of_ble_eq_true rfl) (by decide) (by decide) (by decide) ml_X10_62 im_yX6_prepare se_yX6_prepare (R.2.2.2.2.1.choose_spec.1) (by decide) rfl rfl (fun v hX qX => ?_) (fun C h1 q => q.elim)
  obtain ⟨rfl, R1⟩ := qX
  refine z_aload_n F dX10_addLight_11 rfl rfl ?_
  refine z_aload_n F dX10_addLight_12 rfl rfl ?_
  refine z_iload_n F dX10_addLight_13 rfl rfl ?_
  refine z_iload_n F dX10_addLight_14 rfl rfl ?_
  refine z_iload_n F dX10_addLight_15 rfl rfl ?_
  refine z_iload F dX10_addLight_16 rfl ?_
  refine z_callV F B cal_yX10_placeLight (m_placeLight hx hy hr hp R1 hO (by omega)) dX10_addLight_18 rfl rfl (Nat.le_of_ble_eq_true rfl) (by decide) (by decide) (by decide) ml_X10_124 im_yX10_placeLight se_yX10_placeLight R1.2.1 (by decide) rfl rfl (fun v hX qX => ?_) (fun C h1 q => q.elim)
  obtain ⟨rfl, R2⟩ := qX
  refine z_callV F B cal_yX10_settle (m_settle hb.1 R2) dX10_addLight_21 rfl rfl (Nat.le_of_ble_eq_true rfl) (by decide) (by decide) (by decide) ml_X10_70 im_yX10_settle se_yX10_settle R2.2.1 (by decide) rfl rfl (fun v hX qX => ?_) (fun D h1 q => ⟨q.1, by unfold f_fin; rw [if_pos (by have h9 : (f_pl S.1 x y r p).1 < 0 := (by rcases q.1 with q | q | q <;> (have := q.1; change (f_pl S.1 x y r p).1 = _ at this; omega)); exact h9)]; exact q.2⟩)
  obtain ⟨q1, rfl, R3⟩ := qX
  change ¬ (f_pl S.1 x y r p).1 = -1 ∧ ¬ (f_pl S.1 x y r p).1 = -2 ∧ ¬ (f_pl S.1 x y r p).1 = -3 at q1
  exact Z.widen (by decide) (by decide) (z_ireturn F rfl B dX10_addLight_24 ⟨by omega, rfl, by unfold f_fin; rw [if_neg (by omega)]; exact R3⟩)
theorem f_cp_b {l p : Int} (hO : zOk K C) : zI32 (f_cp C l p).1 ∧ ((f_cp C l p).1 < 0 → (f_cp C l p).1 = -1 ∨ (f_cp C l p).1 = -2 ∨ (f_cp C l p).1 = -3) := by
  have := (hO.2.1 l.toNat).2.2.2.2.1
  unfold f_cp zI32
  (repeat' split) <;> dsimp only <;> omega
theorem m_setPhase {l p : Int} (hl : zI32 l) (hp : zI32 p) (R : zRB o S h) (hO : zOk K S.1) (hK : K < 1700000) : zMet yX10_setPhase cX10_setPhase 3 (some .int) 10 1 6 [.ref o, .int (iI l), .int (iI p)] h (fun v h' => 0 ≤ (f_cp S.1 l p).1 ∧ v = some (.int (iI (f_cp S.1 l p).1)) ∧ zRB o (f_fin S (f_cp S.1 l p)) h') (fun D h' => zThC o S (f_cp S.1 l p) D h') := by
  refine zMet.go (by decide +kernel) (Nat.le_of_ble_eq_true rfl) ?_
  intro X F B hnl hR hn
  have r0 := R.2.1
  have hb := f_cp_b (l := l) (p := p) hO
  refine z_aload_n F dX10_setPhase_0 rfl rfl ?_
  refine z_getfield F fl_X10_22 dX10_setPhase_1 r0 (by decide) rfl ?_
  refine z_aload_n F dX10_setPhase_4 rfl rfl ?_
  refine z_getfield F fl_X10_12 dX10_setPhase_5 r0 (by decide) rfl ?_
  refine z_callV F B cal_yX6_prepare (m_prepare R) dX10_setPhase_8 rfl rfl (Nat.le_of_ble_eq_true rfl) (by decide) (by decide) (by decide) ml_X10_62 im_yX6_prepare se_yX6_prepare (R.2.2.2.2.1.choose_spec.1) (by decide) rfl rfl (fun v hX qX => ?_) (fun C h1 q => q.elim)
  obtain ⟨rfl, R1⟩ := qX
  refine z_aload_n F dX10_setPhase_11 rfl rfl ?_
  refine z_aload_n F dX10_setPhase_12 rfl rfl ?_
  refine z_iload_n F dX10_setPhase_13 rfl rfl ?_
  refine z_iload_n F dX10_setPhase_14 rfl rfl ?_
  refine z_callV F B cal_yX10_changePhase (m_changePhase hl hp R1 hO (by omega)) dX10_setPhase_15 rfl rfl (Nat.le_of_ble_eq_true rfl) (by decide) (by decide) (by decide) ml_X10_128 im_yX10_changePhase se_yX10_changePhase R1.2.1 (by decide) rfl rfl (fun v hX qX => ?_) (fun C h1 q => q.elim)
  obtain ⟨rfl, R2⟩ := qX
  refine z_callV F B cal_yX10_settle (m_settle hb.1 R2) dX10_setPhase_18 rfl rfl (Nat.le_of_ble_eq_true rfl) (by decide) (by decide) (by decide) ml_X10_70 im_yX10_settle se_yX10_settle R2.2.1 (by decide) rfl rfl (fun v hX qX => ?_) (fun D h1 q => ⟨q.1, by unfold f_fin; rw [if_pos (by have h9 : (f_cp S.1 l p).1 < 0 := (by rcases q.1 with q | q | q <;> (have := q.1; change (f_cp S.1 l p).1 = _ at this; omega)); exact h9)]; exact q.2⟩)
  obtain ⟨q1, rfl, R3⟩ := qX
  change ¬ (f_cp S.1 l p).1 = -1 ∧ ¬ (f_cp S.1 l p).1 = -2 ∧ ¬ (f_cp S.1 l p).1 = -3 at q1
  exact Z.widen (by decide) (by decide) (z_ireturn F rfl B dX10_setPhase_21 ⟨by omega, rfl, by unfold f_fin; rw [if_neg (by omega)]; exact R3⟩)
theorem f_dl_b {l : Int} (hO : zOk K C) (hK : K < 1700000) : zI32 (f_dl C l).1 ∧ ((f_dl C l).1 < 0 → (f_dl C l).1 = -1 ∨ (f_dl C l).1 = -2 ∨ (f_dl C l).1 = -3) := by
  have := (hO.2.1 l.toNat).2.2.2.2.2
  unfold f_dl zI32
  (repeat' split) <;> dsimp only <;> omega
theorem m_removeLight {l : Int} (hl : zI32 l) (R : zRB o S h) (hO : zOk K S.1) (hK : K < 1700000) : zMet yX10_removeLight cX10_removeLight 2 (some .int) 10 1 6 [.ref o, .int (iI l)] h (fun v h' => 0 ≤ (f_dl S.1 l).1 ∧ v = some (.int (iI (f_dl S.1 l).1)) ∧ zRB o (f_fin S (f_dl S.1 l)) h') (fun D h' => zThC o S (f_dl S.1 l) D h') := by
  refine zMet.go (by decide +kernel) (Nat.le_of_ble_eq_true rfl) ?_
  intro X F B hnl hR hn
  have r0 := R.2.1
  have hb := f_dl_b (l := l) hO (by omega)
  refine z_aload_n F dX10_removeLight_0 rfl rfl ?_
  refine z_getfield F fl_X10_22 dX10_removeLight_1 r0 (by decide) rfl ?_
  refine z_aload_n F dX10_removeLight_4 rfl rfl ?_
  refine z_getfield F fl_X10_12 dX10_removeLight_5 r0 (by decide) rfl ?_
  refine z_callV F B cal_yX6_prepare (m_prepare R) dX10_removeLight_8 rfl rfl (Nat.le_of_ble_eq_true rfl) (by decide) (by decide) (by decide) ml_X10_62 im_yX6_prepare se_yX6_prepare (R.2.2.2.2.1.choose_spec.1) (by decide) rfl rfl (fun v hX qX => ?_) (fun C h1 q => q.elim)
  obtain ⟨rfl, R1⟩ := qX
  refine z_aload_n F dX10_removeLight_11 rfl rfl ?_
  refine z_aload_n F dX10_removeLight_12 rfl rfl ?_
  refine z_iload_n F dX10_removeLight_13 rfl rfl ?_
  refine z_callV F B cal_yX10_douseLight (m_douseLight hl R1 hO (by omega)) dX10_removeLight_14 rfl rfl (Nat.le_of_ble_eq_true rfl) (by decide) (by decide) (by decide) ml_X10_131 im_yX10_douseLight se_yX10_douseLight R1.2.1 (by decide) rfl rfl (fun v hX qX => ?_) (fun C h1 q => q.elim)
  obtain ⟨rfl, R2⟩ := qX
  refine z_callV F B cal_yX10_settle (m_settle hb.1 R2) dX10_removeLight_17 rfl rfl (Nat.le_of_ble_eq_true rfl) (by decide) (by decide) (by decide) ml_X10_70 im_yX10_settle se_yX10_settle R2.2.1 (by decide) rfl rfl (fun v hX qX => ?_) (fun D h1 q => ⟨q.1, by unfold f_fin; rw [if_pos (by have h9 : (f_dl S.1 l).1 < 0 := (by rcases q.1 with q | q | q <;> (have := q.1; change (f_dl S.1 l).1 = _ at this; omega)); exact h9)]; exact q.2⟩)
  obtain ⟨q1, rfl, R3⟩ := qX
  change ¬ (f_dl S.1 l).1 = -1 ∧ ¬ (f_dl S.1 l).1 = -2 ∧ ¬ (f_dl S.1 l).1 = -3 at q1
  exact Z.widen (by decide) (by decide) (z_ireturn F rfl B dX10_removeLight_20 ⟨by omega, rfl, by unfold f_fin; rw [if_neg (by omega)]; exact R3⟩)
theorem f_ls_b {x y d : Int} (hO : zOk K C) : zI32 (f_ls C x y d).1 ∧ ((f_ls C x y d).1 < 0 → (f_ls C x y d).1 = -1 ∨ (f_ls C x y d).1 = -2 ∨ (f_ls C x y d).1 = -3) := by
  have := hO.2.2.2.2.1
  unfold f_ls zI32
  (repeat' split) <;> dsimp only <;> omega
theorem m_addShip {x y d : Int} (hx : zI32 x) (hy : zI32 y) (hd : zI32 d) (R : zRB o S h) (hO : zOk K S.1) (hK : K < 1700000) : zMet yX10_addShip cX10_addShip 4 (some .int) 10 1 6 [.ref o, .int (iI x), .int (iI y), .int (iI d)] h (fun v h' => 0 ≤ (f_ls S.1 x y d).1 ∧ v = some (.int (iI (f_ls S.1 x y d).1)) ∧ zRB o (f_fin S (f_ls S.1 x y d)) h') (fun D h' => zThC o S (f_ls S.1 x y d) D h') := by
  refine zMet.go (by decide +kernel) (Nat.le_of_ble_eq_true rfl) ?_
  intro X F B hnl hR hn
  have r0 := R.2.1
  have hb := f_ls_b (x := x) (y := y) (d := d) hO
  refine z_aload_n F dX10_addShip_0 rfl rfl ?_
  refine z_getfield F fl_X10_22 dX10_addShip_1 r0 (by decide) rfl ?_
  refine z_aload_n F dX10_addShip_4 rfl rfl ?_
  refine z_getfield F fl_X10_12 dX10_addShip_5 r0 (by decide) rfl ?_
  refine z_callV F B cal_yX6_prepare (m_prepare R) dX10_addShip_8 rfl rfl (Nat.le_of_ble_eq_true rfl) (by decide) (by decide) (by decide) ml_X10_62 im_yX6_prepare se_yX6_prepare (R.2.2.2.2.1.choose_spec.1) (by decide) rfl rfl (fun v hX qX => ?_) (fun C h1 q => q.elim)
  obtain ⟨rfl, R1⟩ := qX
  refine z_aload_n F dX10_addShip_11 rfl rfl ?_
  refine z_aload_n F dX10_addShip_12 rfl rfl ?_
  refine z_iload_n F dX10_addShip_13 rfl rfl ?_
  refine z_iload_n F dX10_addShip_14 rfl rfl ?_
  refine z_iload_n F dX10_addShip_15 rfl rfl ?_
  refine z_callV F B cal_yX10_launchShip (m_launchShip hx hy hd R1 hO (by omega)) dX10_addShip_16 rfl rfl (Nat.le_of_ble_eq_true rfl) (by decide) (by decide) (by decide) ml_X10_210 im_yX10_launchShip se_yX10_launchShip R1.2.1 (by decide) rfl rfl (fun v hX qX => ?_) (fun C h1 q => q.elim)
  obtain ⟨rfl, R2⟩ := qX
  refine z_callV F B cal_yX10_settle (m_settle hb.1 R2) dX10_addShip_19 rfl rfl (Nat.le_of_ble_eq_true rfl) (by decide) (by decide) (by decide) ml_X10_70 im_yX10_settle se_yX10_settle R2.2.1 (by decide) rfl rfl (fun v hX qX => ?_) (fun D h1 q => ⟨q.1, by unfold f_fin; rw [if_pos (by have h9 : (f_ls S.1 x y d).1 < 0 := (by rcases q.1 with q | q | q <;> (have := q.1; change (f_ls S.1 x y d).1 = _ at this; omega)); exact h9)]; exact q.2⟩)
  obtain ⟨q1, rfl, R3⟩ := qX
  change ¬ (f_ls S.1 x y d).1 = -1 ∧ ¬ (f_ls S.1 x y d).1 = -2 ∧ ¬ (f_ls S.1 x y d).1 = -3 at q1
  exact Z.widen (by decide) (by decide) (z_ireturn F rfl B dX10_addShip_22 ⟨by omega, rfl, by unfold f_fin; rw [if_neg (by omega)]; exact R3⟩)
theorem f_cg_b {l x y : Int} (hO : zOk K C) : zI32 (f_cg C l x y).1 ∧ ((f_cg C l x y).1 < 0 → (f_cg C l x y).1 = -1 ∨ (f_cg C l x y).1 = -2 ∨ (f_cg C l x y).1 = -3) := by
  have sk := hO.2.2.1 l.toNat
  have hb := f_ln_b (op := f_opF C (f_tide C.2.2.2.2.1) (C.2.2.1 l.toNat).2.1) sk.1 (8 * y + x).toNat
  unfold f_cg zI32
  split
  · split
    · dsimp only; omega
    · cases hk : f_ln (f_opF C (f_tide C.2.2.2.2.1) (C.2.2.1 l.toNat).2.1) (C.2.2.1 l.toNat).1 (8 * y + x).toNat with
      | none => dsimp only; omega
      | some k =>
        rw [hk] at hb
        have hb2 : -1 ≤ (k : Int) ∧ (k : Int) < 64 := hb
        dsimp only; omega
  · dsimp only; omega
theorem m_steer {l x y : Int} (hl : zI32 l) (hx : zI32 x) (hy : zI32 y) (R : zRB o S h) (hO : zOk K S.1) (hK : K < 1700000) : zMet yX10_steer cX10_steer 4 (some .int) 10 1 6 [.ref o, .int (iI l), .int (iI x), .int (iI y)] h (fun v h' => 0 ≤ (f_cg S.1 l x y).1 ∧ v = some (.int (iI (f_cg S.1 l x y).1)) ∧ zRB o (f_fin S (f_cg S.1 l x y)) h') (fun D h' => zThC o S (f_cg S.1 l x y) D h') := by
  refine zMet.go (by decide +kernel) (Nat.le_of_ble_eq_true rfl) ?_
  intro X F B hnl hR hn
  have r0 := R.2.1
  have hb := f_cg_b (l := l) (x := x) (y := y) hO
  refine z_aload_n F dX10_steer_0 rfl rfl ?_
  refine z_getfield F fl_X10_22 dX10_steer_1 r0 (by decide) rfl ?_
  refine z_aload_n F dX10_steer_4 rfl rfl ?_
  refine z_getfield F fl_X10_12 dX10_steer_5 r0 (by decide) rfl ?_
  refine z_callV F B cal_yX6_prepare (m_prepare R) dX10_steer_8 rfl rfl (Nat.le_of_ble_eq_true rfl) (by decide) (by decide) (by decide) ml_X10_62 im_yX6_prepare se_yX6_prepare (R.2.2.2.2.1.choose_spec.1) (by decide) rfl rfl (fun v hX qX => ?_) (fun C h1 q => q.elim)
  obtain ⟨rfl, R1⟩ := qX
  refine z_aload_n F dX10_steer_11 rfl rfl ?_
  refine z_aload_n F dX10_steer_12 rfl rfl ?_
  refine z_iload_n F dX10_steer_13 rfl rfl ?_
  refine z_iload_n F dX10_steer_14 rfl rfl ?_
  refine z_iload_n F dX10_steer_15 rfl rfl ?_
  refine z_callV F B cal_yX10_changeGoal (m_changeGoal hl hx hy R1 hO (by omega)) dX10_steer_16 rfl rfl (Nat.le_of_ble_eq_true rfl) (by decide) (by decide) (by decide) ml_X10_213 im_yX10_changeGoal se_yX10_changeGoal R1.2.1 (by decide) rfl rfl (fun v hX qX => ?_) (fun C h1 q => q.elim)
  obtain ⟨rfl, R2⟩ := qX
  refine z_callV F B cal_yX10_settle (m_settle hb.1 R2) dX10_steer_19 rfl rfl (Nat.le_of_ble_eq_true rfl) (by decide) (by decide) (by decide) ml_X10_70 im_yX10_settle se_yX10_settle R2.2.1 (by decide) rfl rfl (fun v hX qX => ?_) (fun D h1 q => ⟨q.1, by unfold f_fin; rw [if_pos (by have h9 : (f_cg S.1 l x y).1 < 0 := (by rcases q.1 with q | q | q <;> (have := q.1; change (f_cg S.1 l x y).1 = _ at this; omega)); exact h9)]; exact q.2⟩)
  obtain ⟨q1, rfl, R3⟩ := qX
  change ¬ (f_cg S.1 l x y).1 = -1 ∧ ¬ (f_cg S.1 l x y).1 = -2 ∧ ¬ (f_cg S.1 l x y).1 = -3 at q1
  exact Z.widen (by decide) (by decide) (z_ireturn F rfl B dX10_steer_22 ⟨by omega, rfl, by unfold f_fin; rw [if_neg (by omega)]; exact R3⟩)
theorem f_sv_b {l : Int} (hO : zOk K C) : zI32 (f_sv C l).1 ∧ ((f_sv C l).1 < 0 → (f_sv C l).1 = -1 ∨ (f_sv C l).1 = -2 ∨ (f_sv C l).1 = -3) := by
  have := (hO.2.2.1 l.toNat).2.1
  unfold f_sv zI32
  (repeat' split) <;> dsimp only <;> omega
theorem m_salvage {l : Int} (hl : zI32 l) (R : zRB o S h) (hO : zOk K S.1) (hK : K < 1700000) : zMet yX10_salvage cX10_salvage 2 (some .int) 10 1 6 [.ref o, .int (iI l)] h (fun v h' => 0 ≤ (f_sv S.1 l).1 ∧ v = some (.int (iI (f_sv S.1 l).1)) ∧ zRB o (f_fin S (f_sv S.1 l)) h') (fun D h' => zThC o S (f_sv S.1 l) D h') := by
  refine zMet.go (by decide +kernel) (Nat.le_of_ble_eq_true rfl) ?_
  intro X F B hnl hR hn
  have r0 := R.2.1
  have hb := f_sv_b (l := l) hO
  refine z_aload_n F dX10_salvage_0 rfl rfl ?_
  refine z_getfield F fl_X10_22 dX10_salvage_1 r0 (by decide) rfl ?_
  refine z_aload_n F dX10_salvage_4 rfl rfl ?_
  refine z_getfield F fl_X10_12 dX10_salvage_5 r0 (by decide) rfl ?_
  refine z_callV F B cal_yX6_prepare (m_prepare R) dX10_salvage_8 rfl rfl (Nat.le_of_ble_eq_true rfl) (by decide) (by decide) (by decide) ml_X10_62 im_yX6_prepare se_yX6_prepare (R.2.2.2.2.1.choose_spec.1) (by decide) rfl rfl (fun v hX qX => ?_) (fun C h1 q => q.elim)
  obtain ⟨rfl, R1⟩ := qX
  refine z_aload_n F dX10_salvage_11 rfl rfl ?_
  refine z_aload_n F dX10_salvage_12 rfl rfl ?_
  refine z_iload_n F dX10_salvage_13 rfl rfl ?_
  refine z_callV F B cal_yX10_salvageShip (m_salvageShip hl R1 hO (by omega)) dX10_salvage_14 rfl rfl (Nat.le_of_ble_eq_true rfl) (by decide) (by decide) (by decide) ml_X10_216 im_yX10_salvageShip se_yX10_salvageShip R1.2.1 (by decide) rfl rfl (fun v hX qX => ?_) (fun C h1 q => q.elim)
  obtain ⟨rfl, R2⟩ := qX
  refine z_callV F B cal_yX10_settle (m_settle hb.1 R2) dX10_salvage_17 rfl rfl (Nat.le_of_ble_eq_true rfl) (by decide) (by decide) (by decide) ml_X10_70 im_yX10_settle se_yX10_settle R2.2.1 (by decide) rfl rfl (fun v hX qX => ?_) (fun D h1 q => ⟨q.1, by unfold f_fin; rw [if_pos (by have h9 : (f_sv S.1 l).1 < 0 := (by rcases q.1 with q | q | q <;> (have := q.1; change (f_sv S.1 l).1 = _ at this; omega)); exact h9)]; exact q.2⟩)
  obtain ⟨q1, rfl, R3⟩ := qX
  change ¬ (f_sv S.1 l).1 = -1 ∧ ¬ (f_sv S.1 l).1 = -2 ∧ ¬ (f_sv S.1 l).1 = -3 at q1
  exact Z.widen (by decide) (by decide) (z_ireturn F rfl B dX10_salvage_20 ⟨by omega, rfl, by unfold f_fin; rw [if_neg (by omega)]; exact R3⟩)
theorem f_ps_b {m : Int} (hO : zOk K C) (hK : K < 1700000) : zI32 (f_ps C m).1 ∧ ((f_ps C m).1 < 0 → (f_ps C m).1 = -1 ∨ (f_ps C m).1 = -2 ∨ (f_ps C m).1 = -3) := by
  unfold f_ps zI32
  split
  · have h1 := (f_mins_ok (n := m.toNat) hO).2.2.2.2.2.2.1
    have h2 := f_mins_sg m.toNat C
    have h3 := hO.2.2.2.2.2.2.1
    dsimp only; omega
  · dsimp only; omega
theorem m_pass {m : Int} (hm : zI32 m) (R : zRB o S h) (hO : zOk K S.1) (hK : K < 1700000) : zMet yX10_pass cX10_pass 2 (some .int) 10 1 6 [.ref o, .int (iI m)] h (fun v h' => 0 ≤ (f_ps S.1 m).1 ∧ v = some (.int (iI (f_ps S.1 m).1)) ∧ zRB o (f_fin S (f_ps S.1 m)) h') (fun D h' => zThC o S (f_ps S.1 m) D h') := by
  refine zMet.go (by decide +kernel) (Nat.le_of_ble_eq_true rfl) ?_
  intro X F B hnl hR hn
  have r0 := R.2.1
  have hb := f_ps_b (m := m) hO (by omega)
  refine z_aload_n F dX10_pass_0 rfl rfl ?_
  refine z_getfield F fl_X10_22 dX10_pass_1 r0 (by decide) rfl ?_
  refine z_aload_n F dX10_pass_4 rfl rfl ?_
  refine z_getfield F fl_X10_12 dX10_pass_5 r0 (by decide) rfl ?_
  refine z_callV F B cal_yX6_prepare (m_prepare R) dX10_pass_8 rfl rfl (Nat.le_of_ble_eq_true rfl) (by decide) (by decide) (by decide) ml_X10_62 im_yX6_prepare se_yX6_prepare (R.2.2.2.2.1.choose_spec.1) (by decide) rfl rfl (fun v hX qX => ?_) (fun C h1 q => q.elim)
  obtain ⟨rfl, R1⟩ := qX
  refine z_aload_n F dX10_pass_11 rfl rfl ?_
  refine z_aload_n F dX10_pass_12 rfl rfl ?_
  refine z_iload_n F dX10_pass_13 rfl rfl ?_
  refine z_callV F B cal_yX10_passMinutes (m_passMinutes hm R1 hO (by omega)) dX10_pass_14 rfl rfl (Nat.le_of_ble_eq_true rfl) (by decide) (by decide) (by decide) ml_X10_219 im_yX10_passMinutes se_yX10_passMinutes R1.2.1 (by decide) rfl rfl (fun v hX qX => ?_) (fun C h1 q => q.elim)
  obtain ⟨rfl, R2⟩ := qX
  refine z_callV F B cal_yX10_settle (m_settle hb.1 R2) dX10_pass_17 rfl rfl (Nat.le_of_ble_eq_true rfl) (by decide) (by decide) (by decide) ml_X10_70 im_yX10_settle se_yX10_settle R2.2.1 (by decide) rfl rfl (fun v hX qX => ?_) (fun D h1 q => ⟨q.1, by unfold f_fin; rw [if_pos (by have h9 : (f_ps S.1 m).1 < 0 := (by rcases q.1 with q | q | q <;> (have := q.1; change (f_ps S.1 m).1 = _ at this; omega)); exact h9)]; exact q.2⟩)
  obtain ⟨q1, rfl, R3⟩ := qX
  change ¬ (f_ps S.1 m).1 = -1 ∧ ¬ (f_ps S.1 m).1 = -2 ∧ ¬ (f_ps S.1 m).1 = -3 at q1
  exact Z.widen (by decide) (by decide) (z_ireturn F rfl B dX10_pass_20 ⟨by omega, rfl, by unfold f_fin; rw [if_neg (by omega)]; exact R3⟩)
end
