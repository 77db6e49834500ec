/-! a ship is written -/
theorem zRB.line {o : Nat} {S : zBt} {h h' : zH} (R : zRB o S h) (s : zSame (zFrom (o + 210)) h h') (L : zLn (o + 210) h') : zRB o S h' := by
  obtain ⟨z, r0, r1, r2, r3, r4, r5, r6, r7, r8⟩ := R
  have hN : ∀ a, a < o + 210 → ¬ zFrom (o + 210) a := fun a g q => by have q : o + 210 ≤ a := q; omega
  exact ⟨z, s.get r0 (hN _ (by omega)), r1.same s (fun a g1 g2 => hN _ (by omega)), r2.same s (fun a g1 g2 => hN _ (by omega)), r3.same s (fun a g1 g2 => hN _ (by omega)), r4.same s (fun a g1 g2 => hN _ (by omega)), r5.same s (fun a g1 g2 => hN _ (by omega)), r6.same s (hN _ (by omega)), r7.same s (fun a g1 g2 => hN _ (by omega)), L⟩
section
variable {o K : Nat} {S : zBt} {h : zH}
theorem n_writeShip {i : Nat} (hi : i < S.1.2.2.2.1.2) (Bs : zRs h) (R : zRB o S h) (hO : zOk K S.1) (hK : K < 2000000) : zMet yX10_writeShip cX10_writeShip 3 (some .int) 4 0 0 [.ref o, .int (iI (i : Int))] h (fun v h' => (∃ c : Nat, 6 ≤ c ∧ c ≤ 16 ∧ v = some (.int (iI (c : Int)))) ∧ zRB o S h') (fun _ _ => False) := by
  refine zMet.go (by decide +kernel) (Nat.le_of_ble_eq_true rfl) ?_
  intro X F B hnl hR hn
  have z := R.1
  have hz : zNR ≤ o + 210 := by omega
  have r0 := R.2.1
  obtain ⟨σ, τ, r1⟩ := R.2.2.1
  obtain ⟨cnt0, L⟩ := R.2.2.2.2.2.2.2.2.2.lc
  have hc0 : cnt0 ≤ 65536 := by obtain ⟨_, _, _, _, _, _, _, q1, _, q2⟩ := L; omega
  have hn6 := hO.2.2.2.2.1
  have si := r1.si (i := i) (by omega)
  have ti := r1.pt.1 i (by omega)
  have so := hO.2.2.1 i
  have so3 := so.2.2.1
  generalize hsp : S.1.2.2.1 i = sp at si so so3
  have hBs : ∀ h1, zSame (zFrom (o + 210)) h h1 → zRs h1 := fun h1 q => Bs.same q (fun a ha g => by have g : o + 210 ≤ a := g; omega)
  have h0s : ∀ h1, zSame (zFrom (o + 210)) h h1 → h1[o]? = some (12, zBf o S) := fun h1 q => q.get r0 (fun g => by have g : o + 210 ≤ o := g; omega)
  have hss : ∀ h1, zSame (zFrom (o + 210)) h h1 → h1[τ i]? = some (10, zSf sp) := fun h1 q => q.get si (fun g => by have g : o + 210 ≤ τ i := g; omega)
  have h111 : ∀ (c1 : Nat) (h1 : zH), 4 ≤ c1 → c1 ≤ 8 → zLc (o + 210) c1 h1 → zSame (zFrom (o + 210)) h h1 → Z X 0 0 111 [(2, .ref (τ i)), (0, .ref o)] [] h1 := by
    intro c1 h1 hc1 hc2 L1 s1
    obtain ⟨fs1, ob1⟩ := L1.ob
    refine z_aload_n F dX10_writeShip_111 rfl rfl ?_
    refine z_getfield F fl_X10_58 dX10_writeShip_112 (h0s _ s1) (by decide) rfl ?_
    refine zi_bipush F dX10_writeShip_115 (by decide) ?_
    refine z_callV F B cal_yJ4_append_cf468 (m_sbChar4 hz L1 (by omega) (by omega)) dX10_writeShip_117 rfl rfl (Nat.le_of_ble_eq_true rfl) (by decide) (by decide) (by decide) ml_X10_369 im_yJ4_append_cf468 se_yJ4_append_cf468 ob1 (by decide) rfl rfl (fun v hX qX => ?_) (fun C h1 q => q.elim)
    obtain ⟨rfl, L2, s2⟩ := qX
    have s2 := s1.tr s2
    obtain ⟨fs2, ob2⟩ := L2.ob
    refine z_aload_n F dX10_writeShip_120 rfl rfl ?_
    refine z_getfield F fl_X10_243 dX10_writeShip_121 (hss _ s2) (by decide) rfl ?_
    refine z_callV F B cal_yJ4_append_bf812 (m_sbInt4 (n := sp.2.2.2.2) (by omega) hz (hBs _ s2) L2 (by split <;> omega)) dX10_writeShip_124 rfl rfl (Nat.le_of_ble_eq_true rfl) (by decide) (by decide) (by decide) ml_X10_375 im_yJ4_append_bf812 se_yJ4_append_bf812 ob2 (by decide) rfl rfl (fun v hX qX => ?_) (fun C h1 q => q.elim)
    obtain ⟨rfl, w3, q31, q32, q33, L3, s3⟩ := qX
    have s3 := s2.tr s3
    obtain ⟨fs3, ob3⟩ := L3.ob
    refine z_pop F dX10_writeShip_127 rfl ?_
    refine z_aload_n F dX10_writeShip_128 rfl rfl ?_
    refine z_getfield F fl_X10_58 dX10_writeShip_129 (h0s _ s3) (by decide) rfl ?_
    refine z_callV F B cal_yJ4_length_8abf5 (m_sbLen4 L3) dX10_writeShip_132 rfl rfl (Nat.le_of_ble_eq_true rfl) (by decide) (by decide) (by decide) ml_X10_373 im_yJ4_length_8abf5 se_yJ4_length_8abf5 ob3 (by decide) rfl rfl (fun v hX qX => ?_) (fun C h1 q => q.elim)
    obtain ⟨rfl, qX⟩ := qX
    rw [qX]
    clear qX hX
    exact Z.widen (by decide) (by decide) (z_ireturn F rfl B dX10_writeShip_135 ⟨⟨c1 + 1 + w3, by omega, by obtain ⟨_, _, _, _, _, _, _, _, _, _⟩ := L3; omega, rfl⟩, R.line s3 L3.ln⟩)
  have h73 : ∀ (c1 : Nat) (h1 : zH), 4 ≤ c1 → c1 ≤ 5 → zLc (o + 210) c1 h1 → zSame (zFrom (o + 210)) h h1 → Z X 0 0 73 [(2, .ref (τ i)), (0, .ref o)] [] h1 := by
    intro c1 h1 hc1 hc2 L1 s1
    obtain ⟨fs1, ob1⟩ := L1.ob
    rcases hgo : sp.2.2.1 with _ | gc
    · refine z_aload_n F dX10_writeShip_73 rfl rfl ?_
      refine z_getfield F fl_X10_378 dX10_writeShip_74 (hss _ s1) (by decide) rfl ?_
      rw [hgo, show zGo none = -1 from rfl]
      refine zi_iconst F dX10_writeShip_77 ?_
      refine zi_icmp_eq (tgt := 111) F dX10_writeShip_78 (by decide) (by first | omega | (dsimp only at *; omega)) (fun c78 => ?_) (fun c78 => False.elim (by first | omega | (dsimp only at *; omega)))
      exact h111 c1 _ (by omega) (by omega) L1 s1
    · have hgc := so3 gc hgo
      refine z_aload_n F dX10_writeShip_73 rfl rfl ?_
      refine z_getfield F fl_X10_378 dX10_writeShip_74 (hss _ s1) (by decide) rfl ?_
      rw [hgo, show zGo (some gc) = (gc : Int) from rfl]
      refine zi_iconst F dX10_writeShip_77 ?_
      refine zi_icmp_eq (tgt := 111) F dX10_writeShip_78 (by decide) (by first | omega | (dsimp only at *; omega)) (fun c78 => False.elim (by first | omega | (dsimp only at *; omega))) (fun c78 => ?_)
      refine z_aload_n F dX10_writeShip_81 rfl rfl ?_
      refine z_getfield F fl_X10_58 dX10_writeShip_82 (h0s _ s1) (by decide) rfl ?_
      refine zi_bipush F dX10_writeShip_85 (by decide) ?_
      refine z_callV F B cal_yJ4_append_cf468 (m_sbChar4 hz L1 (by omega) (by omega)) dX10_writeShip_87 rfl rfl (Nat.le_of_ble_eq_true rfl) (by decide) (by decide) (by decide) ml_X10_369 im_yJ4_append_cf468 se_yJ4_append_cf468 ob1 (by decide) rfl rfl (fun v hX qX => ?_) (fun C h1 q => q.elim)
      obtain ⟨rfl, L2, s2⟩ := qX
      have s2 := s1.tr s2
      obtain ⟨fs2, ob2⟩ := L2.ob
      refine z_aload_n F dX10_writeShip_90 rfl rfl ?_
      refine z_getfield F fl_X10_378 dX10_writeShip_91 (hss _ s2) (by decide) rfl ?_
      rw [hgo, show zGo (some gc) = (gc : Int) from rfl]
      refine z_callS F B cal_yX10_columnIn (m_columnIn (by omega) _) dX10_writeShip_94 rfl rfl (Nat.le_of_ble_eq_true rfl) (by decide) (by decide) (by decide) ml_X10_93 st_yX10_columnIn (fun v hX qX => ?_) (fun C h1 q => q.elim)
      obtain ⟨rfl, qX⟩ := qX
      rw [qX]
      clear qX hX
      rw [show ((gc : Int) % 8) = ((gc % 8 : Nat) : Int) by omega]
      refine z_callV F B cal_yJ4_append_bf812 (m_sbInt4 (n := gc % 8) (by omega) hz (hBs _ s2) L2 (by rw [if_pos (by omega)]; omega)) dX10_writeShip_97 rfl rfl (Nat.le_of_ble_eq_true rfl) (by decide) (by decide) (by decide) ml_X10_375 im_yJ4_append_bf812 se_yJ4_append_bf812 ob2 (by decide) rfl rfl (fun v hX qX => ?_) (fun C h1 q => q.elim)
      obtain ⟨rfl, w3, q31, q32, q33, L3, s3⟩ := qX
      have s3 := s2.tr s3
      obtain ⟨fs3, ob3⟩ := L3.ob
      have e3 := q33 (by omega)
      subst e3
      refine z_aload_n F dX10_writeShip_100 rfl rfl ?_
      refine z_getfield F fl_X10_378 dX10_writeShip_101 (hss _ s3) (by decide) rfl ?_
      rw [hgo, show zGo (some gc) = (gc : Int) from rfl]
      refine z_callS F B cal_yX10_rowIn (m_rowIn (by omega) _) dX10_writeShip_104 rfl rfl (Nat.le_of_ble_eq_true rfl) (by decide) (by decide) (by decide) ml_X10_96 st_yX10_rowIn (fun v hX qX => ?_) (fun C h1 q => q.elim)
      obtain ⟨rfl, qX⟩ := qX
      rw [qX]
      clear qX hX
      rw [show ((gc : Int) / 8) = ((gc / 8 : Nat) : Int) by omega]
      refine z_callV F B cal_yJ4_append_bf812 (m_sbInt4 (n := gc / 8) (by omega) hz (hBs _ s3) L3 (by rw [if_pos (by omega)]; omega)) dX10_writeShip_107 rfl rfl (Nat.le_of_ble_eq_true rfl) (by decide) (by decide) (by decide) ml_X10_375 im_yJ4_append_bf812 se_yJ4_append_bf812 ob3 (by decide) rfl rfl (fun v hX qX => ?_) (fun C h1 q => q.elim)
      obtain ⟨rfl, w4, q41, q42, q43, L4, s4⟩ := qX
      have s4 := s3.tr s4
      have e4 := q43 (by omega)
      subst e4
      refine z_pop F dX10_writeShip_110 rfl ?_
      exact h111 _ _ (by omega) (by omega) L4 s4
  refine z_aload_n F dX10_writeShip_0 rfl rfl ?_
  refine z_iload_n F dX10_writeShip_1 rfl rfl ?_
  refine z_callV F B cal_yX10_existingShip (n_existingShip hi r0 r1 hO (by omega)) dX10_writeShip_2 rfl rfl (Nat.le_of_ble_eq_true rfl) (by decide) (by decide) (by decide) ml_X10_225 im_yX10_existingShip se_yX10_existingShip r0 (by decide) rfl rfl (fun v hX qX => ?_) (fun C h1 q => q.elim)
  obtain ⟨rfl, qX⟩ := qX
  rw [qX]
  clear qX hX
  refine z_astore_n F dX10_writeShip_5 rfl rfl (hnl _ rfl) ?_
  refine z_aload_n F dX10_writeShip_6 rfl rfl ?_
  refine z_getfield F fl_X10_58 dX10_writeShip_7 r0 (by decide) rfl ?_
  refine zi_iconst F dX10_writeShip_10 ?_
  refine z_callV F B cal_yJ4_setLength_d00df (m_sbSet4 hz L hc0) dX10_writeShip_11 rfl rfl (Nat.le_of_ble_eq_true rfl) (by decide) (by decide) (by decide) ml_X10_362 im_yJ4_setLength_d00df se_yJ4_setLength_d00df L.ob.choose_spec (by decide) rfl rfl (fun v hX qX => ?_) (fun C h1 q => q.elim)
  obtain ⟨rfl, L1, s1⟩ := qX
  refine z_aload_n F dX10_writeShip_14 rfl rfl ?_
  refine z_getfield F fl_X10_58 dX10_writeShip_15 (h0s _ s1) (by decide) rfl ?_
  refine z_aload_n F dX10_writeShip_18 rfl rfl ?_
  refine z_getfield F fl_X10_229 dX10_writeShip_19 (hss _ s1) (by decide) rfl ?_
  refine z_callS F B cal_yX10_columnIn (m_columnIn (by omega) _) dX10_writeShip_22 rfl rfl (Nat.le_of_ble_eq_true rfl) (by decide) (by decide) (by decide) ml_X10_93 st_yX10_columnIn (fun v hX qX => ?_) (fun C h1 q => q.elim)
  obtain ⟨rfl, qX⟩ := qX
  rw [qX]
  clear qX hX
  rw [show ((sp.1 : Int) % 8) = ((sp.1 % 8 : Nat) : Int) by omega]
  refine z_callV F B cal_yJ4_append_bf812 (m_sbInt4 (n := sp.1 % 8) (by omega) hz (hBs _ s1) L1 (by rw [if_pos (by omega)]; omega)) dX10_writeShip_25 rfl rfl (Nat.le_of_ble_eq_true rfl) (by decide) (by decide) (by decide) ml_X10_375 im_yJ4_append_bf812 se_yJ4_append_bf812 L1.ob.choose_spec (by decide) rfl rfl (fun v hX qX => ?_) (fun C h1 q => q.elim)
  obtain ⟨rfl, w2, q21, q22, q23, L2, s2⟩ := qX
  have s2 := s1.tr s2
  have e2 := q23 (by omega)
  subst e2
  refine z_aload_n F dX10_writeShip_28 rfl rfl ?_
  refine z_getfield F fl_X10_229 dX10_writeShip_29 (hss _ s2) (by decide) rfl ?_
  refine z_callS F B cal_yX10_rowIn (m_rowIn (by omega) _) dX10_writeShip_32 rfl rfl (Nat.le_of_ble_eq_true rfl) (by decide) (by decide) (by decide) ml_X10_96 st_yX10_rowIn (fun v hX qX => ?_) (fun C h1 q => q.elim)
  obtain ⟨rfl, qX⟩ := qX
  rw [qX]
  clear qX hX
  rw [show ((sp.1 : Int) / 8) = ((sp.1 / 8 : Nat) : Int) by omega]
  refine z_callV F B cal_yJ4_append_bf812 (m_sbInt4 (n := sp.1 / 8) (by omega) hz (hBs _ s2) L2 (by rw [if_pos (by omega)]; omega)) dX10_writeShip_35 rfl rfl (Nat.le_of_ble_eq_true rfl) (by decide) (by decide) (by decide) ml_X10_375 im_yJ4_append_bf812 se_yJ4_append_bf812 L2.ob.choose_spec (by decide) rfl rfl (fun v hX qX => ?_) (fun C h1 q => q.elim)
  obtain ⟨rfl, w3, q31, q32, q33, L3, s3⟩ := qX
  have s3 := s2.tr s3
  have e3 := q33 (by omega)
  subst e3
  refine z_pop F dX10_writeShip_38 rfl ?_
  refine z_aload_n F dX10_writeShip_39 rfl rfl ?_
  refine z_getfield F fl_X10_58 dX10_writeShip_40 (h0s _ s3) (by decide) rfl ?_
  refine zi_bipush F dX10_writeShip_43 (by decide) ?_
  refine z_callV F B cal_yJ4_append_cf468 (m_sbChar4 hz L3 (by omega) (by omega)) dX10_writeShip_45 rfl rfl (Nat.le_of_ble_eq_true rfl) (by decide) (by decide) (by decide) ml_X10_369 im_yJ4_append_cf468 se_yJ4_append_cf468 L3.ob.choose_spec (by decide) rfl rfl (fun v hX qX => ?_) (fun C h1 q => q.elim)
  obtain ⟨rfl, L4, s4⟩ := qX
  have s4 := s3.tr s4
  refine z_aload_n F dX10_writeShip_48 rfl rfl ?_
  refine z_getfield F fl_X10_246 dX10_writeShip_49 (hss _ s4) (by decide) rfl ?_
  refine z_callV F B cal_yJ4_append_bf812 (m_sbInt4 (n := sp.2.1) (by omega) hz (hBs _ s4) L4 (by rw [if_pos (by omega)]; omega)) dX10_writeShip_52 rfl rfl (Nat.le_of_ble_eq_true rfl) (by decide) (by decide) (by decide) ml_X10_375 im_yJ4_append_bf812 se_yJ4_append_bf812 L4.ob.choose_spec (by decide) rfl rfl (fun v hX qX => ?_) (fun C h1 q => q.elim)
  obtain ⟨rfl, w5, q51, q52, q53, L5, s5⟩ := qX
  have s5 := s4.tr s5
  have e5 := q53 (by omega)
  subst e5
  refine z_pop F dX10_writeShip_55 rfl ?_
  refine z_aload_n F dX10_writeShip_56 rfl rfl ?_
  refine z_getfield F fl_X10_236 dX10_writeShip_57 (hss _ s5) (by decide) rfl ?_
  refine zi_if_eq (tgt := 73) F dX10_writeShip_60 (by decide) (zBo_b _) (fun c60 => ?_) (fun c60 => ?_)
  · first | exact Z.keys [2, 0] rfl (h73 _ _ (by omega) (by omega) L6 s6) | exact Z.keys [2, 0] rfl (h73 _ _ (by omega) (by omega) L5 s5)
  · refine z_aload_n F dX10_writeShip_63 rfl rfl ?_
    refine z_getfield F fl_X10_58 dX10_writeShip_64 (h0s _ s5) (by decide) rfl ?_
    refine zi_bipush F dX10_writeShip_67 (by decide) ?_
    refine z_callV F B cal_yJ4_append_cf468 (m_sbChar4 hz L5 (by omega) (by omega)) dX10_writeShip_69 rfl rfl (Nat.le_of_ble_eq_true rfl) (by decide) (by decide) (by decide) ml_X10_369 im_yJ4_append_cf468 se_yJ4_append_cf468 L5.ob.choose_spec (by decide) rfl rfl (fun v hX qX => ?_) (fun C h1 q => q.elim)
    obtain ⟨rfl, L6, s6⟩ := qX
    have s6 := s5.tr s6
    refine z_pop F dX10_writeShip_72 rfl ?_
    first | exact Z.keys [2, 0] rfl (h73 _ _ (by omega) (by omega) L6 s6) | exact Z.keys [2, 0] rfl (h73 _ _ (by omega) (by omega) L5 s5)
end
