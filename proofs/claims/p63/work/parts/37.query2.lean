/-! the chart's calls that only read: sweeping, ships, ranks -/
section
variable {o K : Nat} {S : zBt} {σ τ : Nat → Nat} {C : zCo} {h : zH}
theorem m_reachedCell {i : Nat} {x y : Int} (hi : i < C.2.2.2.1.1) (hx : zI32 x) (hy : zI32 y) (ho : h[o]? = some (12, zBf o S)) (R : zRepC (o + 1) σ τ C h) (hO : zOk K C) (hK : K < 2000000) : zMet yX10_reachedCell cX10_reachedCell 5 (some .int) 9 2 12 [.ref o, .ref (σ i), .int (iI x), .int (iI y)] h (fun v h' => ((0 ≤ x ∧ x < 8 ∧ 0 ≤ y ∧ y < 8) ∧ f_rch C (C.2.1 i) (8 * y + x).toNat = true ∧ v = some (.int (iI ((8 * y + x).toNat : Nat)))) ∧ h' = h) (fun D h' => ((0 ≤ x ∧ x < 8 ∧ 0 ≤ y ∧ y < 8) → f_rch C (C.2.1 i) (8 * y + x).toNat = false) ∧ zTh [xI, xN] h D h') := by
  refine zMet.go (by decide +kernel) (Nat.le_of_ble_eq_true rfl) ?_
  intro X F B hnl hR hn
  have hl6 := hO.2.2.2.1
  refine z_iload_n F dX10_reachedCell_0 rfl rfl ?_
  refine z_iload_n F dX10_reachedCell_1 rfl rfl ?_
  refine z_callS F B cal_yX10_existingCell (m_existingCell hx hy _) dX10_reachedCell_2 rfl rfl (Nat.le_of_ble_eq_true rfl) (by decide) (by decide) (by decide) ml_X10_74 st_yX10_existingCell (fun v hX qX => ?_) (fun D h1 q => ⟨fun hv => absurd hv q.1, by rw [q.2.1]; decide, q.2.2⟩)
  obtain ⟨hv, rfl, qX⟩ := qX
  rw [qX]; clear qX hX
  rw [show (8 * y + x : Int) = (((8 * y + x).toNat : Nat) : Int) by omega]
  refine z_istore F dX10_reachedCell_5 rfl (hnl _ rfl) ?_
  refine z_aload_n F dX10_reachedCell_7 rfl rfl ?_
  refine z_getfield F fl_X10_12 dX10_reachedCell_8 ho (by decide) rfl ?_
  refine z_aload_n F dX10_reachedCell_11 rfl rfl ?_
  refine z_iload F dX10_reachedCell_12 rfl ?_
  refine z_callV F B cal_yX2_canReach (m_canReach R hO (R.li (by omega)) (hO.2.1 i) (by omega)) dX10_reachedCell_14 rfl rfl (Nat.le_of_ble_eq_true rfl) (by decide) (by decide) (by decide) ml_X10_164 im_yX2_canReach se_yX2_canReach R.ob (by decide) rfl rfl (fun v hX qX => ?_) (fun C h1 q => q.elim)
  obtain ⟨rfl, qX⟩ := qX
  rw [qX]
  clear qX hX
  refine zi_if_ne (tgt := 31) F dX10_reachedCell_17 (by decide) (zBo_b _) (fun c17 => ?_) (fun c17 => ?_)
  · refine z_iload F dX10_reachedCell_31 rfl ?_
    exact Z.widen (by decide) (by decide) (z_ireturn F rfl B dX10_reachedCell_33 ⟨⟨hv, by rw [zBo_n] at c17; exact c17, rfl⟩, rfl⟩)
  · exact z_throwGW F B thr_X10_140_484_144 dX10_reachedCell_20 dX10_reachedCell_23 dX10_reachedCell_24 dX10_reachedCell_27 dX10_reachedCell_30 (by decide) (by decide) (by decide) (by decide) (fun j => ⟨fun _ => by rw [zBo_z] at c17; exact c17, by decide, j, rfl⟩)
/-- minutes until light l sweeps the cell, minute by minute -/
def f_mut (C : zCo) (l : zLt) (c : Nat) : Nat := if c = l.1 then 0 else f_mus l C.2.2.2.2.1 (zSec l.1 c) 24 0
def f_mut2 (C : zCo) (l : zLt) (c : Nat) : Int := if c = l.1 then 0 else f_mud l C.2.2.2.2.1 (zSec l.1 c)
theorem m_minutesUntilSwept {z x y : Int} (hz : zI32 z) (hx : zI32 x) (hy : zI32 y) (ho : h[o]? = some (12, zBf o S)) (R : zRepC (o + 1) σ τ C h) (hO : zOk K C) (hK : K < 2000000) : zMet yX10_minutesUntilSwept cX10_minutesUntilSwept 8 (some .int) 10 3 18 [.ref o, .int (iI z), .int (iI x), .int (iI y)] h (fun v h' => (∃ i : Nat, z = i ∧ i < C.2.2.2.1.1 ∧ (0 ≤ x ∧ x < 8 ∧ 0 ≤ y ∧ y < 8) ∧ f_rch C (C.2.1 i) (8 * y + x).toNat = true ∧ v = some (.int (iI ((f_mut C (C.2.1 i) (8 * y + x).toNat : Nat))))) ∧ h' = h) (fun D h' => (∀ i : Nat, z = i → i < C.2.2.2.1.1 → (0 ≤ x ∧ x < 8 ∧ 0 ≤ y ∧ y < 8) → f_rch C (C.2.1 i) (8 * y + x).toNat = false) ∧ zTh [xI, xN] h D h') := by
  refine zMet.go (by decide +kernel) (Nat.le_of_ble_eq_true rfl) ?_
  intro X F B hnl hR hn
  have hl6 := hO.2.2.2.1
  have hm := hO.2.2.2.2.2.1
  refine z_aload_n F dX10_minutesUntilSwept_0 rfl rfl ?_
  refine z_iload_n F dX10_minutesUntilSwept_1 rfl rfl ?_
  refine z_callV F B cal_yX10_existingLight (m_existingLight hz ho R hO) dX10_minutesUntilSwept_2 rfl rfl (Nat.le_of_ble_eq_true rfl) (by decide) (by decide) (by decide) ml_X10_147 im_yX10_existingLight se_yX10_existingLight ho (by decide) rfl rfl (fun v hX qX => ?_) (fun D h1 q => ⟨fun i e hi _ => absurd (show 0 ≤ z ∧ z < C.2.2.2.1.1 by omega) q.1, List.mem_cons.mpr (Or.inl (List.mem_singleton.mp q.2.1)), q.2.2⟩)
  obtain ⟨⟨i, rfl, hi, rfl⟩, qX⟩ := qX
  rw [qX]; clear qX hX
  refine z_astore F dX10_minutesUntilSwept_5 rfl (hnl _ rfl) ?_
  refine z_aload_n F dX10_minutesUntilSwept_7 rfl rfl ?_
  refine z_aload F dX10_minutesUntilSwept_8 rfl ?_
  refine z_iload_n F dX10_minutesUntilSwept_10 rfl rfl ?_
  refine z_iload_n F dX10_minutesUntilSwept_11 rfl rfl ?_
  refine z_callV F B cal_yX10_reachedCell (m_reachedCell hi hx hy ho R hO hK) dX10_minutesUntilSwept_12 rfl rfl (Nat.le_of_ble_eq_true rfl) (by decide) (by decide) (by decide) ml_X10_171 im_yX10_reachedCell se_yX10_reachedCell ho (by decide) rfl rfl (fun v hX qX => ?_) (fun D h1 q => ⟨fun i2 e h2 hv => by rw [show i2 = i by omega]; exact q.1 hv, q.2⟩)
  obtain ⟨⟨hv, hre, rfl⟩, qX⟩ := qX
  rw [qX]; clear qX hX
  have hlk := hO.2.1 i
  have hl1 := hlk.1
  have hcl : (8 * y + x).toNat < 64 := by omega
  generalize hce : (8 * y + x).toNat = ce at hre hcl ⊢
  refine z_istore F dX10_minutesUntilSwept_15 rfl (hnl _ rfl) ?_
  refine z_iload F dX10_minutesUntilSwept_17 rfl ?_
  refine z_aload F dX10_minutesUntilSwept_19 rfl ?_
  refine z_getfield F fl_X10_156 dX10_minutesUntilSwept_21 (R.li (by omega)) (by decide) rfl ?_
  refine zi_icmp_ne (tgt := 29) F dX10_minutesUntilSwept_24 (by decide) (by omega) (fun c24 => ?_) (fun c24 => ?_); rotate_left
  · refine zi_iconst F dX10_minutesUntilSwept_27 ?_
    exact Z.widen (by decide) (by decide) (z_ireturn F rfl B dX10_minutesUntilSwept_28 ⟨⟨i, rfl, hi, hv, by rw [hce]; exact hre, by rw [hce]; unfold f_mut; rw [if_pos (by omega)]; rfl⟩, rfl⟩)
  have hs8 := zSec_lt (C.2.1 i).1 ce
  have hf : f_mut C (C.2.1 i) ce = f_mus (C.2.1 i) C.2.2.2.2.1 (zSec (C.2.1 i).1 ce) 24 0 := by unfold f_mut; rw [if_neg (by omega)]
  refine z_aload F dX10_minutesUntilSwept_29 rfl ?_
  refine z_iload F dX10_minutesUntilSwept_31 rfl ?_
  refine z_callV F B cal_yX7_sectorWith (m_sectorWith (R.li (by omega)) hl1 hcl) dX10_minutesUntilSwept_33 rfl rfl (Nat.le_of_ble_eq_true rfl) (by decide) (by decide) (by decide) ml_X10_161 im_yX7_sectorWith se_yX7_sectorWith (R.li (by omega)) (by decide) rfl rfl (fun v hX qX => ?_) (fun C h1 q => q.elim)
  obtain ⟨rfl, qX⟩ := qX
  rw [qX]
  clear qX hX
  refine z_istore F dX10_minutesUntilSwept_36 rfl (hnl _ rfl) ?_
  refine zi_iconst F dX10_minutesUntilSwept_38 ?_
  refine z_istore F dX10_minutesUntilSwept_39 rfl (hnl _ rfl) ?_
  suffices KK : ∀ n m : Nat, n + m = 24 → f_mut C (C.2.1 i) ce = f_mus (C.2.1 i) C.2.2.2.2.1 (zSec (C.2.1 i).1 ce) n m → Z X 3 18 41 [(7, .int (iI m)), (6, .int (iI (zSec (C.2.1 i).1 ce))), (4, .ref (σ i)), (0, .ref o)] [] h from Z.widen (by decide) (by decide) (Z.keys [7, 6, 4, 0] rfl (KK 24 0 rfl hf))
  intro n
  induction n with
  | zero =>
    intro m hmn he
    refine z_iload F dX10_minutesUntilSwept_41 rfl ?_
    refine zi_bipush F dX10_minutesUntilSwept_43 (by decide) ?_
    refine zi_icmp_ge (tgt := 74) F dX10_minutesUntilSwept_45 (by decide) (by first | omega | (dsimp only at *; omega)) (fun c45 => ?_) (fun c45 => False.elim (by first | omega | (dsimp only at *; omega)))
    refine z_iload F dX10_minutesUntilSwept_74 rfl ?_
    exact Z.widen (by decide) (by decide) (z_ireturn F rfl B dX10_minutesUntilSwept_76 ⟨⟨i, rfl, hi, hv, by rw [hce]; exact hre, by rw [hce, he]; rfl⟩, rfl⟩)
  | succ n ih =>
    intro m hmn he
    have hb8 : zBeam (C.2.1 i) (C.2.2.2.2.1 + m) < 8 := Nat.mod_lt _ (by decide)
    replace he : f_mut C (C.2.1 i) ce = if zBeam (C.2.1 i) (C.2.2.2.2.1 + m) = zSec (C.2.1 i).1 ce then m else f_mus (C.2.1 i) C.2.2.2.2.1 (zSec (C.2.1 i).1 ce) n (m + 1) := he
    refine z_iload F dX10_minutesUntilSwept_41 rfl ?_
    refine zi_bipush F dX10_minutesUntilSwept_43 (by decide) ?_
    refine zi_icmp_ge (tgt := 74) F dX10_minutesUntilSwept_45 (by decide) (by first | omega | (dsimp only at *; omega)) (fun c45 => False.elim (by first | omega | (dsimp only at *; omega))) (fun c45 => ?_)
    refine z_aload F dX10_minutesUntilSwept_48 rfl ?_
    refine z_aload_n F dX10_minutesUntilSwept_50 rfl rfl ?_
    refine z_getfield F fl_X10_12 dX10_minutesUntilSwept_51 ho (by decide) rfl ?_
    refine z_getfield F fl_X10_84 dX10_minutesUntilSwept_54 R.ob (by decide) rfl ?_
    refine z_iload F dX10_minutesUntilSwept_57 rfl ?_
    refine zi_iadd F dX10_minutesUntilSwept_59 ?_
    rw [show ((C.2.2.2.2.1 : Int) + m) = ((C.2.2.2.2.1 + m : Nat) : Int) from rfl]
    refine z_callV F B cal_yX7_sectorAt (m_sectorAt (R.li (by omega)) hlk (by omega)) dX10_minutesUntilSwept_60 rfl rfl (Nat.le_of_ble_eq_true rfl) (by decide) (by decide) (by decide) ml_X10_151 im_yX7_sectorAt se_yX7_sectorAt (R.li (by omega)) (by decide) rfl rfl (fun v hX qX => ?_) (fun C h1 q => q.elim)
    obtain ⟨rfl, qX⟩ := qX
    rw [qX]
    clear qX hX
    refine z_iload F dX10_minutesUntilSwept_63 rfl ?_
    refine zi_icmp_eq (tgt := 74) F dX10_minutesUntilSwept_65 (by decide) (by first | omega | (dsimp only at *; omega)) (fun c65 => ?_) (fun c65 => ?_)
    · refine z_iload F dX10_minutesUntilSwept_74 rfl ?_
      exact Z.widen (by decide) (by decide) (z_ireturn F rfl B dX10_minutesUntilSwept_76 ⟨⟨i, rfl, hi, hv, by rw [hce]; exact hre, by rw [hce, he, if_pos (by omega)]⟩, rfl⟩)
    · refine zi_iinc F dX10_minutesUntilSwept_68 rfl rfl (hnl _ rfl) ?_
      refine z_goto (tgt := 41) F dX10_minutesUntilSwept_71 (by decide) ?_
      exact Z.widen (by decide) (by decide) (Z.keys [7, 6, 4, 0] rfl (ih (m + 1) (by omega) (by rw [he, if_neg (by omega)])))
theorem m_minutesUntilSweptByDivision {z x y : Int} (hz : zI32 z) (hx : zI32 x) (hy : zI32 y) (ho : h[o]? = some (12, zBf o S)) (R : zRepC (o + 1) σ τ C h) (hO : zOk K C) (hK : K < 2000000) : zMet yX10_minutesUntilSweptByDivision cX10_minutesUntilSweptByDivision 8 (some .int) 10 3 18 [.ref o, .int (iI z), .int (iI x), .int (iI y)] h (fun v h' => (∃ i : Nat, z = i ∧ i < C.2.2.2.1.1 ∧ (0 ≤ x ∧ x < 8 ∧ 0 ≤ y ∧ y < 8) ∧ f_rch C (C.2.1 i) (8 * y + x).toNat = true ∧ v = some (.int (iI (f_mut2 C (C.2.1 i) (8 * y + x).toNat)))) ∧ h' = h) (fun D h' => (∀ i : Nat, z = i → i < C.2.2.2.1.1 → (0 ≤ x ∧ x < 8 ∧ 0 ≤ y ∧ y < 8) → f_rch C (C.2.1 i) (8 * y + x).toNat = false) ∧ zTh [xI, xN] h D h') := by
  refine zMet.go (by decide +kernel) (Nat.le_of_ble_eq_true rfl) ?_
  intro X F B hnl hR hn
  have hl6 := hO.2.2.2.1
  have hm := hO.2.2.2.2.2.1
  refine z_aload_n F dX10_minutesUntilSweptByDivision_0 rfl rfl ?_
  refine z_iload_n F dX10_minutesUntilSweptByDivision_1 rfl rfl ?_
  refine z_callV F B cal_yX10_existingLight (m_existingLight hz ho R hO) dX10_minutesUntilSweptByDivision_2 rfl rfl (Nat.le_of_ble_eq_true rfl) (by decide) (by decide) (by decide) ml_X10_147 im_yX10_existingLight se_yX10_existingLight ho (by decide) rfl rfl (fun v hX qX => ?_) (fun D h1 q => ⟨fun i e hi _ => absurd (show 0 ≤ z ∧ z < C.2.2.2.1.1 by omega) q.1, List.mem_cons.mpr (Or.inl (List.mem_singleton.mp q.2.1)), q.2.2⟩)
  obtain ⟨⟨i, rfl, hi, rfl⟩, qX⟩ := qX
  rw [qX]; clear qX hX
  refine z_astore F dX10_minutesUntilSweptByDivision_5 rfl (hnl _ rfl) ?_
  refine z_aload_n F dX10_minutesUntilSweptByDivision_7 rfl rfl ?_
  refine z_aload F dX10_minutesUntilSweptByDivision_8 rfl ?_
  refine z_iload_n F dX10_minutesUntilSweptByDivision_10 rfl rfl ?_
  refine z_iload_n F dX10_minutesUntilSweptByDivision_11 rfl rfl ?_
  refine z_callV F B cal_yX10_reachedCell (m_reachedCell hi hx hy ho R hO hK) dX10_minutesUntilSweptByDivision_12 rfl rfl (Nat.le_of_ble_eq_true rfl) (by decide) (by decide) (by decide) ml_X10_171 im_yX10_reachedCell se_yX10_reachedCell ho (by decide) rfl rfl (fun v hX qX => ?_) (fun D h1 q => ⟨fun i2 e h2 hv => by rw [show i2 = i by omega]; exact q.1 hv, q.2⟩)
  obtain ⟨⟨hv, hre, rfl⟩, qX⟩ := qX
  rw [qX]; clear qX hX
  have hlk := hO.2.1 i
  have hl1 := hlk.1
  have hcl : (8 * y + x).toNat < 64 := by omega
  generalize hce : (8 * y + x).toNat = ce at hre hcl ⊢
  refine z_istore F dX10_minutesUntilSweptByDivision_15 rfl (hnl _ rfl) ?_
  refine z_iload F dX10_minutesUntilSweptByDivision_17 rfl ?_
  refine z_aload F dX10_minutesUntilSweptByDivision_19 rfl ?_
  refine z_getfield F fl_X10_156 dX10_minutesUntilSweptByDivision_21 (R.li (by omega)) (by decide) rfl ?_
  refine zi_icmp_ne (tgt := 29) F dX10_minutesUntilSweptByDivision_24 (by decide) (by omega) (fun c24 => ?_) (fun c24 => ?_); rotate_left
  · refine zi_iconst F dX10_minutesUntilSweptByDivision_27 ?_
    exact Z.widen (by decide) (by decide) (z_ireturn F rfl B dX10_minutesUntilSweptByDivision_28 ⟨⟨i, rfl, hi, hv, by rw [hce]; exact hre, by rw [hce]; unfold f_mut2; rw [if_pos (by omega)]⟩, rfl⟩)
  have hs8 := zSec_lt (C.2.1 i).1 ce
  have hb8 : zBeam (C.2.1 i) C.2.2.2.2.1 < 8 := Nat.mod_lt _ (by decide)
  have htl := zTurn_le hlk C.2.2.2.2.1
  have hf : f_mut2 C (C.2.1 i) ce = f_mud (C.2.1 i) C.2.2.2.2.1 (zSec (C.2.1 i).1 ce) := by unfold f_mut2; rw [if_neg (by omega)]
  have hst : ((zSec (C.2.1 i).1 ce : Int) - zBeam (C.2.1 i) C.2.2.2.2.1) % 8 = (f_stps (C.2.1 i) C.2.2.2.2.1 (zSec (C.2.1 i).1 ce) : Nat) := by unfold f_stps; omega
  have hst8 : f_stps (C.2.1 i) C.2.2.2.2.1 (zSec (C.2.1 i).1 ce) < 8 := by unfold f_stps; omega
  unfold f_mud at hf
  have hp0 : (0 : Int) ≤ ((zTurn (C.2.1 i) C.2.2.2.2.1 : Int) + f_stps (C.2.1 i) C.2.2.2.2.1 (zSec (C.2.1 i).1 ce)) * (C.2.1 i).2.2.1 := Int.mul_nonneg (by omega) (by omega)
  have hp1 : ((zTurn (C.2.1 i) C.2.2.2.2.1 : Int) + f_stps (C.2.1 i) C.2.2.2.2.1 (zSec (C.2.1 i).1 ce)) * (C.2.1 i).2.2.1 ≤ ((zTurn (C.2.1 i) C.2.2.2.2.1 : Int) + f_stps (C.2.1 i) C.2.2.2.2.1 (zSec (C.2.1 i).1 ce)) * 24 := Int.mul_le_mul_of_nonneg_left (by have := hlk.2.2.2.1; omega) (by omega)
  refine z_aload F dX10_minutesUntilSweptByDivision_29 rfl ?_
  refine z_iload F dX10_minutesUntilSweptByDivision_31 rfl ?_
  refine z_callV F B cal_yX7_sectorWith (m_sectorWith (R.li (by omega)) hl1 hcl) dX10_minutesUntilSweptByDivision_33 rfl rfl (Nat.le_of_ble_eq_true rfl) (by decide) (by decide) (by decide) ml_X10_161 im_yX7_sectorWith se_yX7_sectorWith (R.li (by omega)) (by decide) rfl rfl (fun v hX qX => ?_) (fun C h1 q => q.elim)
  obtain ⟨rfl, qX⟩ := qX
  rw [qX]
  clear qX hX
  refine z_aload F dX10_minutesUntilSweptByDivision_36 rfl ?_
  refine z_aload_n F dX10_minutesUntilSweptByDivision_38 rfl rfl ?_
  refine z_getfield F fl_X10_12 dX10_minutesUntilSweptByDivision_39 ho (by decide) rfl ?_
  refine z_getfield F fl_X10_84 dX10_minutesUntilSweptByDivision_42 R.ob (by decide) rfl ?_
  refine z_callV F B cal_yX7_sectorAt (m_sectorAt (R.li (by omega)) hlk (by omega)) dX10_minutesUntilSweptByDivision_45 rfl rfl (Nat.le_of_ble_eq_true rfl) (by decide) (by decide) (by decide) ml_X10_151 im_yX7_sectorAt se_yX7_sectorAt (R.li (by omega)) (by decide) rfl rfl (fun v hX qX => ?_) (fun C h1 q => q.elim)
  obtain ⟨rfl, qX⟩ := qX
  rw [qX]
  clear qX hX
  refine zi_isub F dX10_minutesUntilSweptByDivision_48 ?_
  refine zi_bipush F dX10_minutesUntilSweptByDivision_49 (by decide) ?_
  refine z_callS F B cal_yJ9_floorMod_7cf53 (m_floorMod (by omega) _) dX10_minutesUntilSweptByDivision_51 rfl rfl (Nat.le_of_ble_eq_true rfl) (by decide) (by decide) (by decide) ml_X10_175 st_yJ9_floorMod_7cf53 (fun v hX qX => ?_) (fun C h1 q => q.elim)
  obtain ⟨rfl, qX⟩ := qX
  rw [qX]
  clear qX hX
  rw [hst]
  refine z_istore F dX10_minutesUntilSweptByDivision_54 rfl (hnl _ rfl) ?_
  refine z_iload F dX10_minutesUntilSweptByDivision_56 rfl ?_
  refine zi_if_ne (tgt := 63) F dX10_minutesUntilSweptByDivision_58 (by decide) (by first | omega | (dsimp only at *; omega)) (fun c58 => ?_) (fun c58 => ?_)
  · refine z_aload F dX10_minutesUntilSweptByDivision_63 rfl ?_
    refine z_aload_n F dX10_minutesUntilSweptByDivision_65 rfl rfl ?_
    refine z_getfield F fl_X10_12 dX10_minutesUntilSweptByDivision_66 ho (by decide) rfl ?_
    refine z_getfield F fl_X10_84 dX10_minutesUntilSweptByDivision_69 R.ob (by decide) rfl ?_
    refine z_callV F B cal_yX7_turnAt (m_turnAt (R.li (by omega)) hlk (by omega)) dX10_minutesUntilSweptByDivision_72 rfl rfl (Nat.le_of_ble_eq_true rfl) (by decide) (by decide) (by decide) ml_X10_178 im_yX7_turnAt se_yX7_turnAt (R.li (by omega)) (by decide) rfl rfl (fun v hX qX => ?_) (fun C h1 q => q.elim)
    obtain ⟨rfl, qX⟩ := qX
    rw [qX]
    clear qX hX
    refine z_iload F dX10_minutesUntilSweptByDivision_75 rfl ?_
    refine zi_iadd F dX10_minutesUntilSweptByDivision_77 ?_
    refine z_aload F dX10_minutesUntilSweptByDivision_78 rfl ?_
    refine z_getfield F fl_X10_181 dX10_minutesUntilSweptByDivision_80 (R.li (by omega)) (by decide) rfl ?_
    refine zi_imul F dX10_minutesUntilSweptByDivision_83 ?_
    refine z_istore F dX10_minutesUntilSweptByDivision_84 rfl (hnl _ rfl) ?_
    refine z_iload F dX10_minutesUntilSweptByDivision_86 rfl ?_
    refine zi_bipush F dX10_minutesUntilSweptByDivision_88 (by decide) ?_
    refine zi_iadd F dX10_minutesUntilSweptByDivision_90 ?_
    refine zi_iconst F dX10_minutesUntilSweptByDivision_91 ?_
    refine zi_isub F dX10_minutesUntilSweptByDivision_92 ?_
    refine zi_bipush F dX10_minutesUntilSweptByDivision_93 (by decide) ?_
    refine zi_idiv F dX10_minutesUntilSweptByDivision_95 (by omega) ?_
    refine z_aload_n F dX10_minutesUntilSweptByDivision_96 rfl rfl ?_
    refine z_getfield F fl_X10_12 dX10_minutesUntilSweptByDivision_97 ho (by decide) rfl ?_
    refine z_getfield F fl_X10_84 dX10_minutesUntilSweptByDivision_100 R.ob (by decide) rfl ?_
    refine zi_isub F dX10_minutesUntilSweptByDivision_103 ?_
    exact Z.widen (by decide) (by decide) (z_ireturn F rfl B dX10_minutesUntilSweptByDivision_104 ⟨⟨i, rfl, hi, hv, by rw [hce]; exact hre, by rw [hce, hf, if_neg (by omega)]; exact vInt (by omega)⟩, rfl⟩)
  · refine zi_iconst F dX10_minutesUntilSweptByDivision_61 ?_
    exact Z.widen (by decide) (by decide) (z_ireturn F rfl B dX10_minutesUntilSweptByDivision_62 ⟨⟨i, rfl, hi, hv, by rw [hce]; exact hre, by rw [hce, hf, if_pos (by omega)]⟩, rfl⟩)
theorem m_columnOf {z : Int} (hz : zI32 z) (ho : h[o]? = some (12, zBf o S)) (R : zRepC (o + 1) σ τ C h) (hO : zOk K C) (hK : K < 2000000) : zMet yX10_columnOf cX10_columnOf 2 (some .int) 9 1 6 [.ref o, .int (iI z)] h (fun v h' => (∃ i : Nat, z = i ∧ i < C.2.2.2.1.2 ∧ v = some (.int (iI (((C.2.2.1 i).1 : Int) % 8)))) ∧ h' = h) (fun D h' => ¬ (0 ≤ z ∧ z < C.2.2.2.1.2) ∧ zTh [xI] h D h') := by
  refine zMet.go (by decide +kernel) (Nat.le_of_ble_eq_true rfl) ?_
  intro X F B hnl hR hn
  have hn6 := hO.2.2.2.2.1
  refine z_aload_n F dX10_columnOf_0 rfl rfl ?_
  refine z_iload_n F dX10_columnOf_1 rfl rfl ?_
  refine z_callV F B cal_yX10_existingShip (m_existingShip hz ho R hO) dX10_columnOf_2 rfl rfl (Nat.le_of_ble_eq_true rfl) (by decide) (by decide) (by decide) ml_X10_225 im_yX10_existingShip se_yX10_existingShip ho (by decide) rfl rfl (fun v hX qX => ?_) (fun D h1 q => q)
  obtain ⟨⟨i, rfl, hi, rfl⟩, qX⟩ := qX
  rw [qX]; clear qX hX
  refine z_getfield F fl_X10_229 dX10_columnOf_5 (R.si (by omega)) (by decide) rfl ?_
  have hc := (hO.2.2.1 i).1
  refine z_callS F B cal_yX10_columnIn (m_columnIn (by omega) _) dX10_columnOf_8 rfl rfl (Nat.le_of_ble_eq_true rfl) (by decide) (by decide) (by decide) ml_X10_93 st_yX10_columnIn (fun v hX qX => ?_) (fun C h1 q => q.elim)
  obtain ⟨rfl, qX⟩ := qX
  rw [qX]
  clear qX hX
  exact Z.widen (by decide) (by decide) (z_ireturn F rfl B dX10_columnOf_11 ⟨⟨i, rfl, hi, rfl⟩, rfl⟩)
theorem m_rowOf {z : Int} (hz : zI32 z) (ho : h[o]? = some (12, zBf o S)) (R : zRepC (o + 1) σ τ C h) (hO : zOk K C) (hK : K < 2000000) : zMet yX10_rowOf cX10_rowOf 2 (some .int) 9 1 6 [.ref o, .int (iI z)] h (fun v h' => (∃ i : Nat, z = i ∧ i < C.2.2.2.1.2 ∧ v = some (.int (iI (((C.2.2.1 i).1 : Int) / 8)))) ∧ h' = h) (fun D h' => ¬ (0 ≤ z ∧ z < C.2.2.2.1.2) ∧ zTh [xI] h D h') := by
  refine zMet.go (by decide +kernel) (Nat.le_of_ble_eq_true rfl) ?_
  intro X F B hnl hR hn
  have hn6 := hO.2.2.2.2.1
  refine z_aload_n F dX10_rowOf_0 rfl rfl ?_
  refine z_iload_n F dX10_rowOf_1 rfl rfl ?_
  refine z_callV F B cal_yX10_existingShip (m_existingShip hz ho R hO) dX10_rowOf_2 rfl rfl (Nat.le_of_ble_eq_true rfl) (by decide) (by decide) (by decide) ml_X10_225 im_yX10_existingShip se_yX10_existingShip ho (by decide) rfl rfl (fun v hX qX => ?_) (fun D h1 q => q)
  obtain ⟨⟨i, rfl, hi, rfl⟩, qX⟩ := qX
  rw [qX]; clear qX hX
  refine z_getfield F fl_X10_229 dX10_rowOf_5 (R.si (by omega)) (by decide) rfl ?_
  have hc := (hO.2.2.1 i).1
  refine z_callS F B cal_yX10_rowIn (m_rowIn (by omega) _) dX10_rowOf_8 rfl rfl (Nat.le_of_ble_eq_true rfl) (by decide) (by decide) (by decide) ml_X10_96 st_yX10_rowIn (fun v hX qX => ?_) (fun C h1 q => q.elim)
  obtain ⟨rfl, qX⟩ := qX
  rw [qX]
  clear qX hX
  exact Z.widen (by decide) (by decide) (z_ireturn F rfl B dX10_rowOf_11 ⟨⟨i, rfl, hi, rfl⟩, rfl⟩)
theorem m_isWrecked {z : Int} (hz : zI32 z) (ho : h[o]? = some (12, zBf o S)) (R : zRepC (o + 1) σ τ C h) (hO : zOk K C) (hK : K < 2000000) : zMet yX10_isWrecked cX10_isWrecked 2 (some .boolean) 9 1 6 [.ref o, .int (iI z)] h (fun v h' => (∃ i : Nat, z = i ∧ i < C.2.2.2.1.2 ∧ v = some (.int (iI (zBo (C.2.2.1 i).2.2.2.1)))) ∧ h' = h) (fun D h' => ¬ (0 ≤ z ∧ z < C.2.2.2.1.2) ∧ zTh [xI] h D h') := by
  refine zMet.go (by decide +kernel) (Nat.le_of_ble_eq_true rfl) ?_
  intro X F B hnl hR hn
  have hn6 := hO.2.2.2.2.1
  refine z_aload_n F dX10_isWrecked_0 rfl rfl ?_
  refine z_iload_n F dX10_isWrecked_1 rfl rfl ?_
  refine z_callV F B cal_yX10_existingShip (m_existingShip hz ho R hO) dX10_isWrecked_2 rfl rfl (Nat.le_of_ble_eq_true rfl) (by decide) (by decide) (by decide) ml_X10_225 im_yX10_existingShip se_yX10_existingShip ho (by decide) rfl rfl (fun v hX qX => ?_) (fun D h1 q => q)
  obtain ⟨⟨i, rfl, hi, rfl⟩, qX⟩ := qX
  rw [qX]; clear qX hX
  refine z_getfield F fl_X10_236 dX10_isWrecked_5 (R.si (by omega)) (by decide) rfl ?_
  exact Z.widen (by decide) (by decide) (z_ireturn F (zBo_nar _) B dX10_isWrecked_8 ⟨⟨i, rfl, hi, rfl⟩, rfl⟩)
theorem m_darkMinutes {z : Int} (hz : zI32 z) (ho : h[o]? = some (12, zBf o S)) (R : zRepC (o + 1) σ τ C h) (hO : zOk K C) (hK : K < 2000000) : zMet yX10_darkMinutes cX10_darkMinutes 2 (some .int) 9 1 6 [.ref o, .int (iI z)] h (fun v h' => (∃ i : Nat, z = i ∧ i < C.2.2.2.1.2 ∧ v = some (.int (iI ((C.2.2.1 i).2.2.2.2)))) ∧ h' = h) (fun D h' => ¬ (0 ≤ z ∧ z < C.2.2.2.1.2) ∧ zTh [xI] h D h') := by
  refine zMet.go (by decide +kernel) (Nat.le_of_ble_eq_true rfl) ?_
  intro X F B hnl hR hn
  have hn6 := hO.2.2.2.2.1
  refine z_aload_n F dX10_darkMinutes_0 rfl rfl ?_
  refine z_iload_n F dX10_darkMinutes_1 rfl rfl ?_
  refine z_callV F B cal_yX10_existingShip (m_existingShip hz ho R hO) dX10_darkMinutes_2 rfl rfl (Nat.le_of_ble_eq_true rfl) (by decide) (by decide) (by decide) ml_X10_225 im_yX10_existingShip se_yX10_existingShip ho (by decide) rfl rfl (fun v hX qX => ?_) (fun D h1 q => q)
  obtain ⟨⟨i, rfl, hi, rfl⟩, qX⟩ := qX
  rw [qX]; clear qX hX
  refine z_getfield F fl_X10_243 dX10_darkMinutes_5 (R.si (by omega)) (by decide) rfl ?_
  exact Z.widen (by decide) (by decide) (z_ireturn F rfl B dX10_darkMinutes_8 ⟨⟨i, rfl, hi, rfl⟩, rfl⟩)
theorem m_seenBy {z : Int} (hz : zI32 z) (ho : h[o]? = some (12, zBf o S)) (R : zRepC (o + 1) σ τ C h) (hO : zOk K C) (hK : K < 2000000) : zMet yX10_seenBy cX10_seenBy 2 (some .int) 9 1 6 [.ref o, .int (iI z)] h (fun v h' => (∃ i : Nat, z = i ∧ i < C.2.2.2.1.2 ∧ v = some (.int (iI (f_lsw C (C.2.2.1 i).1)))) ∧ h' = h) (fun D h' => ¬ (0 ≤ z ∧ z < C.2.2.2.1.2) ∧ zTh [xI] h D h') := by
  refine zMet.go (by decide +kernel) (Nat.le_of_ble_eq_true rfl) ?_
  intro X F B hnl hR hn
  have hn6 := hO.2.2.2.2.1
  refine z_aload_n F dX10_seenBy_0 rfl rfl ?_
  refine z_getfield F fl_X10_12 dX10_seenBy_1 ho (by decide) rfl ?_
  refine z_aload_n F dX10_seenBy_4 rfl rfl ?_
  refine z_iload_n F dX10_seenBy_5 rfl rfl ?_
  refine z_callV F B cal_yX10_existingShip (m_existingShip hz ho R hO) dX10_seenBy_6 rfl rfl (Nat.le_of_ble_eq_true rfl) (by decide) (by decide) (by decide) ml_X10_225 im_yX10_existingShip se_yX10_existingShip ho (by decide) rfl rfl (fun v hX qX => ?_) (fun D h1 q => q)
  obtain ⟨⟨i, rfl, hi, rfl⟩, qX⟩ := qX
  rw [qX]; clear qX hX
  refine z_getfield F fl_X10_229 dX10_seenBy_9 (R.si (by omega)) (by decide) rfl ?_
  refine z_callV F B cal_yX2_lightsSweeping (m_lightsSweeping R hO hK (hO.2.2.1 i).1) dX10_seenBy_12 rfl rfl (Nat.le_of_ble_eq_true rfl) (by decide) (by decide) (by decide) ml_X10_240 im_yX2_lightsSweeping se_yX2_lightsSweeping R.ob (by decide) rfl rfl (fun v hX qX => ?_) (fun C h1 q => q.elim)
  obtain ⟨rfl, qX⟩ := qX
  rw [qX]
  clear qX hX
  exact Z.widen (by decide) (by decide) (z_ireturn F rfl B dX10_seenBy_15 ⟨⟨i, rfl, hi, rfl⟩, rfl⟩)
theorem m_existingGoal {a : Nat} {s : zSp} (ha : h[a]? = some (10, zSf s)) (hs : zSk K s) : zMet yX10_existingGoal cX10_existingGoal 1 (some .int) 8 1 6 [.ref a] h (fun v h' => (∃ g : Nat, s.2.2.1 = some g ∧ v = some (.int (iI g))) ∧ h' = h) (fun D h' => s.2.2.1 = none ∧ zTh [xN] h D h') := by
  refine zMet.go (by decide +kernel) (Nat.le_of_ble_eq_true rfl) ?_
  intro X F B hnl hR hn
  obtain ⟨c, d, go, wr, dk⟩ := s
  cases go with
  | none =>
    refine z_aload_n F dX10_existingGoal_0 rfl rfl ?_
    refine z_getfield F fl_X10_378 dX10_existingGoal_1 ha (by decide) rfl ?_
    refine zi_iconst F dX10_existingGoal_4 ?_
    refine zi_icmp_ne (tgt := 19) F dX10_existingGoal_5 (by decide) (by show (-2147483648 ≤ (-1 : Int) ∧ (-1 : Int) < 2147483648) ∧ -2147483648 ≤ (-1 : Int) ∧ (-1 : Int) < 2147483648; omega) (fun c5 => False.elim (by exact c5 rfl)) (fun c5 => ?_)
    exact z_throwGW F B thr_X10_140_480_144 dX10_existingGoal_8 dX10_existingGoal_11 dX10_existingGoal_12 dX10_existingGoal_15 dX10_existingGoal_18 (by decide) (by decide) (by decide) (by decide) (fun j => ⟨rfl, by decide, j, rfl⟩)
  | some g =>
    have hg := hs.2.2.1 g rfl
    refine z_aload_n F dX10_existingGoal_0 rfl rfl ?_
    refine z_getfield F fl_X10_378 dX10_existingGoal_1 ha (by decide) rfl ?_
    refine zi_iconst F dX10_existingGoal_4 ?_
    refine zi_icmp_ne (tgt := 19) F dX10_existingGoal_5 (by decide) (by show (-2147483648 ≤ (g : Int) ∧ (g : Int) < 2147483648) ∧ -2147483648 ≤ (-1 : Int) ∧ (-1 : Int) < 2147483648; omega) (fun c5 => ?_) (fun c5 => False.elim (by have c5 : (g : Int) = -1 := c5; omega))
    refine z_aload_n F dX10_existingGoal_19 rfl rfl ?_
    refine z_getfield F fl_X10_378 dX10_existingGoal_20 ha (by decide) rfl ?_
    exact Z.widen (by decide) (by decide) (z_ireturn F rfl B dX10_existingGoal_23 ⟨⟨g, rfl, rfl⟩, rfl⟩)
theorem m_goalColumn {z : Int} (hz : zI32 z) (ho : h[o]? = some (12, zBf o S)) (R : zRepC (o + 1) σ τ C h) (hO : zOk K C) (hK : K < 2000000) : zMet yX10_goalColumn cX10_goalColumn 2 (some .int) 9 2 12 [.ref o, .int (iI z)] h (fun v h' => (∃ i g : Nat, z = i ∧ i < C.2.2.2.1.2 ∧ (C.2.2.1 i).2.2.1 = some g ∧ v = some (.int (iI ((g : Int) % 8)))) ∧ h' = h) (fun D h' => (∀ i : Nat, z = i → i < C.2.2.2.1.2 → (C.2.2.1 i).2.2.1 = none) ∧ zTh [xI, xN] h D h') := by
  refine zMet.go (by decide +kernel) (Nat.le_of_ble_eq_true rfl) ?_
  intro X F B hnl hR hn
  have hn6 := hO.2.2.2.2.1
  refine z_aload_n F dX10_goalColumn_0 rfl rfl ?_
  refine z_iload_n F dX10_goalColumn_1 rfl rfl ?_
  refine z_callV F B cal_yX10_existingShip (m_existingShip hz ho R hO) dX10_goalColumn_2 rfl rfl (Nat.le_of_ble_eq_true rfl) (by decide) (by decide) (by decide) ml_X10_225 im_yX10_existingShip se_yX10_existingShip ho (by decide) rfl rfl (fun v hX qX => ?_) (fun D h1 q => ⟨fun i e hi => absurd (show 0 ≤ z ∧ z < C.2.2.2.1.2 by omega) q.1, List.mem_cons.mpr (Or.inl (List.mem_singleton.mp q.2.1)), q.2.2⟩)
  obtain ⟨⟨i, rfl, hi, rfl⟩, qX⟩ := qX
  rw [qX]; clear qX hX
  refine z_callS F B cal_yX10_existingGoal (m_existingGoal (R.si (by omega)) (hO.2.2.1 i)) dX10_goalColumn_5 rfl rfl (Nat.le_of_ble_eq_true rfl) (by decide) (by decide) (by decide) ml_X10_232 st_yX10_existingGoal (fun v hX qX => ?_) (fun D h1 q => ⟨fun i2 e h2 => by rw [show i2 = i by omega]; exact q.1, List.mem_cons.mpr (Or.inr q.2.1), q.2.2⟩)
  obtain ⟨⟨g, hg, rfl⟩, qX⟩ := qX
  rw [qX]; clear qX hX
  have hg6 := (hO.2.2.1 i).2.2.1 g hg
  refine z_callS F B cal_yX10_columnIn (m_columnIn (by omega) _) dX10_goalColumn_8 rfl rfl (Nat.le_of_ble_eq_true rfl) (by decide) (by decide) (by decide) ml_X10_93 st_yX10_columnIn (fun v hX qX => ?_) (fun C h1 q => q.elim)
  obtain ⟨rfl, qX⟩ := qX
  rw [qX]
  clear qX hX
  exact Z.widen (by decide) (by decide) (z_ireturn F rfl B dX10_goalColumn_11 ⟨⟨i, g, rfl, hi, hg, rfl⟩, rfl⟩)
theorem m_goalRow {z : Int} (hz : zI32 z) (ho : h[o]? = some (12, zBf o S)) (R : zRepC (o + 1) σ τ C h) (hO : zOk K C) (hK : K < 2000000) : zMet yX10_goalRow cX10_goalRow 2 (some .int) 9 2 12 [.ref o, .int (iI z)] h (fun v h' => (∃ i g : Nat, z = i ∧ i < C.2.2.2.1.2 ∧ (C.2.2.1 i).2.2.1 = some g ∧ v = some (.int (iI ((g : Int) / 8)))) ∧ h' = h) (fun D h' => (∀ i : Nat, z = i → i < C.2.2.2.1.2 → (C.2.2.1 i).2.2.1 = none) ∧ zTh [xI, xN] h D h') := by
  refine zMet.go (by decide +kernel) (Nat.le_of_ble_eq_true rfl) ?_
  intro X F B hnl hR hn
  have hn6 := hO.2.2.2.2.1
  refine z_aload_n F dX10_goalRow_0 rfl rfl ?_
  refine z_iload_n F dX10_goalRow_1 rfl rfl ?_
  refine z_callV F B cal_yX10_existingShip (m_existingShip hz ho R hO) dX10_goalRow_2 rfl rfl (Nat.le_of_ble_eq_true rfl) (by decide) (by decide) (by decide) ml_X10_225 im_yX10_existingShip se_yX10_existingShip ho (by decide) rfl rfl (fun v hX qX => ?_) (fun D h1 q => ⟨fun i e hi => absurd (show 0 ≤ z ∧ z < C.2.2.2.1.2 by omega) q.1, List.mem_cons.mpr (Or.inl (List.mem_singleton.mp q.2.1)), q.2.2⟩)
  obtain ⟨⟨i, rfl, hi, rfl⟩, qX⟩ := qX
  rw [qX]; clear qX hX
  refine z_callS F B cal_yX10_existingGoal (m_existingGoal (R.si (by omega)) (hO.2.2.1 i)) dX10_goalRow_5 rfl rfl (Nat.le_of_ble_eq_true rfl) (by decide) (by decide) (by decide) ml_X10_232 st_yX10_existingGoal (fun v hX qX => ?_) (fun D h1 q => ⟨fun i2 e h2 => by rw [show i2 = i by omega]; exact q.1, List.mem_cons.mpr (Or.inr q.2.1), q.2.2⟩)
  obtain ⟨⟨g, hg, rfl⟩, qX⟩ := qX
  rw [qX]; clear qX hX
  have hg6 := (hO.2.2.1 i).2.2.1 g hg
  refine z_callS F B cal_yX10_rowIn (m_rowIn (by omega) _) dX10_goalRow_8 rfl rfl (Nat.le_of_ble_eq_true rfl) (by decide) (by decide) (by decide) ml_X10_96 st_yX10_rowIn (fun v hX qX => ?_) (fun C h1 q => q.elim)
  obtain ⟨rfl, qX⟩ := qX
  rw [qX]
  clear qX hX
  exact Z.widen (by decide) (by decide) (z_ireturn F rfl B dX10_goalRow_11 ⟨⟨i, g, rfl, hi, hg, rfl⟩, rfl⟩)
theorem m_cellByDepth {z : Int} (hz : zI32 z) (ho : h[o]? = some (12, zBf o S)) (R : zRepC (o + 1) σ τ C h) (hO : zOk K C) (hK : K < 2000000) : zMet yX10_cellByDepth cX10_cellByDepth 5 (some .int) 8 1 6 [.ref o, .int (iI z)] h (fun v h' => (∃ c : Nat, c < 64 ∧ 0 ≤ z ∧ (f_ord C)[z.toNat]? = some c ∧ v = some (.int (iI c))) ∧ h' = h) (fun D h' => ¬ (0 ≤ z ∧ z < (f_ord C).length) ∧ zTh [xN] h D h') := by
  refine zMet.go (by decide +kernel) (Nat.le_of_ble_eq_true rfl) ?_
  intro X F B hnl hR hn
  refine zi_iconst F dX10_cellByDepth_0 ?_
  refine z_istore_n F dX10_cellByDepth_1 rfl rfl (hnl _ rfl) ?_
  refine zi_iconst F dX10_cellByDepth_2 ?_
  refine z_istore_n F dX10_cellByDepth_3 rfl rfl (hnl _ rfl) ?_
  suffices KK : ∀ n d : Nat, n + d = 10 → ∀ P : List Nat, P.length ≤ 64 * d → f_ord C = P ++ oD C n d → ¬ (0 ≤ z ∧ z < P.length) → Z X 0 0 4 [(3, .int (iI d)), (2, .int (iI (P.length : Nat))), (0, .ref o), (1, .int (iI z))] [] h from Z.keys [3, 2, 0, 1] rfl (KK 10 0 rfl [] (by decide) rfl (by simp <;> omega))
  intro n
  induction n with
  | zero =>
    intro d hd P hP he hz2
    refine z_iload_n F dX10_cellByDepth_4 rfl rfl ?_
    refine zi_bipush F dX10_cellByDepth_5 (by decide) ?_
    refine zi_icmp_gt (tgt := 60) F dX10_cellByDepth_7 (by decide) (by first | omega | (dsimp only at *; omega)) (fun c7 => ?_) (fun c7 => False.elim (by first | omega | (dsimp only at *; omega)))
    exact z_throwGW F B thr_X10_140_271_144 dX10_cellByDepth_60 dX10_cellByDepth_63 dX10_cellByDepth_64 dX10_cellByDepth_67 dX10_cellByDepth_70 (by decide) (by decide) (by decide) (by decide) (fun j => ⟨by rw [he]; simpa [oD] using hz2, by decide, j, rfl⟩)
  | succ n ih =>
    intro d hd P hP he hz2
    replace he : f_ord C = P ++ (oC C d 64 0 ++ oD C n (d + 1)) := he
    refine z_iload_n F dX10_cellByDepth_4 rfl rfl ?_
    refine zi_bipush F dX10_cellByDepth_5 (by decide) ?_
    refine zi_icmp_gt (tgt := 60) F dX10_cellByDepth_7 (by decide) (by first | omega | (dsimp only at *; omega)) (fun c7 => False.elim (by first | omega | (dsimp only at *; omega))) (fun c7 => ?_)
    refine zi_iconst F dX10_cellByDepth_10 ?_
    refine z_istore F dX10_cellByDepth_11 rfl (hnl _ rfl) ?_
    suffices KI : ∀ m c : Nat, m + c = 64 → ∀ Q : List Nat, Q.length ≤ 64 * d + c → f_ord C = Q ++ (oC C d m c ++ oD C n (d + 1)) → ¬ (0 ≤ z ∧ z < Q.length) → Z X 0 0 13 [(4, .int (iI c)), (3, .int (iI d)), (2, .int (iI (Q.length : Nat))), (0, .ref o), (1, .int (iI z))] [] h from Z.keys [4, 3, 2, 0, 1] rfl (KI 64 0 rfl P hP he hz2)
    intro m
    induction m with
    | zero =>
      intro c hc Q hQ he hz2
      refine z_iload F dX10_cellByDepth_13 rfl ?_
      refine zi_bipush F dX10_cellByDepth_15 (by decide) ?_
      refine zi_icmp_ge (tgt := 54) F dX10_cellByDepth_17 (by decide) (by first | omega | (dsimp only at *; omega)) (fun c17 => ?_) (fun c17 => False.elim (by first | omega | (dsimp only at *; omega)))
      refine zi_iinc F dX10_cellByDepth_54 rfl rfl (hnl _ rfl) ?_
      refine z_goto (tgt := 4) F dX10_cellByDepth_57 (by decide) ?_
      exact Z.keys [3, 2, 0, 1] rfl (ih (d + 1) (by omega) Q (by omega) he hz2)
    | succ m im =>
      intro c hc Q hQ he hz2
      have h9 := hO.1 c
      replace he : f_ord C = Q ++ ((if C.1 c = d then c :: oC C d m (c + 1) else oC C d m (c + 1)) ++ oD C n (d + 1)) := he
      refine z_iload F dX10_cellByDepth_13 rfl ?_
      refine zi_bipush F dX10_cellByDepth_15 (by decide) ?_
      refine zi_icmp_ge (tgt := 54) F dX10_cellByDepth_17 (by decide) (by first | omega | (dsimp only at *; omega)) (fun c17 => False.elim (by first | omega | (dsimp only at *; omega))) (fun c17 => ?_)
      refine z_aload_n F dX10_cellByDepth_20 rfl rfl ?_
      refine z_getfield F fl_X10_12 dX10_cellByDepth_21 ho (by decide) rfl ?_
      refine z_getfield F fl_X10_290 dX10_cellByDepth_24 R.ob (by decide) rfl ?_
      refine z_iload F dX10_cellByDepth_27 rfl ?_
      refine zi_iaload (i := c) F dX10_cellByDepth_29 R.dp rfl (by omega) (zar_get (by omega)) ?_
      refine z_iload_n F dX10_cellByDepth_30 rfl rfl ?_
      refine zi_icmp_eq (tgt := 37) F dX10_cellByDepth_31 (by decide) (by first | omega | (dsimp only at *; omega)) (fun c31 => ?_) (fun c31 => ?_)
      · refine z_iload_n F dX10_cellByDepth_37 rfl rfl ?_
        refine z_iload_n F dX10_cellByDepth_38 rfl rfl ?_
        refine zi_icmp_ne (tgt := 45) F dX10_cellByDepth_39 (by decide) (by have := hz.1; have := hz.2; omega) (fun c39 => ?_) (fun c39 => ?_)
        · refine zi_iinc F dX10_cellByDepth_45 rfl rfl (hnl _ rfl) ?_
          refine zi_iinc F dX10_cellByDepth_48 rfl rfl (hnl _ rfl) ?_
          refine z_goto (tgt := 13) F dX10_cellByDepth_51 (by decide) ?_
          first | exact Z.keys [4, 3, 2, 0, 1] rfl (im (c + 1) (by omega) Q (by omega) (by rw [he, if_neg (by omega)]) hz2) | exact Z.keys [4, 3, 2, 0, 1] (by simp only [zpick, zlk]; rw [List.length_append]; rfl) (im (c + 1) (by omega) (Q ++ [c]) (by rw [List.length_append]; simp; omega) (by rw [he, if_pos (by omega)]; simp) (by rw [List.length_append]; simp; omega))
        · refine z_iload F dX10_cellByDepth_42 rfl ?_
          exact Z.widen (by decide) (by decide) (z_ireturn F rfl B dX10_cellByDepth_44 ⟨⟨c, by omega, by omega, by rw [he, if_pos (by omega), List.getElem?_append_right (by omega), show z.toNat - Q.length = 0 by omega]; rfl, rfl⟩, rfl⟩)
      · refine z_goto (tgt := 48) F dX10_cellByDepth_34 (by decide) ?_
        refine zi_iinc F dX10_cellByDepth_48 rfl rfl (hnl _ rfl) ?_
        refine z_goto (tgt := 13) F dX10_cellByDepth_51 (by decide) ?_
        first | exact Z.keys [4, 3, 2, 0, 1] rfl (im (c + 1) (by omega) Q (by omega) (by rw [he, if_neg (by omega)]) hz2) | exact Z.keys [4, 3, 2, 0, 1] (by simp only [zpick, zlk]; rw [List.length_append]; rfl) (im (c + 1) (by omega) (Q ++ [c]) (by rw [List.length_append]; simp; omega) (by rw [he, if_pos (by omega)]; simp) (by rw [List.length_append]; simp; omega))
theorem m_columnByDepth {z : Int} (hz : zI32 z) (ho : h[o]? = some (12, zBf o S)) (R : zRepC (o + 1) σ τ C h) (hO : zOk K C) (hK : K < 2000000) : zMet yX10_columnByDepth cX10_columnByDepth 2 (some .int) 9 1 6 [.ref o, .int (iI z)] h (fun v h' => (∃ c : Nat, c < 64 ∧ 0 ≤ z ∧ (f_ord C)[z.toNat]? = some c ∧ v = some (.int (iI ((c : Int) % 8)))) ∧ h' = h) (fun D h' => ¬ (0 ≤ z ∧ z < (f_ord C).length) ∧ zTh [xN] h D h') := by
  refine zMet.go (by decide +kernel) (Nat.le_of_ble_eq_true rfl) ?_
  intro X F B hnl hR hn
  refine z_aload_n F dX10_columnByDepth_0 rfl rfl ?_
  refine z_iload_n F dX10_columnByDepth_1 rfl rfl ?_
  refine z_callV F B cal_yX10_cellByDepth (m_cellByDepth hz ho R hO hK) dX10_columnByDepth_2 rfl rfl (Nat.le_of_ble_eq_true rfl) (by decide) (by decide) (by decide) ml_X10_90 im_yX10_cellByDepth se_yX10_cellByDepth ho (by decide) rfl rfl (fun v hX qX => ?_) (fun D h1 q => q)
  obtain ⟨⟨c, hc, hz0, hf, rfl⟩, qX⟩ := qX
  rw [qX]; clear qX hX
  refine z_callS F B cal_yX10_columnIn (m_columnIn (by omega) _) dX10_columnByDepth_5 rfl rfl (Nat.le_of_ble_eq_true rfl) (by decide) (by decide) (by decide) ml_X10_93 st_yX10_columnIn (fun v hX qX => ?_) (fun C h1 q => q.elim)
  obtain ⟨rfl, qX⟩ := qX
  rw [qX]
  clear qX hX
  exact Z.widen (by decide) (by decide) (z_ireturn F rfl B dX10_columnByDepth_8 ⟨⟨c, hc, hz0, hf, rfl⟩, rfl⟩)
theorem m_rowByDepth {z : Int} (hz : zI32 z) (ho : h[o]? = some (12, zBf o S)) (R : zRepC (o + 1) σ τ C h) (hO : zOk K C) (hK : K < 2000000) : zMet yX10_rowByDepth cX10_rowByDepth 2 (some .int) 9 1 6 [.ref o, .int (iI z)] h (fun v h' => (∃ c : Nat, c < 64 ∧ 0 ≤ z ∧ (f_ord C)[z.toNat]? = some c ∧ v = some (.int (iI ((c : Int) / 8)))) ∧ h' = h) (fun D h' => ¬ (0 ≤ z ∧ z < (f_ord C).length) ∧ zTh [xN] h D h') := by
  refine zMet.go (by decide +kernel) (Nat.le_of_ble_eq_true rfl) ?_
  intro X F B hnl hR hn
  refine z_aload_n F dX10_rowByDepth_0 rfl rfl ?_
  refine z_iload_n F dX10_rowByDepth_1 rfl rfl ?_
  refine z_callV F B cal_yX10_cellByDepth (m_cellByDepth hz ho R hO hK) dX10_rowByDepth_2 rfl rfl (Nat.le_of_ble_eq_true rfl) (by decide) (by decide) (by decide) ml_X10_90 im_yX10_cellByDepth se_yX10_cellByDepth ho (by decide) rfl rfl (fun v hX qX => ?_) (fun D h1 q => q)
  obtain ⟨⟨c, hc, hz0, hf, rfl⟩, qX⟩ := qX
  rw [qX]; clear qX hX
  refine z_callS F B cal_yX10_rowIn (m_rowIn (by omega) _) dX10_rowByDepth_5 rfl rfl (Nat.le_of_ble_eq_true rfl) (by decide) (by decide) (by decide) ml_X10_96 st_yX10_rowIn (fun v hX qX => ?_) (fun C h1 q => q.elim)
  obtain ⟨rfl, qX⟩ := qX
  rw [qX]
  clear qX hX
  exact Z.widen (by decide) (by decide) (z_ireturn F rfl B dX10_rowByDepth_8 ⟨⟨c, hc, hz0, hf, rfl⟩, rfl⟩)
end
