/-! the chart's calls that search: lengths, clearances, arrival; ranks of ships -/
def zThW (w : Nat) (L : List String) (h : zH) (C : String) (h' : zH) : Prop := C ∈ L ∧ zWx w h' ∧ zSame (zIn w 5) h h'
theorem zTh.w {w : Nat} {L L' : List String} {h h' : zH} {C : String} (q : zTh L h C h') (hl : ∀ x ∈ L, x ∈ L') (W : zWx w h) : zThW w L' h C h' := by
  obtain ⟨q1, j, rfl⟩ := q
  have s : zSame (zIn w 5) h (h ++ List.replicate j (98, [])) := zSame.rf.app _
  have s0 : zSame (fun _ => False) h (h ++ List.replicate j (98, [])) := zSame.rf.app _
  exact ⟨hl _ q1, W.same s0 (fun _ _ _ q => q), s⟩
/-- the greatest depth that the flood of a finds b at -/
def f_cf (C : zCo) (a b : Nat) : Nat → Nat → Nat → Nat
  | 0, _, g => g
  | n + 1, d, g => if d ≤ C.1 a then (if f_ln (f_opD C d) a b = none then g else f_cf C a b n (d + 1) d) else g
def f_cl (C : zCo) (a b : Nat) : Nat → (Nat → Nat) → Nat
  | 0, _ => 0
  | n + 1, p => if (n + 1 ≤ C.1 a ∧ n + 1 ≤ C.1 b) ∧ f_root (uAll C (n + 1) 64 0 p) 64 a = f_root (uAll C (n + 1) 64 0 p) 64 b then n + 1 else f_cl C a b n (uAll C (n + 1) 64 0 p)
/-- minutes until a ship of draught d is at g -/
def f_arr (C : zCo) (d g : Nat) : Nat → Nat → Nat → Option Nat
  | 0, _, _ => none
  | n + 1, m, c => if f_nx C (f_tide (C.2.2.2.2.1 + m)) d c g = g then some m else if f_ww C (f_nx C (f_tide (C.2.2.2.2.1 + m)) d c g) (f_tide (C.2.2.2.2.1 + m)) < d then none else f_arr C d g n (m + 1) (f_nx C (f_tide (C.2.2.2.2.1 + m)) d c g)
section
variable {o K : Nat} {S : zBt} {σ τ : Nat → Nat} {C : zCo} {h : zH}
theorem m_existingLength {op : Nat → Bool} {ln : Nat → Option Nat} {fc qu : Nat → Nat} {c : Nat} (hc : c < 64) (hb : -1 ≤ zGo (ln c) ∧ zGo (ln c) < 2000000) (ho : h[o]? = some (12, zBf o S)) (W : zWy (o + 179) op ln fc qu h) : zMet yX10_existingLength cX10_existingLength 3 (some .int) 8 1 6 [.ref o, .int (iI c)] h (fun v h' => (∃ k : Nat, ln c = some k ∧ v = some (.int (iI k))) ∧ h' = h) (fun D h' => ln c = none ∧ zTh [xN] h D h') := by
  refine zMet.go (by decide +kernel) (Nat.le_of_ble_eq_true rfl) ?_
  intro X F B hnl hR hn
  rcases hk : ln c with _ | k
  · refine z_aload_n F dX10_existingLength_0 rfl rfl ?_
    refine z_getfield F fl_X10_29 dX10_existingLength_1 ho (by decide) rfl ?_
    refine z_iload_n F dX10_existingLength_4 rfl rfl ?_
    refine z_callV F B cal_yX9_lengthTo (m_lengthTo (by omega) W) dX10_existingLength_5 rfl rfl (Nat.le_of_ble_eq_true rfl) (by decide) (by decide) (by decide) ml_X10_121 im_yX9_lengthTo se_yX9_lengthTo W.1 (by decide) rfl rfl (fun v hX qX => ?_) (fun C h1 q => q.elim)
    obtain ⟨rfl, qX⟩ := qX
    rw [qX]
    clear qX hX
    rw [show f_len ln (c : Int) = -1 from by rw [show f_len ln (c : Int) = zGo (ln c) from if_pos (by omega), hk]; rfl]
    refine z_istore_n F dX10_existingLength_8 rfl rfl (hnl _ rfl) ?_
    refine z_iload_n F dX10_existingLength_9 rfl rfl ?_
    refine zi_iconst F dX10_existingLength_10 ?_
    refine zi_icmp_ne (tgt := 25) F dX10_existingLength_11 (by decide) (by first | omega | (dsimp only at *; omega)) (fun c11 => False.elim (by first | omega | (dsimp only at *; omega))) (fun c11 => ?_)
    exact z_throwGW F B thr_X10_140_482_144 dX10_existingLength_14 dX10_existingLength_17 dX10_existingLength_18 dX10_existingLength_21 dX10_existingLength_24 (by decide) (by decide) (by decide) (by decide) (fun j => ⟨hk, by decide, j, rfl⟩)
  · rw [hk] at hb
    replace hb : -1 ≤ (k : Int) ∧ (k : Int) < 2000000 := hb
    refine z_aload_n F dX10_existingLength_0 rfl rfl ?_
    refine z_getfield F fl_X10_29 dX10_existingLength_1 ho (by decide) rfl ?_
    refine z_iload_n F dX10_existingLength_4 rfl rfl ?_
    refine z_callV F B cal_yX9_lengthTo (m_lengthTo (by omega) W) dX10_existingLength_5 rfl rfl (Nat.le_of_ble_eq_true rfl) (by decide) (by decide) (by decide) ml_X10_121 im_yX9_lengthTo se_yX9_lengthTo W.1 (by decide) rfl rfl (fun v hX qX => ?_) (fun C h1 q => q.elim)
    obtain ⟨rfl, qX⟩ := qX
    rw [qX]
    clear qX hX
    rw [show f_len ln (c : Int) = (k : Int) from by rw [show f_len ln (c : Int) = zGo (ln c) from if_pos (by omega), hk]; rfl]
    refine z_istore_n F dX10_existingLength_8 rfl rfl (hnl _ rfl) ?_
    refine z_iload_n F dX10_existingLength_9 rfl rfl ?_
    refine zi_iconst F dX10_existingLength_10 ?_
    refine zi_icmp_ne (tgt := 25) F dX10_existingLength_11 (by decide) (by first | omega | (dsimp only at *; omega)) (fun c11 => ?_) (fun c11 => False.elim (by first | omega | (dsimp only at *; omega)))
    refine z_iload_n F dX10_existingLength_25 rfl rfl ?_
    exact Z.widen (by decide) (by decide) (z_ireturn F rfl B dX10_existingLength_26 ⟨⟨k, hk, rfl⟩, rfl⟩)
theorem m_wayLength {z x y : Int} (hz : zI32 z) (hx : zI32 x) (hy : zI32 y) (ho : h[o]? = some (12, zBf o S)) (R : zRepC (o + 1) σ τ C h) (hO : zOk K C) (hK : K < 2000000) (W : zWx (o + 179) h) (hoz : zNR ≤ o) : zMet yX10_wayLength cX10_wayLength 6 (some .int) 9 3 18 [.ref o, .int (iI z), .int (iI x), .int (iI y)] h (fun v h' => (∃ i k : Nat, z = i ∧ i < C.2.2.2.1.2 ∧ (0 ≤ x ∧ x < 8 ∧ 0 ≤ y ∧ y < 8) ∧ f_ln (f_opF C (f_tide C.2.2.2.2.1) (C.2.2.1 i).2.1) (C.2.2.1 i).1 (8 * y + x).toNat = some k ∧ v = some (.int (iI k))) ∧ zWx (o + 179) h' ∧ zSame (zIn (o + 179) 5) h h') (fun D h' => (∀ i : Nat, z = i → i < C.2.2.2.1.2 → (0 ≤ x ∧ x < 8 ∧ 0 ≤ y ∧ y < 8) → f_ln (f_opF C (f_tide C.2.2.2.2.1) (C.2.2.1 i).2.1) (C.2.2.1 i).1 (8 * y + x).toNat = none) ∧ zThW (o + 179) [xI, xN] h D h') := by
  refine zMet.go (by decide +kernel) (Nat.le_of_ble_eq_true rfl) ?_
  intro X F B hnl hR hn
  have hn6 := hO.2.2.2.2.1
  have hm := hO.2.2.2.2.2.1
  have hw : zNR ≤ o + 179 := by omega
  refine z_aload_n F dX10_wayLength_0 rfl rfl ?_
  refine z_iload_n F dX10_wayLength_1 rfl rfl ?_
  refine z_callV F B cal_yX10_existingShip (m_existingShip hz ho R hO) dX10_wayLength_2 rfl rfl (Nat.le_of_ble_eq_true rfl) (by decide) (by decide) (by decide) ml_X10_225 im_yX10_existingShip se_yX10_existingShip ho (by decide) rfl rfl (fun v hX qX => ?_) (fun D h1 q => ⟨fun i e hi _ => absurd (show 0 ≤ z ∧ z < C.2.2.2.1.2 by omega) q.1, q.2.w (by decide) W⟩)
  obtain ⟨⟨i, rfl, hi, rfl⟩, qX⟩ := qX
  rw [qX]; clear qX hX
  refine z_astore F dX10_wayLength_5 rfl (hnl _ rfl) ?_
  refine z_iload_n F dX10_wayLength_7 rfl rfl ?_
  refine z_iload_n F dX10_wayLength_8 rfl rfl ?_
  refine z_callS F B cal_yX10_existingCell (m_existingCell hx hy _) dX10_wayLength_9 rfl rfl (Nat.le_of_ble_eq_true rfl) (by decide) (by decide) (by decide) ml_X10_74 st_yX10_existingCell (fun v hX qX => ?_) (fun D h1 q => ⟨fun i e hi hv => absurd hv q.1, zTh.w (L := [xI]) ⟨by rw [q.2.1]; decide, q.2.2⟩ (by decide) W⟩)
  obtain ⟨hv, rfl, qX⟩ := qX
  rw [qX]; clear qX hX
  rw [show (8 * y + x : Int) = (((8 * y + x).toNat : Nat) : Int) by omega]
  obtain ⟨op, ln, fc, qu, W0⟩ := id W
  refine z_istore F dX10_wayLength_12 rfl (hnl _ rfl) ?_
  refine z_aload_n F dX10_wayLength_14 rfl rfl ?_
  refine z_getfield F fl_X10_29 dX10_wayLength_15 ho (by decide) rfl ?_
  refine z_aload_n F dX10_wayLength_18 rfl rfl ?_
  refine z_getfield F fl_X10_12 dX10_wayLength_19 ho (by decide) rfl ?_
  refine z_aload_n F dX10_wayLength_22 rfl rfl ?_
  refine z_getfield F fl_X10_12 dX10_wayLength_23 ho (by decide) rfl ?_
  refine z_getfield F fl_X10_84 dX10_wayLength_26 R.ob (by decide) rfl ?_
  refine z_callS F B cal_yX10_tideAt (m_tideAt _ (by omega) _) dX10_wayLength_29 rfl rfl (Nat.le_of_ble_eq_true rfl) (by decide) (by decide) (by decide) ml_X10_87 st_yX10_tideAt (fun v hX qX => ?_) (fun C h1 q => q.elim)
  obtain ⟨rfl, qX⟩ := qX
  rw [qX]
  clear qX hX
  refine z_aload F dX10_wayLength_32 rfl ?_
  refine z_getfield F fl_X10_246 dX10_wayLength_34 (R.si (by omega)) (by decide) rfl ?_
  refine z_callV F B cal_yX9_openFor (m_openFor hw (by omega) R W0 hO (f_tide_le _) (hO.2.2.1 i).2.1) dX10_wayLength_37 rfl rfl (Nat.le_of_ble_eq_true rfl) (by decide) (by decide) (by decide) ml_X10_249 im_yX9_openFor se_yX9_openFor W0.1 (by decide) rfl rfl (fun v hX qX => ?_) (fun C h1 q => q.elim)
  obtain ⟨rfl, W1, s1⟩ := qX
  have ho1 := s1.get ho (fun q => by have := q.1; omega)
  have R1 := R.same s1 (fun a g1 g2 q => by have := q.1; omega)
  refine z_aload_n F dX10_wayLength_40 rfl rfl ?_
  refine z_getfield F fl_X10_29 dX10_wayLength_41 ho1 (by decide) rfl ?_
  refine z_aload F dX10_wayLength_44 rfl ?_
  refine z_getfield F fl_X10_229 dX10_wayLength_46 (R1.si (by omega)) (by decide) rfl ?_
  refine z_callV F B cal_yX9_searchFrom (m_searchFrom hw (hO.2.2.1 i).1 W1) dX10_wayLength_49 rfl rfl (Nat.le_of_ble_eq_true rfl) (by decide) (by decide) (by decide) ml_X10_117 im_yX9_searchFrom se_yX9_searchFrom W1.1 (by decide) rfl rfl (fun v hX qX => ?_) (fun C h1 q => q.elim)
  obtain ⟨rfl, W2, s2⟩ := qX
  have s3 := s1.tr s2
  have ho2 := s3.get ho (fun q => by have := q.1; omega)
  refine z_aload_n F dX10_wayLength_52 rfl rfl ?_
  refine z_iload F dX10_wayLength_53 rfl ?_
  refine z_callV F B cal_yX10_existingLength (m_existingLength (c := (8 * y + x).toNat) (by omega) (by rw [f_ln_eq (hO.2.2.1 i).1]; have := f_ln_b (op := f_opF C (f_tide C.2.2.2.2.1) (C.2.2.1 i).2.1) (hO.2.2.1 i).1 (8 * y + x).toNat; omega) ho2 W2) dX10_wayLength_55 rfl rfl (Nat.le_of_ble_eq_true rfl) (by decide) (by decide) (by decide) ml_X10_253 im_yX10_existingLength se_yX10_existingLength ho2 (by decide) rfl rfl (fun v hX qX => ?_) (fun D h1 q => ⟨fun i2 e h2 hv2 => by rw [show i2 = i by omega]; rw [f_ln_eq (hO.2.2.1 i).1] at q; exact q.1, by obtain ⟨-, q1, j, rfl⟩ := q; exact ⟨List.mem_cons.mpr (Or.inr q1), zWx.same (S := fun _ => False) ⟨_, _, _, _, W2⟩ (zSame.rf.app _) (fun _ _ _ q => q), s3.app _⟩⟩)
  obtain ⟨⟨k, q, rfl⟩, qX⟩ := qX
  rw [qX]
  rw [f_ln_eq (hO.2.2.1 i).1] at q
  exact Z.widen (by decide) (by decide) (z_ireturn F rfl B dX10_wayLength_58 ⟨⟨i, k, rfl, hi, hv, q, rfl⟩, ⟨_, _, _, _, W2⟩, s3⟩)
theorem iRun_le {op : Nat → Bool} : ∀ {n M : Nat} {ln : Nat → Option Nat}, lnLe M ln → lnLe (M + 256 * n) (iRun op n ln)
  | 0, _, _, h => h
  | n + 1, M, ln, h => by
    unfold iRun
    have h2 := iAll_le (op := op) (n := 64) (c := 0) (s := (ln, false)) h
    split
    · exact (iRun_le h2).mono (by omega)
    · exact h2.mono (by omega)
theorem m_wayLengthByRounds {z x y : Int} (hz : zI32 z) (hx : zI32 x) (hy : zI32 y) (ho : h[o]? = some (12, zBf o S)) (R : zRepC (o + 1) σ τ C h) (hO : zOk K C) (hK : K < 2000000) (W : zWx (o + 179) h) (hoz : zNR ≤ o) : zMet yX10_wayLengthByRounds cX10_wayLengthByRounds 6 (some .int) 9 3 18 [.ref o, .int (iI z), .int (iI x), .int (iI y)] h (fun v h' => (∃ i k : Nat, z = i ∧ i < C.2.2.2.1.2 ∧ (0 ≤ x ∧ x < 8 ∧ 0 ≤ y ∧ y < 8) ∧ iRun (f_opF C (f_tide C.2.2.2.2.1) (C.2.2.1 i).2.1) 64 (f_bg (C.2.2.1 i).1) (8 * y + x).toNat = some k ∧ v = some (.int (iI k))) ∧ zWx (o + 179) h' ∧ zSame (zIn (o + 179) 5) h h') (fun D h' => (∀ i : Nat, z = i → i < C.2.2.2.1.2 → (0 ≤ x ∧ x < 8 ∧ 0 ≤ y ∧ y < 8) → iRun (f_opF C (f_tide C.2.2.2.2.1) (C.2.2.1 i).2.1) 64 (f_bg (C.2.2.1 i).1) (8 * y + x).toNat = none) ∧ zThW (o + 179) [xI, xN] h D h') := by
  refine zMet.go (by decide +kernel) (Nat.le_of_ble_eq_true rfl) ?_
  intro X F B hnl hR hn
  have hn6 := hO.2.2.2.2.1
  have hm := hO.2.2.2.2.2.1
  have hw : zNR ≤ o + 179 := by omega
  refine z_aload_n F dX10_wayLengthByRounds_0 rfl rfl ?_
  refine z_iload_n F dX10_wayLengthByRounds_1 rfl rfl ?_
  refine z_callV F B cal_yX10_existingShip (m_existingShip hz ho R hO) dX10_wayLengthByRounds_2 rfl rfl (Nat.le_of_ble_eq_true rfl) (by decide) (by decide) (by decide) ml_X10_225 im_yX10_existingShip se_yX10_existingShip ho (by decide) rfl rfl (fun v hX qX => ?_) (fun D h1 q => ⟨fun i e hi _ => absurd (show 0 ≤ z ∧ z < C.2.2.2.1.2 by omega) q.1, q.2.w (by decide) W⟩)
  obtain ⟨⟨i, rfl, hi, rfl⟩, qX⟩ := qX
  rw [qX]; clear qX hX
  refine z_astore F dX10_wayLengthByRounds_5 rfl (hnl _ rfl) ?_
  refine z_iload_n F dX10_wayLengthByRounds_7 rfl rfl ?_
  refine z_iload_n F dX10_wayLengthByRounds_8 rfl rfl ?_
  refine z_callS F B cal_yX10_existingCell (m_existingCell hx hy _) dX10_wayLengthByRounds_9 rfl rfl (Nat.le_of_ble_eq_true rfl) (by decide) (by decide) (by decide) ml_X10_74 st_yX10_existingCell (fun v hX qX => ?_) (fun D h1 q => ⟨fun i e hi hv => absurd hv q.1, zTh.w (L := [xI]) ⟨by rw [q.2.1]; decide, q.2.2⟩ (by decide) W⟩)
  obtain ⟨hv, rfl, qX⟩ := qX
  rw [qX]; clear qX hX
  rw [show (8 * y + x : Int) = (((8 * y + x).toNat : Nat) : Int) by omega]
  obtain ⟨op, ln, fc, qu, W0⟩ := id W
  refine z_istore F dX10_wayLengthByRounds_12 rfl (hnl _ rfl) ?_
  refine z_aload_n F dX10_wayLengthByRounds_14 rfl rfl ?_
  refine z_getfield F fl_X10_29 dX10_wayLengthByRounds_15 ho (by decide) rfl ?_
  refine z_aload_n F dX10_wayLengthByRounds_18 rfl rfl ?_
  refine z_getfield F fl_X10_12 dX10_wayLengthByRounds_19 ho (by decide) rfl ?_
  refine z_aload_n F dX10_wayLengthByRounds_22 rfl rfl ?_
  refine z_getfield F fl_X10_12 dX10_wayLengthByRounds_23 ho (by decide) rfl ?_
  refine z_getfield F fl_X10_84 dX10_wayLengthByRounds_26 R.ob (by decide) rfl ?_
  refine z_callS F B cal_yX10_tideAt (m_tideAt _ (by omega) _) dX10_wayLengthByRounds_29 rfl rfl (Nat.le_of_ble_eq_true rfl) (by decide) (by decide) (by decide) ml_X10_87 st_yX10_tideAt (fun v hX qX => ?_) (fun C h1 q => q.elim)
  obtain ⟨rfl, qX⟩ := qX
  rw [qX]
  clear qX hX
  refine z_aload F dX10_wayLengthByRounds_32 rfl ?_
  refine z_getfield F fl_X10_246 dX10_wayLengthByRounds_34 (R.si (by omega)) (by decide) rfl ?_
  refine z_callV F B cal_yX9_openFor (m_openFor hw (by omega) R W0 hO (f_tide_le _) (hO.2.2.1 i).2.1) dX10_wayLengthByRounds_37 rfl rfl (Nat.le_of_ble_eq_true rfl) (by decide) (by decide) (by decide) ml_X10_249 im_yX9_openFor se_yX9_openFor W0.1 (by decide) rfl rfl (fun v hX qX => ?_) (fun C h1 q => q.elim)
  obtain ⟨rfl, W1, s1⟩ := qX
  have ho1 := s1.get ho (fun q => by have := q.1; omega)
  have R1 := R.same s1 (fun a g1 g2 q => by have := q.1; omega)
  refine z_aload_n F dX10_wayLengthByRounds_40 rfl rfl ?_
  refine z_getfield F fl_X10_29 dX10_wayLengthByRounds_41 ho1 (by decide) rfl ?_
  refine z_aload F dX10_wayLengthByRounds_44 rfl ?_
  refine z_getfield F fl_X10_229 dX10_wayLengthByRounds_46 (R1.si (by omega)) (by decide) rfl ?_
  refine z_callV F B cal_yX9_improveFrom (m_improveFrom hw (hO.2.2.1 i).1 W1) dX10_wayLengthByRounds_49 rfl rfl (Nat.le_of_ble_eq_true rfl) (by decide) (by decide) (by decide) ml_X10_256 im_yX9_improveFrom se_yX9_improveFrom W1.1 (by decide) rfl rfl (fun v hX qX => ?_) (fun C h1 q => q.elim)
  obtain ⟨rfl, W2, s2⟩ := qX
  have s3 := s1.tr s2
  have ho2 := s3.get ho (fun q => by have := q.1; omega)
  refine z_aload_n F dX10_wayLengthByRounds_52 rfl rfl ?_
  refine z_iload F dX10_wayLengthByRounds_53 rfl ?_
  refine z_callV F B cal_yX10_existingLength (m_existingLength (c := (8 * y + x).toNat) (by omega) (by have h1 := iRun_le (op := f_opF C (f_tide C.2.2.2.2.1) (C.2.2.1 i).2.1) (n := 64) (f_bg_le (C.2.2.1 i).1) (8 * y + x).toNat; have h2 := zGo_ge (iRun (f_opF C (f_tide C.2.2.2.2.1) (C.2.2.1 i).2.1) 64 (f_bg (C.2.2.1 i).1) (8 * y + x).toNat); omega) ho2 W2) dX10_wayLengthByRounds_55 rfl rfl (Nat.le_of_ble_eq_true rfl) (by decide) (by decide) (by decide) ml_X10_253 im_yX10_existingLength se_yX10_existingLength ho2 (by decide) rfl rfl (fun v hX qX => ?_) (fun D h1 q => ⟨fun i2 e h2 hv2 => by rw [show i2 = i by omega]; skip; exact q.1, by obtain ⟨-, q1, j, rfl⟩ := q; exact ⟨List.mem_cons.mpr (Or.inr q1), zWx.same (S := fun _ => False) ⟨_, _, _, _, W2⟩ (zSame.rf.app _) (fun _ _ _ q => q), s3.app _⟩⟩)
  obtain ⟨⟨k, q, rfl⟩, qX⟩ := qX
  rw [qX]
  skip
  exact Z.widen (by decide) (by decide) (z_ireturn F rfl B dX10_wayLengthByRounds_58 ⟨⟨i, k, rfl, hi, hv, q, rfl⟩, ⟨_, _, _, _, W2⟩, s3⟩)
theorem m_clearance {x y x2 y2 : Int} (hx : zI32 x) (hy : zI32 y) (hx2 : zI32 x2) (hy2 : zI32 y2) (ho : h[o]? = some (12, zBf o S)) (R : zRepC (o + 1) σ τ C h) (hO : zOk K C) (hK : K < 2000000) (G : ∃ p, pOk p ∧ zGp (o + 184) p h) (hoz : zNR ≤ o) : zMet yX10_clearance cX10_clearance 9 (some .int) 9 2 12 [.ref o, .int (iI x), .int (iI y), .int (iI x2), .int (iI y2)] h (fun v h' => ((0 ≤ x ∧ x < 8 ∧ 0 ≤ y ∧ y < 8) ∧ (0 ≤ x2 ∧ x2 < 8 ∧ 0 ≤ y2 ∧ y2 < 8) ∧ v = some (.int (iI (f_cl C (8 * y + x).toNat (8 * y2 + x2).toNat 9 (fun c => c) : Nat)))) ∧ (∃ p, pOk p ∧ zGp (o + 184) p h') ∧ zSame (zIn (o + 184) 2) h h') (fun D h' => ¬ ((0 ≤ x ∧ x < 8 ∧ 0 ≤ y ∧ y < 8) ∧ (0 ≤ x2 ∧ x2 < 8 ∧ 0 ≤ y2 ∧ y2 < 8)) ∧ zTh [xI] h D h') := by
  refine zMet.go (by decide +kernel) (Nat.le_of_ble_eq_true rfl) ?_
  intro X F B hnl hR hn
  obtain ⟨p0, hp0, G0⟩ := G
  have hg : zNR ≤ o + 184 := by omega
  refine z_iload_n F dX10_clearance_0 rfl rfl ?_
  refine z_iload_n F dX10_clearance_1 rfl rfl ?_
  refine z_callS F B cal_yX10_existingCell (m_existingCell hx hy _) dX10_clearance_2 rfl rfl (Nat.le_of_ble_eq_true rfl) (by decide) (by decide) (by decide) ml_X10_74 st_yX10_existingCell (fun v hX qX => ?_) (fun D h1 q => ⟨fun e => q.1 e.1, by rw [q.2.1]; decide, q.2.2⟩)
  obtain ⟨hv, rfl, qX⟩ := qX
  rw [qX]; clear qX hX
  refine z_istore F dX10_clearance_5 rfl (hnl _ rfl) ?_
  refine z_iload_n F dX10_clearance_7 rfl rfl ?_
  refine z_iload F dX10_clearance_8 rfl ?_
  refine z_callS F B cal_yX10_existingCell (m_existingCell hx2 hy2 _) dX10_clearance_10 rfl rfl (Nat.le_of_ble_eq_true rfl) (by decide) (by decide) (by decide) ml_X10_74 st_yX10_existingCell (fun v hX qX => ?_) (fun D h1 q => ⟨fun e => q.1 e.2, by rw [q.2.1]; decide, q.2.2⟩)
  obtain ⟨hv2, rfl, qX⟩ := qX
  rw [qX]; clear qX hX
  rw [show (8 * y + x : Int) = (((8 * y + x).toNat : Nat) : Int) by omega, show (8 * y2 + x2 : Int) = (((8 * y2 + x2).toNat : Nat) : Int) by omega]
  have hA : (8 * y + x).toNat < 64 := by omega
  have hB : (8 * y2 + x2).toNat < 64 := by omega
  generalize hae : (8 * y + x).toNat = a at hA ⊢
  generalize hbe : (8 * y2 + x2).toNat = b at hB ⊢
  refine z_istore F dX10_clearance_13 rfl (hnl _ rfl) ?_
  have h9a := hO.1 a
  have h9b := hO.1 b
  refine z_aload_n F dX10_clearance_15 rfl rfl ?_
  refine z_getfield F fl_X10_12 dX10_clearance_16 ho (by decide) rfl ?_
  refine z_iload F dX10_clearance_19 rfl ?_
  refine z_callV F B cal_yX2_depthOf (m_depthOf R (by omega)) dX10_clearance_21 rfl rfl (Nat.le_of_ble_eq_true rfl) (by decide) (by decide) (by decide) ml_X10_78 im_yX2_depthOf se_yX2_depthOf R.ob (by decide) rfl rfl (fun v hX qX => ?_) (fun C h1 q => q.elim)
  obtain ⟨rfl, qX⟩ := qX
  rw [qX]
  clear qX hX
  rw [f_dep_n hA]
  refine z_aload_n F dX10_clearance_24 rfl rfl ?_
  refine z_getfield F fl_X10_12 dX10_clearance_25 ho (by decide) rfl ?_
  refine z_iload F dX10_clearance_28 rfl ?_
  refine z_callV F B cal_yX2_depthOf (m_depthOf R (by omega)) dX10_clearance_30 rfl rfl (Nat.le_of_ble_eq_true rfl) (by decide) (by decide) (by decide) ml_X10_78 im_yX2_depthOf se_yX2_depthOf R.ob (by decide) rfl rfl (fun v hX qX => ?_) (fun C h1 q => q.elim)
  obtain ⟨rfl, qX⟩ := qX
  rw [qX]
  clear qX hX
  rw [f_dep_n hB]
  refine zi_min F dX10_clearance_33 ml_X10_99 st_yJ9_min_7cf53 cal_yJ9_min_7cf53.2.1 cal_yJ9_min_7cf53.1 hR (by decide) (by decide) (by decide) (Nat.le_of_ble_eq_true rfl) (by omega) ?_
  obtain ⟨mn, hmn, hmn2⟩ : ∃ mn : Nat, (if ((C.1 b : Nat) : Int) < (C.1 a : Nat) then ((C.1 b : Nat) : Int) else (C.1 a : Nat)) = (mn : Int) ∧ ∀ d, d ≤ mn ↔ (d ≤ C.1 a ∧ d ≤ C.1 b) := ⟨if C.1 b < C.1 a then C.1 b else C.1 a, by split <;> split <;> omega, fun d => by split <;> omega⟩
  rw [hmn]
  have hmn9 : mn ≤ 9 := by have := (hmn2 mn).mp (Nat.le_refl _); omega
  refine z_istore F dX10_clearance_36 rfl (hnl _ rfl) ?_
  refine z_aload_n F dX10_clearance_38 rfl rfl ?_
  refine z_getfield F fl_X10_36 dX10_clearance_39 ho (by decide) rfl ?_
  refine z_callV F B cal_yX1_separate (m_separate hg G0) dX10_clearance_42 rfl rfl (Nat.le_of_ble_eq_true rfl) (by decide) (by decide) (by decide) ml_X10_104 im_yX1_separate se_yX1_separate G0.1 (by decide) rfl rfl (fun v hX qX => ?_) (fun C h1 q => q.elim)
  obtain ⟨rfl, G1, s1⟩ := qX
  refine zi_bipush F dX10_clearance_45 (by decide) ?_
  refine z_istore F dX10_clearance_47 rfl (hnl _ rfl) ?_
  suffices KK : ∀ n : Nat, n ≤ 9 → ∀ (p : Nat → Nat) (h1 : zH), pOk p → f_cl C a b 9 (fun c => c) = f_cl C a b n p → zGp (o + 184) p h1 → zSame (zIn (o + 184) 2) h h1 → Z X 2 12 49 [(8, .int (iI n)), (7, .int (iI mn)), (6, .int (iI b)), (5, .int (iI a)), (0, .ref o)] [] h1 from Z.widen (by decide) (by decide) (Z.keys [8, 7, 6, 5, 0] rfl (KK 9 (Nat.le_refl _) (fun c => c) hX (fun c hc => hc) rfl G1 s1))
  intro n
  induction n with
  | zero =>
    intro _ p h1 hp he G2 s2
    refine z_iload F dX10_clearance_49 rfl ?_
    refine zi_if_le (tgt := 104) F dX10_clearance_51 (by decide) (by first | omega | (dsimp only at *; omega)) (fun c51 => ?_) (fun c51 => False.elim (by first | omega | (dsimp only at *; omega)))
    refine zi_iconst F dX10_clearance_104 ?_
    exact Z.widen (by decide) (by decide) (z_ireturn F rfl B dX10_clearance_105 ⟨⟨hv, hv2, by rw [hae, hbe, he]; rfl⟩, ⟨p, hp, G2⟩, s2⟩)
  | succ n ih =>
    intro hn9 p h1 hp he G2 s2
    have ho1 := s2.get ho (fun q => by have := q.1; omega)
    have R1 := R.same s2 (fun a g1 g2 q => by have := q.1; omega)
    replace he : f_cl C a b 9 (fun c => c) = if (n + 1 ≤ C.1 a ∧ n + 1 ≤ C.1 b) ∧ f_root (uAll C (n + 1) 64 0 p) 64 a = f_root (uAll C (n + 1) 64 0 p) 64 b then n + 1 else f_cl C a b n (uAll C (n + 1) 64 0 p) := he
    have hp2 : pOk (uAll C (n + 1) 64 0 p) := uAll_ok (by omega) hp
    have ra := f_root_lt hp2 (n := 64) hA
    have rb := f_root_lt hp2 (n := 64) hB
    have hmnn := hmn2 (n + 1)
    have go : ¬ ((n + 1 ≤ C.1 a ∧ n + 1 ≤ C.1 b) ∧ f_root (uAll C (n + 1) 64 0 p) 64 a = f_root (uAll C (n + 1) 64 0 p) 64 b) → ∀ (h2 : zH), zGp (o + 184) (uAll C (n + 1) 64 0 p) h2 → zSame (zIn (o + 184) 2) h h2 → Z X 2 12 98 [(8, .int (iI (n + 1 : Nat))), (7, .int (iI mn)), (6, .int (iI b)), (5, .int (iI a)), (0, .ref o)] [] h2 := by
      intro hno h2 G3 s3
      refine zi_iinc F dX10_clearance_98 rfl rfl (hnl _ rfl) ?_
      refine z_goto (tgt := 49) F dX10_clearance_101 (by decide) ?_
      exact Z.keys [8, 7, 6, 5, 0] (by rw [show (((n + 1 : Nat) : Int) + -1) = (n : Int) by omega]; rfl) (ih (by omega) _ h2 hp2 (by rw [he, if_neg hno]) G3 s3)
    refine z_iload F dX10_clearance_49 rfl ?_
    refine zi_if_le (tgt := 104) F dX10_clearance_51 (by decide) (by first | omega | (dsimp only at *; omega)) (fun c51 => False.elim (by first | omega | (dsimp only at *; omega))) (fun c51 => ?_)
    refine z_aload_n F dX10_clearance_54 rfl rfl ?_
    refine z_getfield F fl_X10_36 dX10_clearance_55 ho1 (by decide) rfl ?_
    refine z_aload_n F dX10_clearance_58 rfl rfl ?_
    refine z_getfield F fl_X10_12 dX10_clearance_59 ho1 (by decide) rfl ?_
    refine z_iload F dX10_clearance_62 rfl ?_
    refine z_callV F B cal_yX1_uniteAt (m_uniteAt (d := n + 1) hg (by omega) R1 G2 hp hO (by omega)) dX10_clearance_64 rfl rfl (Nat.le_of_ble_eq_true rfl) (by decide) (by decide) (by decide) ml_X10_107 im_yX1_uniteAt se_yX1_uniteAt G2.1 (by decide) rfl rfl (fun v hX qX => ?_) (fun C h1 q => q.elim)
    obtain ⟨rfl, G3, s3⟩ := qX
    have s4 := s2.tr s3
    have ho2 := s4.get ho (fun q => by have := q.1; omega)
    refine z_iload F dX10_clearance_67 rfl ?_
    refine z_iload F dX10_clearance_69 rfl ?_
    refine zi_icmp_gt (tgt := 98) F dX10_clearance_71 (by decide) (by first | omega | (dsimp only at *; omega)) (fun c71 => ?_) (fun c71 => ?_)
    · exact Z.keys [8, 7, 6, 5, 0] rfl (go (fun q => by have := q.2; have := q.1; omega) _ G3 s4)
    · refine z_aload_n F dX10_clearance_74 rfl rfl ?_
      refine z_getfield F fl_X10_36 dX10_clearance_75 ho2 (by decide) rfl ?_
      refine z_iload F dX10_clearance_78 rfl ?_
      refine z_callV F B cal_yX1_rootOf (m_rootOf hA hp2 G3) dX10_clearance_80 rfl rfl (Nat.le_of_ble_eq_true rfl) (by decide) (by decide) (by decide) ml_X10_111 im_yX1_rootOf se_yX1_rootOf G3.1 (by decide) rfl rfl (fun v hX qX => ?_) (fun C h1 q => q.elim)
      obtain ⟨rfl, qX⟩ := qX
      rw [qX]
      clear qX hX
      refine z_aload_n F dX10_clearance_83 rfl rfl ?_
      refine z_getfield F fl_X10_36 dX10_clearance_84 ho2 (by decide) rfl ?_
      refine z_iload F dX10_clearance_87 rfl ?_
      refine z_callV F B cal_yX1_rootOf (m_rootOf hB hp2 G3) dX10_clearance_89 rfl rfl (Nat.le_of_ble_eq_true rfl) (by decide) (by decide) (by decide) ml_X10_111 im_yX1_rootOf se_yX1_rootOf G3.1 (by decide) rfl rfl (fun v hX qX => ?_) (fun C h1 q => q.elim)
      obtain ⟨rfl, qX⟩ := qX
      rw [qX]
      clear qX hX
      refine zi_icmp_ne (tgt := 98) F dX10_clearance_92 (by decide) (by first | omega | (dsimp only at *; omega)) (fun c92 => ?_) (fun c92 => ?_)
      · exact Z.keys [8, 7, 6, 5, 0] rfl (go (fun q => by have := q.2; have := q.1; omega) _ G3 s4)
      · refine z_iload F dX10_clearance_95 rfl ?_
        exact Z.widen (by decide) (by decide) (z_ireturn F rfl B dX10_clearance_97 ⟨⟨hv, hv2, by rw [hae, hbe, he, if_pos ⟨by omega, by omega⟩]⟩, ⟨_, hp2, G3⟩, s4⟩)
theorem m_clearanceByFlooding {x y x2 y2 : Int} (hx : zI32 x) (hy : zI32 y) (hx2 : zI32 x2) (hy2 : zI32 y2) (ho : h[o]? = some (12, zBf o S)) (R : zRepC (o + 1) σ τ C h) (hO : zOk K C) (hK : K < 2000000) (W : zWx (o + 179) h) (hoz : zNR ≤ o) : zMet yX10_clearanceByFlooding cX10_clearanceByFlooding 9 (some .int) 9 2 12 [.ref o, .int (iI x), .int (iI y), .int (iI x2), .int (iI y2)] h (fun v h' => ((0 ≤ x ∧ x < 8 ∧ 0 ≤ y ∧ y < 8) ∧ (0 ≤ x2 ∧ x2 < 8 ∧ 0 ≤ y2 ∧ y2 < 8) ∧ v = some (.int (iI (f_cf C (8 * y + x).toNat (8 * y2 + x2).toNat 10 1 0 : Nat)))) ∧ zWx (o + 179) h' ∧ zSame (zIn (o + 179) 5) h h') (fun D h' => ¬ ((0 ≤ x ∧ x < 8 ∧ 0 ≤ y ∧ y < 8) ∧ (0 ≤ x2 ∧ x2 < 8 ∧ 0 ≤ y2 ∧ y2 < 8)) ∧ zTh [xI] h D h') := by
  refine zMet.go (by decide +kernel) (Nat.le_of_ble_eq_true rfl) ?_
  intro X F B hnl hR hn
  have hw : zNR ≤ o + 179 := by omega
  refine z_iload_n F dX10_clearanceByFlooding_0 rfl rfl ?_
  refine z_iload_n F dX10_clearanceByFlooding_1 rfl rfl ?_
  refine z_callS F B cal_yX10_existingCell (m_existingCell hx hy _) dX10_clearanceByFlooding_2 rfl rfl (Nat.le_of_ble_eq_true rfl) (by decide) (by decide) (by decide) ml_X10_74 st_yX10_existingCell (fun v hX qX => ?_) (fun D h1 q => ⟨fun e => q.1 e.1, by rw [q.2.1]; decide, q.2.2⟩)
  obtain ⟨hv, rfl, qX⟩ := qX
  rw [qX]; clear qX hX
  refine z_istore F dX10_clearanceByFlooding_5 rfl (hnl _ rfl) ?_
  refine z_iload_n F dX10_clearanceByFlooding_7 rfl rfl ?_
  refine z_iload F dX10_clearanceByFlooding_8 rfl ?_
  refine z_callS F B cal_yX10_existingCell (m_existingCell hx2 hy2 _) dX10_clearanceByFlooding_10 rfl rfl (Nat.le_of_ble_eq_true rfl) (by decide) (by decide) (by decide) ml_X10_74 st_yX10_existingCell (fun v hX qX => ?_) (fun D h1 q => ⟨fun e => q.1 e.2, by rw [q.2.1]; decide, q.2.2⟩)
  obtain ⟨hv2, rfl, qX⟩ := qX
  rw [qX]; clear qX hX
  rw [show (8 * y + x : Int) = (((8 * y + x).toNat : Nat) : Int) by omega, show (8 * y2 + x2 : Int) = (((8 * y2 + x2).toNat : Nat) : Int) by omega]
  have hA : (8 * y + x).toNat < 64 := by omega
  have hB : (8 * y2 + x2).toNat < 64 := by omega
  generalize hae : (8 * y + x).toNat = a at hA ⊢
  generalize hbe : (8 * y2 + x2).toNat = b at hB ⊢
  refine z_istore F dX10_clearanceByFlooding_13 rfl (hnl _ rfl) ?_
  refine zi_iconst F dX10_clearanceByFlooding_15 ?_
  refine z_istore F dX10_clearanceByFlooding_16 rfl (hnl _ rfl) ?_
  refine zi_iconst F dX10_clearanceByFlooding_18 ?_
  refine z_istore F dX10_clearanceByFlooding_19 rfl (hnl _ rfl) ?_
  suffices KK : ∀ n d : Nat, n + d = 11 → 1 ≤ d → ∀ (g : Nat) (h1 : zH), f_cf C a b 10 1 0 = f_cf C a b n d g → zWx (o + 179) h1 → zSame (zIn (o + 179) 5) h h1 → Z X 2 12 21 [(8, .int (iI d)), (7, .int (iI g)), (6, .int (iI b)), (5, .int (iI a)), (0, .ref o)] [] h1 from Z.widen (by decide) (by decide) (Z.keys [8, 7, 6, 5, 0] rfl (KK 10 1 rfl (Nat.le_refl _) 0 h rfl W zSame.rf))
  have h9a := hO.1 a
  intro n
  induction n with
  | zero =>
    intro d hd hd1 g h1 he W1 s1
    have ho1 := s1.get ho (fun q => by have := q.1; omega)
    have R1 := R.same s1 (fun a g1 g2 q => by have := q.1; omega)
    refine z_iload F dX10_clearanceByFlooding_21 rfl ?_
    refine z_aload_n F dX10_clearanceByFlooding_23 rfl rfl ?_
    refine z_getfield F fl_X10_12 dX10_clearanceByFlooding_24 ho1 (by decide) rfl ?_
    refine z_iload F dX10_clearanceByFlooding_27 rfl ?_
    refine z_callV F B cal_yX2_depthOf (m_depthOf R1 (by omega)) dX10_clearanceByFlooding_29 rfl rfl (Nat.le_of_ble_eq_true rfl) (by decide) (by decide) (by decide) ml_X10_78 im_yX2_depthOf se_yX2_depthOf R1.ob (by decide) rfl rfl (fun v hX qX => ?_) (fun C h1 q => q.elim)
    obtain ⟨rfl, qX⟩ := qX
    rw [qX]
    clear qX hX
    rw [f_dep_n hA]
    refine zi_icmp_gt (tgt := 83) F dX10_clearanceByFlooding_32 (by decide) (by first | omega | (dsimp only at *; omega)) (fun c32 => ?_) (fun c32 => False.elim (by first | omega | (dsimp only at *; omega)))
    refine z_iload F dX10_clearanceByFlooding_83 rfl ?_
    exact Z.widen (by decide) (by decide) (z_ireturn F rfl B dX10_clearanceByFlooding_85 ⟨⟨hv, hv2, by rw [hae, hbe, he]; rfl⟩, W1, s1⟩)
  | succ n ih =>
    intro d hd hd1 g h1 he W1 s1
    have ho1 := s1.get ho (fun q => by have := q.1; omega)
    have R1 := R.same s1 (fun a g1 g2 q => by have := q.1; omega)
    replace he : f_cf C a b 10 1 0 = if d ≤ C.1 a then (if f_ln (f_opD C d) a b = none then g else f_cf C a b n (d + 1) d) else g := he
    obtain ⟨op, ln, fc, qu, W2⟩ := W1
    have hlb := f_ln_b (op := f_opD C d) hA b
    refine z_iload F dX10_clearanceByFlooding_21 rfl ?_
    refine z_aload_n F dX10_clearanceByFlooding_23 rfl rfl ?_
    refine z_getfield F fl_X10_12 dX10_clearanceByFlooding_24 ho1 (by decide) rfl ?_
    refine z_iload F dX10_clearanceByFlooding_27 rfl ?_
    refine z_callV F B cal_yX2_depthOf (m_depthOf R1 (by omega)) dX10_clearanceByFlooding_29 rfl rfl (Nat.le_of_ble_eq_true rfl) (by decide) (by decide) (by decide) ml_X10_78 im_yX2_depthOf se_yX2_depthOf R1.ob (by decide) rfl rfl (fun v hX qX => ?_) (fun C h1 q => q.elim)
    obtain ⟨rfl, qX⟩ := qX
    rw [qX]
    clear qX hX
    rw [f_dep_n hA]
    refine zi_icmp_gt (tgt := 83) F dX10_clearanceByFlooding_32 (by decide) (by omega) (fun c32 => ?_) (fun c32 => ?_)
    · refine z_iload F dX10_clearanceByFlooding_83 rfl ?_
      exact Z.widen (by decide) (by decide) (z_ireturn F rfl B dX10_clearanceByFlooding_85 ⟨⟨hv, hv2, by rw [hae, hbe, he, if_neg (by omega)]⟩, ⟨_, _, _, _, W2⟩, s1⟩)
    rw [if_pos (by omega)] at he
    refine z_aload_n F dX10_clearanceByFlooding_35 rfl rfl ?_
    refine z_getfield F fl_X10_29 dX10_clearanceByFlooding_36 ho1 (by decide) rfl ?_
    refine z_aload_n F dX10_clearanceByFlooding_39 rfl rfl ?_
    refine z_getfield F fl_X10_12 dX10_clearanceByFlooding_40 ho1 (by decide) rfl ?_
    refine z_iload F dX10_clearanceByFlooding_43 rfl ?_
    refine z_callV F B cal_yX9_openDeep (m_openDeep (d := d) hw (by omega) R1 W2 hO (by omega)) dX10_clearanceByFlooding_45 rfl rfl (Nat.le_of_ble_eq_true rfl) (by decide) (by decide) (by decide) ml_X10_114 im_yX9_openDeep se_yX9_openDeep W2.1 (by decide) rfl rfl (fun v hX qX => ?_) (fun C h1 q => q.elim)
    obtain ⟨rfl, W3, s3⟩ := qX
    have s4 := s1.tr s3
    have ho2 := s4.get ho (fun q => by have := q.1; omega)
    refine z_aload_n F dX10_clearanceByFlooding_48 rfl rfl ?_
    refine z_getfield F fl_X10_29 dX10_clearanceByFlooding_49 ho2 (by decide) rfl ?_
    refine z_iload F dX10_clearanceByFlooding_52 rfl ?_
    refine z_callV F B cal_yX9_searchFrom (m_searchFrom hw hA W3) dX10_clearanceByFlooding_54 rfl rfl (Nat.le_of_ble_eq_true rfl) (by decide) (by decide) (by decide) ml_X10_117 im_yX9_searchFrom se_yX9_searchFrom W3.1 (by decide) rfl rfl (fun v hX qX => ?_) (fun C h1 q => q.elim)
    obtain ⟨rfl, W4, s5⟩ := qX
    have s6 := s4.tr s5
    have ho3 := s6.get ho (fun q => by have := q.1; omega)
    rw [f_ln_eq hA] at W4
    refine z_aload_n F dX10_clearanceByFlooding_57 rfl rfl ?_
    refine z_getfield F fl_X10_29 dX10_clearanceByFlooding_58 ho3 (by decide) rfl ?_
    refine z_iload F dX10_clearanceByFlooding_61 rfl ?_
    refine z_callV F B cal_yX9_lengthTo (m_lengthTo (by omega) W4) dX10_clearanceByFlooding_63 rfl rfl (Nat.le_of_ble_eq_true rfl) (by decide) (by decide) (by decide) ml_X10_121 im_yX9_lengthTo se_yX9_lengthTo W4.1 (by decide) rfl rfl (fun v hX qX => ?_) (fun C h1 q => q.elim)
    obtain ⟨rfl, qX⟩ := qX
    rw [qX]
    clear qX hX
    rw [show f_len (f_ln (f_opD C d) a) (b : Int) = zGo (f_ln (f_opD C d) a b) from if_pos (by omega)]
    refine zi_iconst F dX10_clearanceByFlooding_66 ?_
    refine zi_icmp_ne (tgt := 73) F dX10_clearanceByFlooding_67 (by decide) (by first | omega | (dsimp only at *; omega)) (fun c67 => ?_) (fun c67 => ?_)
    · refine z_iload F dX10_clearanceByFlooding_73 rfl ?_
      refine z_istore F dX10_clearanceByFlooding_75 rfl (hnl _ rfl) ?_
      refine zi_iinc F dX10_clearanceByFlooding_77 rfl rfl (hnl _ rfl) ?_
      refine z_goto (tgt := 21) F dX10_clearanceByFlooding_80 (by decide) ?_
      exact Z.keys [8, 7, 6, 5, 0] rfl (ih (d + 1) (by omega) (by omega) d _ (by rw [he, if_neg (fun e => c67 (by rw [e]; rfl))]) ⟨_, _, _, _, W4⟩ s6)
    · refine z_goto (tgt := 83) F dX10_clearanceByFlooding_70 (by decide) ?_
      refine z_iload F dX10_clearanceByFlooding_83 rfl ?_
      exact Z.widen (by decide) (by decide) (z_ireturn F rfl B dX10_clearanceByFlooding_85 ⟨⟨hv, hv2, by rw [hae, hbe, he, if_pos (zGo_m1 c67)]⟩, ⟨_, _, _, _, W4⟩, s6⟩)
theorem m_shipByDarkness {z : Int} (hz : zI32 z) (ho : h[o]? = some (12, zBf o S)) (R : zRepC (o + 1) σ τ C h) (hO : zOk K C) (hK : K < 2000000) : zMet yX10_shipByDarkness cX10_shipByDarkness 3 (some .int) 8 1 6 [.ref o, .int (iI z)] h (fun v h' => (∃ i : Nat, i < C.2.2.2.1.2 ∧ z = (f_sdt C i : Nat) ∧ v = some (.int (iI i))) ∧ h' = h) (fun D h' => (∀ i : Nat, i < C.2.2.2.1.2 → z ≠ (f_sdt C i : Nat)) ∧ zTh [xN] h D h') := by
  refine zMet.go (by decide +kernel) (Nat.le_of_ble_eq_true rfl) ?_
  intro X F B hnl hR hn
  have hn6 := hO.2.2.2.2.1
  refine zi_iconst F dX10_shipByDarkness_0 ?_
  refine z_istore_n F dX10_shipByDarkness_1 rfl rfl (hnl _ rfl) ?_
  suffices KK : ∀ n i : Nat, n + i = C.2.2.2.1.2 → (∀ j : Nat, j < i → z ≠ (f_sdt C j : Nat)) → Z X 0 0 2 [(2, .int (iI i)), (0, .ref o), (1, .int (iI z))] [] h from Z.keys [2, 0, 1] rfl (KK C.2.2.2.1.2 0 rfl (fun j hj => absurd hj (Nat.not_lt_zero j)))
  intro n
  induction n with
  | zero =>
    intro i hi hno
    refine z_iload_n F dX10_shipByDarkness_2 rfl rfl ?_
    refine z_aload_n F dX10_shipByDarkness_3 rfl rfl ?_
    refine z_getfield F fl_X10_12 dX10_shipByDarkness_4 ho (by decide) rfl ?_
    refine z_getfield F fl_X10_222 dX10_shipByDarkness_7 R.ob (by decide) rfl ?_
    refine zi_icmp_ge (tgt := 33) F dX10_shipByDarkness_10 (by decide) (by first | omega | (dsimp only at *; omega)) (fun c10 => ?_) (fun c10 => False.elim (by first | omega | (dsimp only at *; omega)))
    exact z_throwGW F B thr_X10_140_271_144 dX10_shipByDarkness_33 dX10_shipByDarkness_36 dX10_shipByDarkness_37 dX10_shipByDarkness_40 dX10_shipByDarkness_43 (by decide) (by decide) (by decide) (by decide) (fun j => ⟨fun k hk => hno k (by omega), by decide, j, rfl⟩)
  | succ n ih =>
    intro i hi hno
    have hsd : f_sdt C i ≤ 6 := Nat.le_trans (zcnt_le _ _) hn6
    refine z_iload_n F dX10_shipByDarkness_2 rfl rfl ?_
    refine z_aload_n F dX10_shipByDarkness_3 rfl rfl ?_
    refine z_getfield F fl_X10_12 dX10_shipByDarkness_4 ho (by decide) rfl ?_
    refine z_getfield F fl_X10_222 dX10_shipByDarkness_7 R.ob (by decide) rfl ?_
    refine zi_icmp_ge (tgt := 33) F dX10_shipByDarkness_10 (by decide) (by first | omega | (dsimp only at *; omega)) (fun c10 => False.elim (by first | omega | (dsimp only at *; omega))) (fun c10 => ?_)
    refine z_aload_n F dX10_shipByDarkness_13 rfl rfl ?_
    refine z_getfield F fl_X10_12 dX10_shipByDarkness_14 ho (by decide) rfl ?_
    refine z_iload_n F dX10_shipByDarkness_17 rfl rfl ?_
    refine z_callV F B cal_yX2_shipsDarkerThan (m_shipsDarkerThan R hO hK (by omega)) dX10_shipByDarkness_18 rfl rfl (Nat.le_of_ble_eq_true rfl) (by decide) (by decide) (by decide) ml_X10_268 im_yX2_shipsDarkerThan se_yX2_shipsDarkerThan R.ob (by decide) rfl rfl (fun v hX qX => ?_) (fun C h1 q => q.elim)
    obtain ⟨rfl, qX⟩ := qX
    rw [qX]
    clear qX hX
    refine z_iload_n F dX10_shipByDarkness_21 rfl rfl ?_
    refine zi_icmp_ne (tgt := 27) F dX10_shipByDarkness_22 (by decide) (by have := hz.1; have := hz.2; omega) (fun c22 => ?_) (fun c22 => ?_)
    · refine zi_iinc F dX10_shipByDarkness_27 rfl rfl (hnl _ rfl) ?_
      refine z_goto (tgt := 2) F dX10_shipByDarkness_30 (by decide) ?_
      exact Z.keys [2, 0, 1] rfl (ih (i + 1) (by omega) (fun j hj => by by_cases e : j = i; { rw [e]; omega }; { exact hno j (by omega) }))
    · refine z_iload_n F dX10_shipByDarkness_25 rfl rfl ?_
      exact Z.widen (by decide) (by decide) (z_ireturn F rfl B dX10_shipByDarkness_26 ⟨⟨i, by omega, by omega, rfl⟩, rfl⟩)
theorem m_sightingsByLights (ho : h[o]? = some (12, zBf o S)) (R : zRepC (o + 1) σ τ C h) (hO : zOk K C) (hK : K < 2000000) : zMet yX10_sightingsByLights cX10_sightingsByLights 3 (some .int) 1 0 0 [.ref o] h (fun v h' => v = some (.int (iI ((C.2.2.2.2.2.2.1 : Int) + (zsum (fun l => (C.2.1 l).2.2.2.2) C.2.2.2.1.1 : Nat)))) ∧ h' = h) (fun _ _ => False) := by
  refine zMet.go (by decide +kernel) (Nat.le_of_ble_eq_true rfl) ?_
  intro X F B hnl hR hn
  have hl6 := hO.2.2.2.1
  refine z_aload_n F dX10_sightingsByLights_0 rfl rfl ?_
  refine z_getfield F fl_X10_12 dX10_sightingsByLights_1 ho (by decide) rfl ?_
  refine z_getfield F fl_X10_277 dX10_sightingsByLights_4 R.ob (by decide) rfl ?_
  refine z_istore_n F dX10_sightingsByLights_7 rfl rfl (hnl _ rfl) ?_
  refine zi_iconst F dX10_sightingsByLights_8 ?_
  refine z_istore_n F dX10_sightingsByLights_9 rfl rfl (hnl _ rfl) ?_
  suffices KK : ∀ n i : Nat, n + i = C.2.2.2.1.1 → Z X 0 0 10 [(2, .int (iI i)), (1, .int (iI ((C.2.2.2.2.2.2.1 : Int) + (zsum (fun l => (C.2.1 l).2.2.2.2) i : Nat)))), (0, .ref o)] [] h from Z.keys [2, 1, 0] rfl (KK C.2.2.2.1.1 0 rfl)
  intro n
  induction n with
  | zero =>
    intro i hi
    have hin : i = C.2.2.2.1.1 := by omega
    subst hin
    refine z_iload_n F dX10_sightingsByLights_10 rfl rfl ?_
    refine z_aload_n F dX10_sightingsByLights_11 rfl rfl ?_
    refine z_getfield F fl_X10_12 dX10_sightingsByLights_12 ho (by decide) rfl ?_
    refine z_getfield F fl_X10_134 dX10_sightingsByLights_15 R.ob (by decide) rfl ?_
    refine zi_icmp_ge (tgt := 42) F dX10_sightingsByLights_18 (by decide) (by first | omega | (dsimp only at *; omega)) (fun c18 => ?_) (fun c18 => False.elim (by first | omega | (dsimp only at *; omega)))
    refine z_iload_n F dX10_sightingsByLights_42 rfl rfl ?_
    exact Z.widen (by decide) (by decide) (z_ireturn F rfl B dX10_sightingsByLights_43 ⟨rfl, rfl⟩)
  | succ n ih =>
    intro i hi
    refine z_iload_n F dX10_sightingsByLights_10 rfl rfl ?_
    refine z_aload_n F dX10_sightingsByLights_11 rfl rfl ?_
    refine z_getfield F fl_X10_12 dX10_sightingsByLights_12 ho (by decide) rfl ?_
    refine z_getfield F fl_X10_134 dX10_sightingsByLights_15 R.ob (by decide) rfl ?_
    refine zi_icmp_ge (tgt := 42) F dX10_sightingsByLights_18 (by decide) (by first | omega | (dsimp only at *; omega)) (fun c18 => False.elim (by first | omega | (dsimp only at *; omega))) (fun c18 => ?_)
    refine z_iload_n F dX10_sightingsByLights_21 rfl rfl ?_
    refine z_aload_n F dX10_sightingsByLights_22 rfl rfl ?_
    refine z_getfield F fl_X10_12 dX10_sightingsByLights_23 ho (by decide) rfl ?_
    refine z_getfield F fl_X10_280 dX10_sightingsByLights_26 R.ob (by decide) rfl ?_
    refine z_iload_n F dX10_sightingsByLights_29 rfl rfl ?_
    refine zi_aaload (i := i) F dX10_sightingsByLights_30 R.la (by decide) (by decide) rfl rfl (by omega) (zar_get (by omega)) rfl ?_
    refine z_getfield F fl_X10_273 dX10_sightingsByLights_31 (R.li (by omega)) (by decide) rfl ?_
    refine zi_iadd F dX10_sightingsByLights_34 ?_
    refine z_istore_n F dX10_sightingsByLights_35 rfl rfl (hnl _ rfl) ?_
    refine zi_iinc F dX10_sightingsByLights_36 rfl rfl (hnl _ rfl) ?_
    refine z_goto (tgt := 10) F dX10_sightingsByLights_39 (by decide) ?_
    exact Z.keys [2, 1, 0] (by simp only [zpick, zlk]; rw [show (C.2.2.2.2.2.2.1 : Int) + (zsum (fun l => (C.2.1 l).2.2.2.2) (i + 1) : Nat) = (C.2.2.2.2.2.2.1 : Int) + (zsum (fun l => (C.2.1 l).2.2.2.2) i : Nat) + ((C.2.1 i).2.2.2.2 : Nat) from by simp only [zsum]; omega]; rfl) (ih (i + 1) (by omega))
theorem m_minutesUntilArrival {z : Int} (hz : zI32 z) (ho : h[o]? = some (12, zBf o S)) (R : zRepC (o + 1) σ τ C h) (hO : zOk K C) (hK : K < 2000000) (W : zWx (o + 179) h) (hoz : zNR ≤ o) : zMet yX10_minutesUntilArrival cX10_minutesUntilArrival 7 (some .int) 9 3 18 [.ref o, .int (iI z)] h (fun v h' => (∃ i g m : Nat, z = i ∧ i < C.2.2.2.1.2 ∧ (C.2.2.1 i).2.2.1 = some g ∧ f_arr C (C.2.2.1 i).2.1 g 48 1 (C.2.2.1 i).1 = some m ∧ v = some (.int (iI m))) ∧ zWx (o + 179) h' ∧ zSame (zIn (o + 179) 5) h h') (fun D h' => (∀ i g : Nat, z = i → i < C.2.2.2.1.2 → (C.2.2.1 i).2.2.1 = some g → f_arr C (C.2.2.1 i).2.1 g 48 1 (C.2.2.1 i).1 = none) ∧ zThW (o + 179) [xI, xN] h D h') := by
  refine zMet.go (by decide +kernel) (Nat.le_of_ble_eq_true rfl) ?_
  intro X F B hnl hR hn
  have hn6 := hO.2.2.2.2.1
  have hm := hO.2.2.2.2.2.1
  have hw : zNR ≤ o + 179 := by omega
  refine z_aload_n F dX10_minutesUntilArrival_0 rfl rfl ?_
  refine z_iload_n F dX10_minutesUntilArrival_1 rfl rfl ?_
  refine z_callV F B cal_yX10_existingShip (m_existingShip hz ho R hO) dX10_minutesUntilArrival_2 rfl rfl (Nat.le_of_ble_eq_true rfl) (by decide) (by decide) (by decide) ml_X10_225 im_yX10_existingShip se_yX10_existingShip ho (by decide) rfl rfl (fun v hX qX => ?_) (fun D h1 q => ⟨fun i g e hi _ => absurd (show 0 ≤ z ∧ z < C.2.2.2.1.2 by omega) q.1, q.2.w (by decide) W⟩)
  obtain ⟨⟨i, rfl, hi, rfl⟩, qX⟩ := qX
  rw [qX]; clear qX hX
  refine z_astore_n F dX10_minutesUntilArrival_5 rfl rfl (hnl _ rfl) ?_
  refine z_aload_n F dX10_minutesUntilArrival_6 rfl rfl ?_
  refine z_callS F B cal_yX10_existingGoal (m_existingGoal (R.si (by omega)) (hO.2.2.1 i)) dX10_minutesUntilArrival_7 rfl rfl (Nat.le_of_ble_eq_true rfl) (by decide) (by decide) (by decide) ml_X10_232 st_yX10_existingGoal (fun v hX qX => ?_) (fun D h1 q => ⟨fun i2 g e h2 hg => (by rw [show i2 = i by omega, q.1] at hg; cases hg), q.2.w (by decide) W⟩)
  obtain ⟨⟨g, hg, rfl⟩, qX⟩ := qX
  rw [qX]; clear qX hX
  refine z_istore_n F dX10_minutesUntilArrival_10 rfl rfl (hnl _ rfl) ?_
  refine z_aload_n F dX10_minutesUntilArrival_11 rfl rfl ?_
  refine z_getfield F fl_X10_229 dX10_minutesUntilArrival_12 (R.si (by omega)) (by decide) rfl ?_
  refine z_istore F dX10_minutesUntilArrival_15 rfl (hnl _ rfl) ?_
  refine zi_iconst F dX10_minutesUntilArrival_17 ?_
  refine z_istore F dX10_minutesUntilArrival_18 rfl (hnl _ rfl) ?_
  suffices KK : ∀ n m : Nat, n + m = 49 → 1 ≤ m → ∀ (c : Nat) (h1 : zH), c < 64 → f_arr C (C.2.2.1 i).2.1 g 48 1 (C.2.2.1 i).1 = f_arr C (C.2.2.1 i).2.1 g n m c → zWx (o + 179) h1 → zSame (zIn (o + 179) 5) h h1 → Z X 2 12 20 [(5, .int (iI m)), (4, .int (iI c)), (3, .int (iI g)), (2, .ref (τ i)), (0, .ref o)] [] h1 from Z.widen (by decide) (by decide) (Z.keys [5, 4, 3, 2, 0] rfl (KK 48 1 rfl (Nat.le_refl _) (C.2.2.1 i).1 h (hO.2.2.1 i).1 rfl W zSame.rf))
  have hg64 := (hO.2.2.1 i).2.2.1 g hg
  have hd9 := (hO.2.2.1 i).2.1
  have fin : f_arr C (C.2.2.1 i).2.1 g 48 1 (C.2.2.1 i).1 = none → ∀ (ls : zL) (h1 : zH), zWx (o + 179) h1 → zSame (zIn (o + 179) 5) h h1 → Z X 2 12 100 ls [] h1 := by
    intro hnone ls h1 W1 s1
    exact z_throwGW F B thr_X10_140_266_144 dX10_minutesUntilArrival_100 dX10_minutesUntilArrival_103 dX10_minutesUntilArrival_104 dX10_minutesUntilArrival_107 dX10_minutesUntilArrival_110 (by decide) (by decide) (by decide) (by decide) (fun j => ⟨fun i2 g2 e h2 hg2 => (by have ei : i2 = i := (by omega); subst ei; rw [hg] at hg2; cases hg2; exact hnone), by decide, W1.same (S := fun _ => False) (zSame.rf.app _) (fun _ _ _ q => q), s1.app _⟩)
  intro n
  induction n with
  | zero =>
    intro m hmn hm1 c h1 hc he W1 s1
    refine z_iload F dX10_minutesUntilArrival_20 rfl ?_
    refine zi_bipush F dX10_minutesUntilArrival_22 (by decide) ?_
    refine zi_icmp_gt (tgt := 100) F dX10_minutesUntilArrival_24 (by decide) (by first | omega | (dsimp only at *; omega)) (fun c24 => ?_) (fun c24 => False.elim (by first | omega | (dsimp only at *; omega)))
    exact fin (by rw [he]; rfl) _ _ W1 s1
  | succ n ih =>
    intro m hmn hm1 c h1 hc he W1 s1
    have ho1 := s1.get ho (fun q => by have := q.1; omega)
    have R1 := R.same s1 (fun a g1 g2 q => by have := q.1; omega)
    replace he : f_arr C (C.2.2.1 i).2.1 g 48 1 (C.2.2.1 i).1 = if f_nx C (f_tide (C.2.2.2.2.1 + m)) (C.2.2.1 i).2.1 c g = g then some m else if f_ww C (f_nx C (f_tide (C.2.2.2.2.1 + m)) (C.2.2.1 i).2.1 c g) (f_tide (C.2.2.2.2.1 + m)) < (C.2.2.1 i).2.1 then none else f_arr C (C.2.2.1 i).2.1 g n (m + 1) (f_nx C (f_tide (C.2.2.2.2.1 + m)) (C.2.2.1 i).2.1 c g) := he
    obtain ⟨op, ln, fc, qu, W2⟩ := W1
    have fl := f_nx_lt (C := C) (t := f_tide (C.2.2.2.2.1 + m)) (d := (C.2.2.1 i).2.1) (g := g) hc
    have hft := f_tide_le (C.2.2.2.2.1 + m)
    have hfd := f_dep_le hO (f_nx C (f_tide (C.2.2.2.2.1 + m)) (C.2.2.1 i).2.1 c g)
    have hww : f_ww C (f_nx C (f_tide (C.2.2.2.2.1 + m)) (C.2.2.1 i).2.1 c g) (f_tide (C.2.2.2.2.1 + m)) ≤ 11 := by unfold f_ww; split <;> omega
    refine z_iload F dX10_minutesUntilArrival_20 rfl ?_
    refine zi_bipush F dX10_minutesUntilArrival_22 (by decide) ?_
    refine zi_icmp_gt (tgt := 100) F dX10_minutesUntilArrival_24 (by decide) (by first | omega | (dsimp only at *; omega)) (fun c24 => False.elim (by first | omega | (dsimp only at *; omega))) (fun c24 => ?_)
    refine z_aload_n F dX10_minutesUntilArrival_27 rfl rfl ?_
    refine z_getfield F fl_X10_12 dX10_minutesUntilArrival_28 ho1 (by decide) rfl ?_
    refine z_getfield F fl_X10_84 dX10_minutesUntilArrival_31 R1.ob (by decide) rfl ?_
    refine z_iload F dX10_minutesUntilArrival_34 rfl ?_
    refine zi_iadd F dX10_minutesUntilArrival_36 ?_
    rw [show ((C.2.2.2.2.1 : Int) + m) = ((C.2.2.2.2.1 + m : Nat) : Int) from rfl]
    refine z_callS F B cal_yX10_tideAt (m_tideAt _ (by omega) _) dX10_minutesUntilArrival_37 rfl rfl (Nat.le_of_ble_eq_true rfl) (by decide) (by decide) (by decide) ml_X10_87 st_yX10_tideAt (fun v hX qX => ?_) (fun C h1 q => q.elim)
    obtain ⟨rfl, qX⟩ := qX
    rw [qX]
    clear qX hX
    refine z_istore F dX10_minutesUntilArrival_40 rfl (hnl _ rfl) ?_
    refine z_aload_n F dX10_minutesUntilArrival_42 rfl rfl ?_
    refine z_getfield F fl_X10_29 dX10_minutesUntilArrival_43 ho1 (by decide) rfl ?_
    refine z_aload_n F dX10_minutesUntilArrival_46 rfl rfl ?_
    refine z_getfield F fl_X10_12 dX10_minutesUntilArrival_47 ho1 (by decide) rfl ?_
    refine z_iload F dX10_minutesUntilArrival_50 rfl ?_
    refine z_aload_n F dX10_minutesUntilArrival_52 rfl rfl ?_
    refine z_getfield F fl_X10_246 dX10_minutesUntilArrival_53 (R1.si (by omega)) (by decide) rfl ?_
    refine z_iload F dX10_minutesUntilArrival_56 rfl ?_
    refine z_iload_n F dX10_minutesUntilArrival_58 rfl rfl ?_
    refine z_callV F B cal_yX9_nextCell (m_nextCell (c := c) (g := g) hw (by omega) R1 W2 hO hft hd9 hc hg64) dX10_minutesUntilArrival_59 rfl rfl (Nat.le_of_ble_eq_true rfl) (by decide) (by decide) (by decide) ml_X10_259 im_yX9_nextCell se_yX9_nextCell W2.1 (by decide) rfl rfl (fun v hX qX => ?_) (fun C h1 q => q.elim)
    obtain ⟨rfl, W3, s3⟩ := qX
    rw [f_nx_eq hc]
    have s4 := s1.tr s3
    have ho2 := s4.get ho (fun q => by have := q.1; omega)
    have R2 := R.same s4 (fun a g1 g2 q => by have := q.1; omega)
    refine z_istore F dX10_minutesUntilArrival_62 rfl (hnl _ rfl) ?_
    refine z_iload F dX10_minutesUntilArrival_64 rfl ?_
    refine z_iload_n F dX10_minutesUntilArrival_66 rfl rfl ?_
    refine zi_icmp_ne (tgt := 73) F dX10_minutesUntilArrival_67 (by decide) (by first | omega | (dsimp only at *; omega)) (fun c67 => ?_) (fun c67 => ?_)
    · refine z_aload_n F dX10_minutesUntilArrival_73 rfl rfl ?_
      refine z_getfield F fl_X10_12 dX10_minutesUntilArrival_74 ho2 (by decide) rfl ?_
      refine z_iload F dX10_minutesUntilArrival_77 rfl ?_
      refine z_iload F dX10_minutesUntilArrival_79 rfl ?_
      refine z_callV F B cal_yX2_waterWith (m_waterWith (c := (f_nx C (f_tide (C.2.2.2.2.1 + m)) (C.2.2.1 i).2.1 c g : Nat)) R2 hO (by omega) hft) dX10_minutesUntilArrival_81 rfl rfl (Nat.le_of_ble_eq_true rfl) (by decide) (by decide) (by decide) ml_X10_263 im_yX2_waterWith se_yX2_waterWith R2.ob (by decide) rfl rfl (fun v hX qX => ?_) (fun C h1 q => q.elim)
      obtain ⟨rfl, qX⟩ := qX
      rw [qX]
      clear qX hX
      refine z_aload_n F dX10_minutesUntilArrival_84 rfl rfl ?_
      refine z_getfield F fl_X10_246 dX10_minutesUntilArrival_85 (R2.si (by omega)) (by decide) rfl ?_
      refine zi_icmp_ge (tgt := 94) F dX10_minutesUntilArrival_88 (by decide) (by first | omega | (dsimp only at *; omega)) (fun c88 => ?_) (fun c88 => ?_)
      · refine zi_iinc F dX10_minutesUntilArrival_94 rfl rfl (hnl _ rfl) ?_
        refine z_goto (tgt := 20) F dX10_minutesUntilArrival_97 (by decide) ?_
        exact Z.keys [5, 4, 3, 2, 0] rfl (ih (m + 1) (by omega) (by omega) _ _ fl (by rw [he, if_neg (by omega), if_neg (by omega)]) W3 s4)
      · refine z_goto (tgt := 100) F dX10_minutesUntilArrival_91 (by decide) ?_
        exact fin (by rw [he, if_neg (by omega), if_pos (by omega)]) _ _ W3 s4
    · refine z_iload F dX10_minutesUntilArrival_70 rfl ?_
      exact Z.widen (by decide) (by decide) (z_ireturn F rfl B dX10_minutesUntilArrival_72 ⟨⟨i, g, m, rfl, hi, hg, by rw [he, if_pos (by omega)], rfl⟩, W3, s4⟩)
end
