/-! doubles and floats: the mean depth, the share seen -/
section ZFL
variable {X : zX} {cc : ByteArray} {own : String} {k n pc : Nat} {ls : zL} {st : List Value} {h : zH}
theorem z_ldc2d (F : zF zT zN X cc own) {index : Nat} {v : UInt64} (hd : decode cc pc = .ok (.ldc2_w index, 3)) (hw : Cond.constantDouble own index v ∈ zT) (K : Z X k n (pc + 3) ls (.double v :: st) h) : Z X k n pc ls st h := by
  obtain ⟨p, l, e, R, s, m, args, below, meth, c, Q, g, nL⟩ := X
  exact fun la H locs hl hP hS => lv_ldc2d F.1 F.2.1 F.2.2.2.1 (F.2.2.2.2.1 _ hw) hd (K la H locs hl hP hS)
theorem z_ldcf (F : zF zT zN X cc own) {index : Nat} {v : UInt32} (hd : decode cc pc = .ok (.ldc index, 2)) (hw : Cond.constantFloat own index v ∈ zT) (K : Z X k n (pc + 2) ls (.float v :: st) h) : Z X k n pc ls st h := by
  obtain ⟨p, l, e, R, s, m, args, below, meth, c, Q, g, nL⟩ := X
  exact fun la H locs hl hP hS => lv_ldcf F.1 F.2.1 F.2.2.2.1 (F.2.2.2.2.1 _ hw) hd (K la H locs hl hP hS)
theorem z_dcmp (F : zF zT zN X cc own) {x y : UInt64} {op : CmpOp} (hd : decode cc pc = .ok (.dcmp op, 1)) (K : Z X k n (pc + 1) ls (.int (Op.cmpValue (FP.dcmp x y) op) :: st) h) : Z X k n pc ls (.double y :: .double x :: st) h := by
  obtain ⟨p, l, e, R, s, m, args, below, meth, c, Q, g, nL⟩ := X
  exact fun la H locs hl hP hS => lv_dcmp F.1 F.2.1 hd (K la H locs hl hP hS)
theorem z_fcmp (F : zF zT zN X cc own) {x y : UInt32} {op : CmpOp} (hd : decode cc pc = .ok (.fcmp op, 1)) (K : Z X k n (pc + 1) ls (.int (Op.cmpValue (FP.fcmp x y) op) :: st) h) : Z X k n pc ls (.float y :: .float x :: st) h := by
  obtain ⟨p, l, e, R, s, m, args, below, meth, c, Q, g, nL⟩ := X
  exact fun la H locs hl hP hS => lv_fcmp F.1 F.2.1 hd (K la H locs hl hP hS)
theorem z_fload_n (F : zF zT zN X cc own) {j : Fin 4} {i : Nat} {x : UInt32} (hd : decode cc pc = .ok (.fload_n j, 1)) (hi : (j : Nat) = i) (hv : zlk ls i = some (.float x)) (K : Z X k n (pc + 1) ls (.float x :: st) h) : Z X k n pc ls st h := by
  obtain ⟨p, l, e, R, s, m, args, below, meth, c, Q, g, nL⟩ := X
  exact fun la H locs hl hP hS => lv_fload_n F.1 F.2.1 hd hi (zlk_at hl hv) (K la H locs hl hP hS)
theorem z_fstore_n (F : zF zT zN X cc own) {j : Fin 4} {i : Nat} {x : UInt32} (hd : decode cc pc = .ok (.fstore_n j, 1)) (hi : (j : Nat) = i) (ho : zok i ls = true) (hn : Nat.blt i X.2.2.2.2.2.2.2.2.2.2.2.2 = true) (K : Z X k n (pc + 1) ((i, .float x) :: ls) st h) : Z X k n pc ls (.float x :: st) h := by
  obtain ⟨p, l, e, R, s, m, args, below, meth, c, Q, g, nL⟩ := X
  exact fun la H locs hl hP hS => lv_fstore_n F.1 F.2.1 hd hi hl (Nat.le_of_ble_eq_true hn) rfl (fun la2 hl2 => K la2 H locs (zst1 hl2 ho) hP hS)
end ZFL
theorem zw_d294 : Cond.constantDouble RX10 294 4634204016564240384 ∈ zT := zT_i 1106 (by decide +kernel) (by decide +kernel)
theorem zw_d246 : Cond.constantDouble RL 246 4634204016564240384 ∈ zT := zT_i 1107 (by decide +kernel) (by decide +kernel)
theorem zw_f79 : Cond.constantFloat RL 79 3212836864 ∈ zT := zT_i 1224 (by decide +kernel) (by decide +kernel)
/-- a whole number by 64 -/
def f_d64 (n : Nat) : UInt64 := FP.ddiv (FP.i2d (iI n)) 4634204016564240384
def f_shr (a b : Nat) : UInt32 := FP.fdiv (FP.i2f (iI a)) (FP.i2f (iI b))
theorem f_d64_n : ∀ n : Nat, n < 577 → (f_d64 n) &&& 0x7fffffffffffffff ≤ 0x7ff0000000000000 := by decide +kernel
theorem f_shr_n : ∀ a : Nat, a < 7 → ∀ b : Nat, b < 7 → 0 < b → (f_shr a b) &&& 0x7fffffff ≤ 0x7f800000 := by decide +kernel
def f_seen (C : zCo) : Nat := zcnt (fun i => decide (0 < f_lsw C (C.2.2.1 i).1)) C.2.2.2.1.2
section
variable {o K : Nat} {S : zBt} {σ τ : Nat → Nat} {C : zCo} {h : zH}
theorem m_meanDepth (ho : h[o]? = some (12, zBf o S)) (R : zRepC (o + 1) σ τ C h) (hO : zOk K C) : zMet yX10_meanDepth cX10_meanDepth 3 (some .double) 1 0 0 [.ref o] h (fun v h' => v = some (.double (f_d64 (zsum C.1 64))) ∧ h' = h) (fun _ _ => False) := by
  refine zMet.go (by decide +kernel) (Nat.le_of_ble_eq_true rfl) ?_
  intro X F B hnl hR hn
  have hle := zsum_le (f := C.1) (M := 9) hO.1
  have hn := f_d64_n (zsum C.1 64) (by have := hle 64; omega)
  refine zi_iconst F dX10_meanDepth_0 ?_
  refine z_istore_n F dX10_meanDepth_1 rfl rfl (hnl _ rfl) ?_
  refine zi_iconst F dX10_meanDepth_2 ?_
  refine z_istore_n F dX10_meanDepth_3 rfl rfl (hnl _ rfl) ?_
  suffices KK : ∀ n i : Nat, n + i = 64 → Z X 0 0 4 [(2, .int (iI i)), (1, .int (iI (zsum C.1 i : Nat))), (0, .ref o)] [] h from Z.keys [2, 1, 0] rfl (KK 64 0 rfl)
  intro n
  induction n with
  | zero =>
    intro i hi
    have hin : i = 64 := by omega
    subst hin
    refine z_iload_n F dX10_meanDepth_4 rfl rfl ?_
    refine zi_bipush F dX10_meanDepth_5 (by decide) ?_
    refine zi_icmp_ge (tgt := 28) F dX10_meanDepth_7 (by decide) (by first | omega | (dsimp only at *; omega)) (fun c7 => ?_) (fun c7 => False.elim (by first | omega | (dsimp only at *; omega)))
    refine z_iload_n F dX10_meanDepth_28 rfl rfl ?_
    refine z_i2d F dX10_meanDepth_29 ?_
    refine z_ldc2d F dX10_meanDepth_30 zw_d294 ?_
    refine z_ddiv F dX10_meanDepth_33 hn ?_
    exact z_dreturn F B dX10_meanDepth_34 ⟨rfl, rfl⟩
  | succ n ih =>
    intro i hi
    refine z_iload_n F dX10_meanDepth_4 rfl rfl ?_
    refine zi_bipush F dX10_meanDepth_5 (by decide) ?_
    refine zi_icmp_ge (tgt := 28) F dX10_meanDepth_7 (by decide) (by first | omega | (dsimp only at *; omega)) (fun c7 => False.elim (by first | omega | (dsimp only at *; omega))) (fun c7 => ?_)
    refine z_iload_n F dX10_meanDepth_10 rfl rfl ?_
    refine z_aload_n F dX10_meanDepth_11 rfl rfl ?_
    refine z_getfield F fl_X10_12 dX10_meanDepth_12 ho (by decide) rfl ?_
    refine z_getfield F fl_X10_290 dX10_meanDepth_15 R.ob (by decide) rfl ?_
    refine z_iload_n F dX10_meanDepth_18 rfl rfl ?_
    refine zi_iaload (i := i) F dX10_meanDepth_19 R.dp rfl (by omega) (zar_get (by omega)) ?_
    refine zi_iadd F dX10_meanDepth_20 ?_
    refine z_istore_n F dX10_meanDepth_21 rfl rfl (hnl _ rfl) ?_
    refine zi_iinc F dX10_meanDepth_22 rfl rfl (hnl _ rfl) ?_
    refine z_goto (tgt := 4) F dX10_meanDepth_25 (by decide) ?_
    exact Z.keys [2, 1, 0] rfl (ih (i + 1) (by omega))
theorem m_seenShare (ho : h[o]? = some (12, zBf o S)) (R : zRepC (o + 1) σ τ C h) (hO : zOk K C) (hK : K < 2000000) : zMet yX10_seenShare cX10_seenShare 3 (some .float) 8 1 6 [.ref o] h (fun v h' => (0 < C.2.2.2.1.2 ∧ v = some (.float (f_shr (f_seen C) C.2.2.2.1.2))) ∧ h' = h) (fun D h' => C.2.2.2.1.2 = 0 ∧ zTh [xAr] h D h') := by
  refine zMet.go (by decide +kernel) (Nat.le_of_ble_eq_true rfl) ?_
  intro X F B hnl hR hn
  have hn6 := hO.2.2.2.2.1
  by_cases h0 : C.2.2.2.1.2 = 0
  · refine z_aload_n F dX10_seenShare_0 rfl rfl ?_
    refine z_getfield F fl_X10_12 dX10_seenShare_1 ho (by decide) rfl ?_
    refine z_getfield F fl_X10_222 dX10_seenShare_4 R.ob (by decide) rfl ?_
    refine zi_if_ne (tgt := 21) F dX10_seenShare_7 (by decide) (by first | omega | (dsimp only at *; omega)) (fun c7 => False.elim (by first | omega | (dsimp only at *; omega))) (fun c7 => ?_)
    exact z_throwSW F B thr_X10_296_298_300 dX10_seenShare_10 dX10_seenShare_13 dX10_seenShare_14 dX10_seenShare_17 dX10_seenShare_20 (by decide) (by decide) (by decide) (by decide) (fun j => ⟨h0, by decide, j, rfl⟩)
  · have hsle : f_seen C ≤ 6 := Nat.le_trans (zcnt_le _ _) hn6
    have hnan := f_shr_n (f_seen C) (by omega) C.2.2.2.1.2 (by omega) (by omega)
    refine z_aload_n F dX10_seenShare_0 rfl rfl ?_
    refine z_getfield F fl_X10_12 dX10_seenShare_1 ho (by decide) rfl ?_
    refine z_getfield F fl_X10_222 dX10_seenShare_4 R.ob (by decide) rfl ?_
    refine zi_if_ne (tgt := 21) F dX10_seenShare_7 (by decide) (by first | omega | (dsimp only at *; omega)) (fun c7 => ?_) (fun c7 => False.elim (by first | omega | (dsimp only at *; omega)))
    refine zi_iconst F dX10_seenShare_21 ?_
    refine z_istore_n F dX10_seenShare_22 rfl rfl (hnl _ rfl) ?_
    refine zi_iconst F dX10_seenShare_23 ?_
    refine z_istore_n F dX10_seenShare_24 rfl rfl (hnl _ rfl) ?_
    suffices KK : ∀ n i : Nat, n + i = C.2.2.2.1.2 → Z X 0 0 25 [(2, .int (iI i)), (1, .int (iI (zcnt (fun i => decide (0 < f_lsw C (C.2.2.1 i).1)) i : Nat))), (0, .ref o)] [] h from Z.keys [2, 1, 0] rfl (KK C.2.2.2.1.2 0 rfl)
    intro n
    induction n with
    | zero =>
      intro i hi
      have hin : i = C.2.2.2.1.2 := by omega
      subst hin
      refine z_iload_n F dX10_seenShare_25 rfl rfl ?_
      refine z_aload_n F dX10_seenShare_26 rfl rfl ?_
      refine z_getfield F fl_X10_12 dX10_seenShare_27 ho (by decide) rfl ?_
      refine z_getfield F fl_X10_222 dX10_seenShare_30 R.ob (by decide) rfl ?_
      refine zi_icmp_ge (tgt := 67) F dX10_seenShare_33 (by decide) (by first | omega | (dsimp only at *; omega)) (fun c33 => ?_) (fun c33 => False.elim (by first | omega | (dsimp only at *; omega)))
      refine z_iload_n F dX10_seenShare_67 rfl rfl ?_
      refine z_i2f F dX10_seenShare_68 ?_
      refine z_aload_n F dX10_seenShare_69 rfl rfl ?_
      refine z_getfield F fl_X10_12 dX10_seenShare_70 ho (by decide) rfl ?_
      refine z_getfield F fl_X10_222 dX10_seenShare_73 R.ob (by decide) rfl ?_
      refine z_i2f F dX10_seenShare_76 ?_
      refine z_fdiv F dX10_seenShare_77 hnan ?_
      exact Z.widen (by decide) (by decide) (z_freturn F B dX10_seenShare_78 ⟨⟨by omega, rfl⟩, rfl⟩)
    | succ n ih =>
      intro i hi
      have hll : f_lsw C (C.2.2.1 i).1 ≤ 6 := Nat.le_trans (zcnt_le _ _) hO.2.2.2.1
      refine z_iload_n F dX10_seenShare_25 rfl rfl ?_
      refine z_aload_n F dX10_seenShare_26 rfl rfl ?_
      refine z_getfield F fl_X10_12 dX10_seenShare_27 ho (by decide) rfl ?_
      refine z_getfield F fl_X10_222 dX10_seenShare_30 R.ob (by decide) rfl ?_
      refine zi_icmp_ge (tgt := 67) F dX10_seenShare_33 (by decide) (by first | omega | (dsimp only at *; omega)) (fun c33 => False.elim (by first | omega | (dsimp only at *; omega))) (fun c33 => ?_)
      refine z_aload_n F dX10_seenShare_36 rfl rfl ?_
      refine z_getfield F fl_X10_12 dX10_seenShare_37 ho (by decide) rfl ?_
      refine z_aload_n F dX10_seenShare_40 rfl rfl ?_
      refine z_getfield F fl_X10_12 dX10_seenShare_41 ho (by decide) rfl ?_
      refine z_getfield F fl_X10_301 dX10_seenShare_44 R.ob (by decide) rfl ?_
      refine z_iload_n F dX10_seenShare_47 rfl rfl ?_
      refine zi_aaload (i := i) F dX10_seenShare_48 R.sa (by decide) (by decide) rfl rfl (by omega) (zar_get (by omega)) rfl ?_
      refine z_getfield F fl_X10_229 dX10_seenShare_49 (R.si (by omega)) (by decide) rfl ?_
      refine z_callV F B cal_yX2_lightsSweeping (m_lightsSweeping R hO hK (hO.2.2.1 i).1) dX10_seenShare_52 rfl rfl (Nat.le_of_ble_eq_true rfl) (by decide) (by decide) (by decide) ml_X10_240 im_yX2_lightsSweeping se_yX2_lightsSweeping R.ob (by decide) rfl rfl (fun v hX qX => ?_) (fun C h1 q => q.elim)
      obtain ⟨rfl, qX⟩ := qX
      rw [qX]
      clear qX hX
      refine zi_if_le (tgt := 61) F dX10_seenShare_55 (by decide) (by first | omega | (dsimp only at *; omega)) (fun c55 => ?_) (fun c55 => ?_)
      · refine zi_iinc F dX10_seenShare_61 rfl rfl (hnl _ rfl) ?_
        refine z_goto (tgt := 25) F dX10_seenShare_64 (by decide) ?_
        first | exact Z.keys [2, 1, 0] (by rw [zcnt_t (p := fun i => decide (0 < f_lsw C (C.2.2.1 i).1)) (decide_eq_true (by omega))]; rfl) (ih (i + 1) (by omega)) | exact Z.keys [2, 1, 0] (by rw [zcnt_f (p := fun i => decide (0 < f_lsw C (C.2.2.1 i).1)) (decide_eq_false (by omega))]; rfl) (ih (i + 1) (by omega))
      · refine zi_iinc F dX10_seenShare_58 rfl rfl (hnl _ rfl) ?_
        refine zi_iinc F dX10_seenShare_61 rfl rfl (hnl _ rfl) ?_
        refine z_goto (tgt := 25) F dX10_seenShare_64 (by decide) ?_
        first | exact Z.keys [2, 1, 0] (by rw [zcnt_t (p := fun i => decide (0 < f_lsw C (C.2.2.1 i).1)) (decide_eq_true (by omega))]; rfl) (ih (i + 1) (by omega)) | exact Z.keys [2, 1, 0] (by rw [zcnt_f (p := fun i => decide (0 < f_lsw C (C.2.2.1 i).1)) (decide_eq_false (by omega))]; rfl) (ih (i + 1) (by omega))
theorem w_seenShare (R : zRB o S h) (hO : zOk K S.1) (hK : K < 1700000) : zMetH yL_seenShare cL_seenShare 3 (some .float) [(3, 8, 11, 84)] 10 1 6 [.ref o] h (fun v h' => v = some (.float (if S.1.2.2.2.1.2 = 0 then 3212836864 else f_shr (f_seen S.1) S.1.2.2.2.1.2)) ∧ zRB o S h') (fun _ _ => False) := by
  refine zMetH.go (by decide +kernel) (Nat.le_of_ble_eq_true rfl) ?_
  intro X F B hnl hR hn
  have r0 := R.2.1
  obtain ⟨σ, τ, r1⟩ := R.2.2.1
  refine z_ldcf F dL_seenShare_0 zw_f79 ?_
  refine z_fstore_n F dL_seenShare_2 rfl rfl (hnl _ rfl) ?_
  refine z_aload_n F dL_seenShare_3 rfl rfl ?_
  refine z_callVH F B cal_yX10_seenShare (m_seenShare r0 r1 hO (by omega)) dL_seenShare_4 rfl rfl (Nat.le_of_ble_eq_true rfl) (by decide) (by decide) (by decide) ml_L_80 im_yX10_seenShare se_yX10_seenShare r0 (by decide) rfl rfl (fun v hX qX => ?_) (fun D hX qX => ?_)
  · obtain ⟨⟨q0, rfl⟩, qh⟩ := qX
    rw [qh]
    refine z_fstore_n F dL_seenShare_7 rfl rfl (hnl _ rfl) ?_
    refine z_goto (tgt := 15) F dL_seenShare_8 (by decide) ?_
    refine z_fload_n F dL_seenShare_15 rfl rfl ?_
    exact Z.widen (by decide) (by decide) (z_freturnH F B dL_seenShare_16 ⟨by rw [if_neg (by omega)], R⟩)
  · obtain ⟨q1, qm, j, rfl⟩ := qX
    simp only [List.mem_cons, List.not_mem_nil, or_false] at qm
    subst qm
    refine ⟨[], [], 3, 8, 11, 84, 2, 1, rfl, rfl, by decide, (fun q hq => absurd hq List.not_mem_nil), zw_cl_84, zw_in_xAr, Or.inl ⟨2, rfl, rfl, dL_seenShare_11⟩, rfl, rfl, hnl _ rfl, ?_⟩
    refine z_ldcf F dL_seenShare_12 zw_f79 ?_
    exact Z.widen (by decide) (by decide) (z_freturnH F B dL_seenShare_14 ⟨by rw [if_pos q1], R.junkR _⟩)
end
