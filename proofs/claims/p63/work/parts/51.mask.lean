/-! sets of cells as bits: what the class computes -/
theorem zw_J13_314 : Cond.constantLong RJ13 314 (6148914691236517205 : Int64) ∈ zT := zT_i 996 (by decide +kernel) (by decide +kernel)
theorem zw_J13_316 : Cond.constantLong RJ13 316 (3689348814741910323 : Int64) ∈ zT := zT_i 997 (by decide +kernel) (by decide +kernel)
theorem zw_J13_318 : Cond.constantLong RJ13 318 (1085102592571150095 : Int64) ∈ zT := zT_i 998 (by decide +kernel) (by decide +kernel)
theorem zw_L_160 : Cond.constantLong RL 160 (7 : Int64) ∈ zT := zT_i 940 (by decide +kernel) (by decide +kernel)
theorem zw_L_165 : Cond.constantLong RL 165 (11 : Int64) ∈ zT := zT_i 945 (by decide +kernel) (by decide +kernel)
theorem zw_L_170 : Cond.constantLong RL 170 (13 : Int64) ∈ zT := zT_i 950 (by decide +kernel) (by decide +kernel)
theorem zw_L_175 : Cond.constantLong RL 175 (17 : Int64) ∈ zT := zT_i 955 (by decide +kernel) (by decide +kernel)
theorem zw_L_180 : Cond.constantLong RL 180 (19 : Int64) ∈ zT := zT_i 960 (by decide +kernel) (by decide +kernel)
theorem zw_L_188 : Cond.constantLong RL 188 (31 : Int64) ∈ zT := zT_i 965 (by decide +kernel) (by decide +kernel)
theorem zw_X10_486 : Cond.constantLong RX10 486 (-1 : Int64) ∈ zT := zT_i 1202 (by decide +kernel) (by decide +kernel)
theorem zw_J6_265 : Cond.constant RJ6 265 (1431655765 : Int32) ∈ zT := zT_i 1184 (by decide +kernel) (by decide +kernel)
theorem zw_J6_266 : Cond.constant RJ6 266 (858993459 : Int32) ∈ zT := zT_i 1185 (by decide +kernel) (by decide +kernel)
theorem zw_J6_267 : Cond.constant RJ6 267 (252645135 : Int32) ∈ zT := zT_i 1186 (by decide +kernel) (by decide +kernel)
theorem zw_L_7 : Cond.constant RL 7 (65535 : Int32) ∈ zT := zT_i 389 (by decide +kernel) (by decide +kernel)
def sh64 (x : Int64) (k : Int) : Int64 := (x.toUInt64 >>> ((iI k).toInt64.toUInt64 &&& Int64.toUInt64 63)).toInt64
def bc1 (x : Int64) : Int64 := x - (sh64 x 1 &&& 6148914691236517205)
def bc2 (x : Int64) : Int64 := (x &&& 3689348814741910323) + (sh64 x 2 &&& 3689348814741910323)
def bc3 (x : Int64) : Int64 := (x + sh64 x 4) &&& 1085102592571150095
def bc4 (x : Int64) : Int64 := x + sh64 x 8
def bc5 (x : Int64) : Int64 := x + sh64 x 16
def bc6 (x : Int64) : Int64 := x + sh64 x 32
def bc64 (x : Int64) : Int32 := (bc6 (bc5 (bc4 (bc3 (bc2 (bc1 x)))))).toInt32 &&& iI 127
def sh32 (x : Int32) (k : Int) : Int32 := (x.toUInt32 >>> ((iI k).toUInt32 &&& Int32.toUInt32 31)).toInt32
def bd1 (x : Int32) : Int32 := x - (sh32 x 1 &&& 1431655765)
def bd2 (x : Int32) : Int32 := (x &&& 858993459) + (sh32 x 2 &&& 858993459)
def bd3 (x : Int32) : Int32 := (x + sh32 x 4) &&& 252645135
def bd4 (x : Int32) : Int32 := x + sh32 x 8
def bd5 (x : Int32) : Int32 := x + sh32 x 16
def bc32 (x : Int32) : Int32 := bd5 (bd4 (bd3 (bd2 (bd1 x)))) &&& iI 63
theorem m_bitCountL {x : Int64} {h : zH} : zMet yJ13_bitCount_95d88 cJ13_bitCount_95d88 2 (some .int) 1 0 0 [.long x] h (fun v h' => v = some (.int (bc64 x)) ∧ h' = h) (fun _ _ => False) := by
  refine zMet.goF (by decide +kernel) (Nat.le_of_ble_eq_true rfl) ?_
  intro X F B hnl hR hn
  refine z_lload_n F dJ13_bitCount_95d88_0 rfl rfl ?_
  refine z_lload_n F dJ13_bitCount_95d88_1 rfl rfl ?_
  refine zi_iconst F dJ13_bitCount_95d88_2 ?_
  refine z_lushr F dJ13_bitCount_95d88_3 rfl ?_
  refine z_ldc2 F dJ13_bitCount_95d88_4 zw_J13_314 ?_
  refine z_land F dJ13_bitCount_95d88_7 ?_
  refine z_lsub F dJ13_bitCount_95d88_8 ?_
  refine z_lstore_n F dJ13_bitCount_95d88_9 rfl rfl rfl (hnl _ rfl) ?_
  refine Z.keys (ls' := [(0, .long (bc1 x))]) [0] rfl ?_
  refine z_lload_n F dJ13_bitCount_95d88_10 rfl rfl ?_
  refine z_ldc2 F dJ13_bitCount_95d88_11 zw_J13_316 ?_
  refine z_land F dJ13_bitCount_95d88_14 ?_
  refine z_lload_n F dJ13_bitCount_95d88_15 rfl rfl ?_
  refine zi_iconst F dJ13_bitCount_95d88_16 ?_
  refine z_lushr F dJ13_bitCount_95d88_17 rfl ?_
  refine z_ldc2 F dJ13_bitCount_95d88_18 zw_J13_316 ?_
  refine z_land F dJ13_bitCount_95d88_21 ?_
  refine z_ladd F dJ13_bitCount_95d88_22 ?_
  refine z_lstore_n F dJ13_bitCount_95d88_23 rfl rfl rfl (hnl _ rfl) ?_
  refine Z.keys (ls' := [(0, .long (bc2 (bc1 x)))]) [0] rfl ?_
  refine z_lload_n F dJ13_bitCount_95d88_24 rfl rfl ?_
  refine z_lload_n F dJ13_bitCount_95d88_25 rfl rfl ?_
  refine zi_iconst F dJ13_bitCount_95d88_26 ?_
  refine z_lushr F dJ13_bitCount_95d88_27 rfl ?_
  refine z_ladd F dJ13_bitCount_95d88_28 ?_
  refine z_ldc2 F dJ13_bitCount_95d88_29 zw_J13_318 ?_
  refine z_land F dJ13_bitCount_95d88_32 ?_
  refine z_lstore_n F dJ13_bitCount_95d88_33 rfl rfl rfl (hnl _ rfl) ?_
  refine Z.keys (ls' := [(0, .long (bc3 (bc2 (bc1 x))))]) [0] rfl ?_
  refine z_lload_n F dJ13_bitCount_95d88_34 rfl rfl ?_
  refine z_lload_n F dJ13_bitCount_95d88_35 rfl rfl ?_
  refine zi_bipush F dJ13_bitCount_95d88_36 (by decide) ?_
  refine z_lushr F dJ13_bitCount_95d88_38 rfl ?_
  refine z_ladd F dJ13_bitCount_95d88_39 ?_
  refine z_lstore_n F dJ13_bitCount_95d88_40 rfl rfl rfl (hnl _ rfl) ?_
  refine Z.keys (ls' := [(0, .long (bc4 (bc3 (bc2 (bc1 x)))))]) [0] rfl ?_
  refine z_lload_n F dJ13_bitCount_95d88_41 rfl rfl ?_
  refine z_lload_n F dJ13_bitCount_95d88_42 rfl rfl ?_
  refine zi_bipush F dJ13_bitCount_95d88_43 (by decide) ?_
  refine z_lushr F dJ13_bitCount_95d88_45 rfl ?_
  refine z_ladd F dJ13_bitCount_95d88_46 ?_
  refine z_lstore_n F dJ13_bitCount_95d88_47 rfl rfl rfl (hnl _ rfl) ?_
  refine Z.keys (ls' := [(0, .long (bc5 (bc4 (bc3 (bc2 (bc1 x))))))]) [0] rfl ?_
  refine z_lload_n F dJ13_bitCount_95d88_48 rfl rfl ?_
  refine z_lload_n F dJ13_bitCount_95d88_49 rfl rfl ?_
  refine zi_bipush F dJ13_bitCount_95d88_50 (by decide) ?_
  refine z_lushr F dJ13_bitCount_95d88_52 rfl ?_
  refine z_ladd F dJ13_bitCount_95d88_53 ?_
  refine z_lstore_n F dJ13_bitCount_95d88_54 rfl rfl rfl (hnl _ rfl) ?_
  refine Z.keys (ls' := [(0, .long (bc6 (bc5 (bc4 (bc3 (bc2 (bc1 x)))))))]) [0] rfl ?_
  refine z_lload_n F dJ13_bitCount_95d88_55 rfl rfl ?_
  refine z_l2i F dJ13_bitCount_95d88_56 rfl ?_
  refine zi_bipush F dJ13_bitCount_95d88_57 (by decide) ?_
  refine z_iand F dJ13_bitCount_95d88_59 ?_
  exact Z.widen (by decide) (by decide) (z_ireturn F rfl B dJ13_bitCount_95d88_60 ⟨rfl, rfl⟩)
theorem m_bitCountI {x : Int32} {h : zH} : zMet yJ6_bitCount_0f7a4 cJ6_bitCount_0f7a4 1 (some .int) 1 0 0 [.int x] h (fun v h' => v = some (.int (bc32 x)) ∧ h' = h) (fun _ _ => False) := by
  refine zMet.goF (by decide +kernel) (Nat.le_of_ble_eq_true rfl) ?_
  intro X F B hnl hR hn
  refine z_iload_n F dJ6_bitCount_0f7a4_0 rfl rfl ?_
  refine z_iload_n F dJ6_bitCount_0f7a4_1 rfl rfl ?_
  refine zi_iconst F dJ6_bitCount_0f7a4_2 ?_
  refine z_iushr F dJ6_bitCount_0f7a4_3 rfl ?_
  refine z_ldcw F dJ6_bitCount_0f7a4_4 zw_J6_265 ?_
  refine z_iand F dJ6_bitCount_0f7a4_7 ?_
  refine z_isub F dJ6_bitCount_0f7a4_8 ?_
  refine z_istore_n F dJ6_bitCount_0f7a4_9 rfl rfl (hnl _ rfl) ?_
  refine Z.keys (ls' := [(0, .int (bd1 x))]) [0] rfl ?_
  refine z_iload_n F dJ6_bitCount_0f7a4_10 rfl rfl ?_
  refine z_ldcw F dJ6_bitCount_0f7a4_11 zw_J6_266 ?_
  refine z_iand F dJ6_bitCount_0f7a4_14 ?_
  refine z_iload_n F dJ6_bitCount_0f7a4_15 rfl rfl ?_
  refine zi_iconst F dJ6_bitCount_0f7a4_16 ?_
  refine z_iushr F dJ6_bitCount_0f7a4_17 rfl ?_
  refine z_ldcw F dJ6_bitCount_0f7a4_18 zw_J6_266 ?_
  refine z_iand F dJ6_bitCount_0f7a4_21 ?_
  refine z_iadd F dJ6_bitCount_0f7a4_22 ?_
  refine z_istore_n F dJ6_bitCount_0f7a4_23 rfl rfl (hnl _ rfl) ?_
  refine Z.keys (ls' := [(0, .int (bd2 (bd1 x)))]) [0] rfl ?_
  refine z_iload_n F dJ6_bitCount_0f7a4_24 rfl rfl ?_
  refine z_iload_n F dJ6_bitCount_0f7a4_25 rfl rfl ?_
  refine zi_iconst F dJ6_bitCount_0f7a4_26 ?_
  refine z_iushr F dJ6_bitCount_0f7a4_27 rfl ?_
  refine z_iadd F dJ6_bitCount_0f7a4_28 ?_
  refine z_ldcw F dJ6_bitCount_0f7a4_29 zw_J6_267 ?_
  refine z_iand F dJ6_bitCount_0f7a4_32 ?_
  refine z_istore_n F dJ6_bitCount_0f7a4_33 rfl rfl (hnl _ rfl) ?_
  refine Z.keys (ls' := [(0, .int (bd3 (bd2 (bd1 x))))]) [0] rfl ?_
  refine z_iload_n F dJ6_bitCount_0f7a4_34 rfl rfl ?_
  refine z_iload_n F dJ6_bitCount_0f7a4_35 rfl rfl ?_
  refine zi_bipush F dJ6_bitCount_0f7a4_36 (by decide) ?_
  refine z_iushr F dJ6_bitCount_0f7a4_38 rfl ?_
  refine z_iadd F dJ6_bitCount_0f7a4_39 ?_
  refine z_istore_n F dJ6_bitCount_0f7a4_40 rfl rfl (hnl _ rfl) ?_
  refine Z.keys (ls' := [(0, .int (bd4 (bd3 (bd2 (bd1 x)))))]) [0] rfl ?_
  refine z_iload_n F dJ6_bitCount_0f7a4_41 rfl rfl ?_
  refine z_iload_n F dJ6_bitCount_0f7a4_42 rfl rfl ?_
  refine zi_bipush F dJ6_bitCount_0f7a4_43 (by decide) ?_
  refine z_iushr F dJ6_bitCount_0f7a4_45 rfl ?_
  refine z_iadd F dJ6_bitCount_0f7a4_46 ?_
  refine z_istore_n F dJ6_bitCount_0f7a4_47 rfl rfl (hnl _ rfl) ?_
  refine Z.keys (ls' := [(0, .int (bd5 (bd4 (bd3 (bd2 (bd1 x))))))]) [0] rfl ?_
  refine z_iload_n F dJ6_bitCount_0f7a4_48 rfl rfl ?_
  refine zi_bipush F dJ6_bitCount_0f7a4_49 (by decide) ?_
  refine z_iand F dJ6_bitCount_0f7a4_51 ?_
  exact Z.widen (by decide) (by decide) (z_ireturn F rfl B dJ6_bitCount_0f7a4_52 ⟨rfl, rfl⟩)
def mbit (i : Nat) : Int64 := (1 : Int64) <<< ((iI i).toInt64 &&& 63)
/-- the cells below n with p, as bits -/
def mk (p : Nat → Bool) : Nat → Int64
  | 0 => 0
  | n + 1 => if p n then mk p n ||| mbit n else mk p n
def f_rm (C : zCo) (l : zLt) : Int64 := mk (f_rch C l) 64
section
variable {o b K : Nat} {S : zBt} {σ τ : Nat → Nat} {C : zCo} {h : zH}
theorem m_reachOf {a : Nat} {l : zLt} (R : zRepC b σ τ C h) (hO : zOk K C) (ha : h[a]? = some (9, zLf l)) (hl : zLok K l) : zMet yX2_reachOf cX2_reachOf 5 (some .long) 3 0 0 [.ref b, .ref a] h (fun v h' => v = some (.long (f_rm C l)) ∧ h' = h) (fun _ _ => False) := by
  refine zMet.go (by decide +kernel) (Nat.le_of_ble_eq_true rfl) ?_
  intro X F B hnl hR hn
  refine z_lconst (v := 0) F dX2_reachOf_0 (by decide) ?_
  refine z_lstore_n F dX2_reachOf_1 rfl rfl rfl (hnl _ rfl) ?_
  refine zi_iconst F dX2_reachOf_2 ?_
  refine z_istore F dX2_reachOf_3 rfl (hnl _ rfl) ?_
  suffices KK : ∀ n i : Nat, n + i = 64 → Z X 0 0 5 [(4, .int (iI i)), (2, .long (mk (f_rch C l) i)), (0, .ref b), (1, .ref a)] [] h from Z.keys [4, 2, 0, 1] rfl (KK 64 0 rfl)
  intro n
  induction n with
  | zero =>
    intro i hi
    refine z_iload F dX2_reachOf_5 rfl ?_
    refine zi_bipush F dX2_reachOf_7 (by decide) ?_
    refine zi_icmp_ge (tgt := 35) F dX2_reachOf_9 (by decide) (by first | omega | (dsimp only at *; omega)) (fun c9 => ?_) (fun c9 => False.elim (by first | omega | (dsimp only at *; omega)))
    refine z_lload_n F dX2_reachOf_35 rfl rfl ?_
    exact Z.widen (by decide) (by decide) (z_lreturn F B dX2_reachOf_36 ⟨by rw [show i = 64 by omega]; rfl, rfl⟩)
  | succ n ih =>
    intro i hi
    have mkt : f_rch C l i = true → mk (f_rch C l) (i + 1) = mk (f_rch C l) i ||| mbit i := fun e => by show (if f_rch C l i = true then _ else _) = _; rw [if_pos e]
    have mkf : f_rch C l i = false → mk (f_rch C l) (i + 1) = mk (f_rch C l) i := fun e => by show (if f_rch C l i = true then _ else _) = _; rw [if_neg (by rw [e]; decide)]
    refine z_iload F dX2_reachOf_5 rfl ?_
    refine zi_bipush F dX2_reachOf_7 (by decide) ?_
    refine zi_icmp_ge (tgt := 35) F dX2_reachOf_9 (by decide) (by first | omega | (dsimp only at *; omega)) (fun c9 => False.elim (by first | omega | (dsimp only at *; omega))) (fun c9 => ?_)
    refine z_aload_n F dX2_reachOf_12 rfl rfl ?_
    refine z_aload_n F dX2_reachOf_13 rfl rfl ?_
    refine z_iload F dX2_reachOf_14 rfl ?_
    refine z_callV F B cal_yX2_canReach (m_canReach R hO ha hl (by omega)) dX2_reachOf_16 rfl rfl (Nat.le_of_ble_eq_true rfl) (by decide) (by decide) (by decide) ml_X2_104 im_yX2_canReach se_yX2_canReach R.ob (by decide) rfl rfl (fun v hX qX => ?_) (fun C h1 q => q.elim)
    obtain ⟨rfl, qX⟩ := qX
    rw [qX]
    clear qX hX
    refine zi_if_eq (tgt := 29) F dX2_reachOf_19 (by decide) (zBo_b _) (fun c19 => ?_) (fun c19 => ?_)
    · refine zi_iinc F dX2_reachOf_29 rfl rfl (hnl _ rfl) ?_
      refine z_goto (tgt := 5) F dX2_reachOf_32 (by decide) ?_
      first | exact Z.keys [4, 2, 0, 1] (by rw [mkf (by rw [zBo_z] at c19; exact c19)]; rfl) (ih (i + 1) (by omega)) | exact Z.keys [4, 2, 0, 1] (by rw [mkt (by rw [zBo_n] at c19; exact c19)]; rfl) (ih (i + 1) (by omega))
    · refine z_lload_n F dX2_reachOf_22 rfl rfl ?_
      refine z_lconst (v := 1) F dX2_reachOf_23 (by decide) ?_
      refine z_iload F dX2_reachOf_24 rfl ?_
      refine z_lshl F dX2_reachOf_26 rfl ?_
      refine z_lor F dX2_reachOf_27 ?_
      refine z_lstore_n F dX2_reachOf_28 rfl rfl rfl (hnl _ rfl) ?_
      refine zi_iinc F dX2_reachOf_29 rfl rfl (hnl _ rfl) ?_
      refine z_goto (tgt := 5) F dX2_reachOf_32 (by decide) ?_
      first | exact Z.keys [4, 2, 0, 1] (by rw [mkf (by rw [zBo_z] at c19; exact c19)]; rfl) (ih (i + 1) (by omega)) | exact Z.keys [4, 2, 0, 1] (by rw [mkt (by rw [zBo_n] at c19; exact c19)]; rfl) (ih (i + 1) (by omega))
/-- all that the first n lights reach -/
def mAll (C : zCo) : Nat → Int64
  | 0 => 0
  | n + 1 => mAll C n ||| f_rm C (C.2.1 n)
def zRk (r n : Nat) (C : zCo) (h : zH) : Prop := ∃ f : Nat → Int64, h[r]? = some (101, zar 6 (fun i => .long (f i))) ∧ ∀ i, i < n → f i = f_rm C (C.2.1 i)
theorem m_reachOfAll (hoz : zNR ≤ o) (ho : h[o]? = some (12, zBf o S)) (R : zRepC (o + 1) σ τ C h) (hO : zOk K C) (hr : zRc (o + 186) h) : zMet yX10_reachOfAll cX10_reachOfAll 4 (some .long) 4 0 0 [.ref o] h (fun v h' => v = some (.long (mAll C C.2.2.2.1.1)) ∧ zRk (o + 186) C.2.2.2.1.1 C h' ∧ zSame (zIn (o + 186) 1) h h') (fun _ _ => False) := by
  refine zMet.go (by decide +kernel) (Nat.le_of_ble_eq_true rfl) ?_
  intro X F B hnl hR hn
  have hl6 := hO.2.2.2.1
  obtain ⟨f0, hf0⟩ := hr
  refine z_lconst (v := 0) F dX10_reachOfAll_0 (by decide) ?_
  refine z_lstore_n F dX10_reachOfAll_1 rfl rfl rfl (hnl _ rfl) ?_
  refine zi_iconst F dX10_reachOfAll_2 ?_
  refine z_istore_n F dX10_reachOfAll_3 rfl rfl (hnl _ rfl) ?_
  suffices KK : ∀ n i : Nat, n + i = C.2.2.2.1.1 → ∀ (f : Nat → Int64) (h1 : zH), (∀ j, j < i → f j = f_rm C (C.2.1 j)) → h1[o + 186]? = some (101, zar 6 (fun i => .long (f i))) → zSame (zIn (o + 186) 1) h h1 → Z X 0 0 4 [(3, .int (iI i)), (1, .long (mAll C i)), (0, .ref o)] [] h1 from Z.keys [3, 1, 0] rfl (KK C.2.2.2.1.1 0 rfl f0 h (fun j hj => absurd hj (Nat.not_lt_zero j)) hf0 zSame.rf)
  intro n
  induction n with
  | zero =>
    intro i hi f h1 hf e1 s1
    have hin : i = C.2.2.2.1.1 := by omega
    subst hin
    refine z_iload_n F dX10_reachOfAll_4 rfl rfl ?_
    refine z_aload_n F dX10_reachOfAll_5 rfl rfl ?_
    refine z_getfield F fl_X10_12 dX10_reachOfAll_6 (s1.get ho (fun q => by have := q.1; omega)) (by decide) rfl ?_
    refine z_getfield F fl_X10_134 dX10_reachOfAll_9 (s1.get R.ob (fun q => by have := q.1; omega)) (by decide) rfl ?_
    refine zi_icmp_ge (tgt := 52) F dX10_reachOfAll_12 (by decide) (by first | omega | (dsimp only at *; omega)) (fun c12 => ?_) (fun c12 => False.elim (by first | omega | (dsimp only at *; omega)))
    refine z_lload_n F dX10_reachOfAll_52 rfl rfl ?_
    exact Z.widen (by decide) (by decide) (z_lreturn F B dX10_reachOfAll_53 ⟨rfl, ⟨f, e1, hf⟩, s1⟩)
  | succ n ih =>
    intro i hi f h1 hf e1 s1
    have ho1 := s1.get ho (fun q => by have := q.1; omega)
    have R1 := R.same s1 (fun a g1 g2 q => by have := q.1; omega)
    refine z_iload_n F dX10_reachOfAll_4 rfl rfl ?_
    refine z_aload_n F dX10_reachOfAll_5 rfl rfl ?_
    refine z_getfield F fl_X10_12 dX10_reachOfAll_6 ho1 (by decide) rfl ?_
    refine z_getfield F fl_X10_134 dX10_reachOfAll_9 R1.ob (by decide) rfl ?_
    refine zi_icmp_ge (tgt := 52) F dX10_reachOfAll_12 (by decide) (by first | omega | (dsimp only at *; omega)) (fun c12 => False.elim (by first | omega | (dsimp only at *; omega))) (fun c12 => ?_)
    refine z_aload_n F dX10_reachOfAll_15 rfl rfl ?_
    refine z_getfield F fl_X10_40 dX10_reachOfAll_16 ho1 (by decide) rfl ?_
    refine z_iload_n F dX10_reachOfAll_19 rfl rfl ?_
    refine z_aload_n F dX10_reachOfAll_20 rfl rfl ?_
    refine z_getfield F fl_X10_12 dX10_reachOfAll_21 ho1 (by decide) rfl ?_
    refine z_aload_n F dX10_reachOfAll_24 rfl rfl ?_
    refine z_getfield F fl_X10_12 dX10_reachOfAll_25 ho1 (by decide) rfl ?_
    refine z_getfield F fl_X10_280 dX10_reachOfAll_28 R1.ob (by decide) rfl ?_
    refine z_iload_n F dX10_reachOfAll_31 rfl rfl ?_
    refine zi_aaload (i := i) F dX10_reachOfAll_32 R1.la (by decide) (by decide) rfl rfl (by omega) (zar_get (by omega)) rfl ?_
    refine z_callV F B cal_yX2_reachOf (m_reachOf R1 hO (R1.li (by omega)) (hO.2.1 i)) dX10_reachOfAll_33 rfl rfl (Nat.le_of_ble_eq_true rfl) (by decide) (by decide) (by decide) ml_X10_184 im_yX2_reachOf se_yX2_reachOf R1.ob (by decide) rfl rfl (fun v hX qX => ?_) (fun C h1 q => q.elim)
    obtain ⟨rfl, qX⟩ := qX
    rw [qX]
    clear qX hX
    refine zi_lastore (i := i) F dX10_reachOfAll_36 (zmut_of F (by omega)) e1 rfl (by rw [zar_len]; omega) ?_
    rw [zar_up 6 i (fun v => Value.long v) f (f_rm C (C.2.1 i))]
    refine z_lload_n F dX10_reachOfAll_37 rfl rfl ?_
    refine z_aload_n F dX10_reachOfAll_38 rfl rfl ?_
    refine z_getfield F fl_X10_40 dX10_reachOfAll_39 (zkeep ho1 (by omega)) (by decide) rfl ?_
    refine z_iload_n F dX10_reachOfAll_42 rfl rfl ?_
    refine zi_laload (i := i) F dX10_reachOfAll_43 (zset_same e1) rfl (by omega) (zar_get (by omega)) ?_
    rw [zup_s]
    refine z_lor F dX10_reachOfAll_44 ?_
    refine z_lstore_n F dX10_reachOfAll_45 rfl rfl rfl (hnl _ rfl) ?_
    refine zi_iinc F dX10_reachOfAll_46 rfl rfl (hnl _ rfl) ?_
    refine z_goto (tgt := 4) F dX10_reachOfAll_49 (by decide) ?_
    exact Z.keys [3, 1, 0] rfl (ih (i + 1) (by omega) (zup f i (f_rm C (C.2.1 i))) _ (zup_ext (g := fun j => f_rm C (C.2.1 j)) hf) (zset_same e1) (s1.set ⟨by omega, by omega⟩))
theorem m_litCells (R : zRB o S h) (hO : zOk K S.1) (hK : K < 1800000) : zMet yX10_litCells cX10_litCells 1 (some .int) 5 0 0 [.ref o] h (fun v h' => v = some (.int (bc64 (mAll S.1 S.1.2.2.2.1.1))) ∧ zRB o S h') (fun _ _ => False) := by
  refine zMet.go (by decide +kernel) (Nat.le_of_ble_eq_true rfl) ?_
  intro X F B hnl hR hn
  have r0 := R.2.1
  obtain ⟨σ, τ, r1⟩ := R.2.2.1
  refine z_aload_n F dX10_litCells_0 rfl rfl ?_
  refine z_callV F B cal_yX10_reachOfAll (m_reachOfAll R.1 r0 r1 hO R.2.2.2.2.2.2.2.1) dX10_litCells_1 rfl rfl (Nat.le_of_ble_eq_true rfl) (by decide) (by decide) (by decide) ml_X10_194 im_yX10_reachOfAll se_yX10_reachOfAll r0 (by decide) rfl rfl (fun v hX qX => ?_) (fun C h1 q => q.elim)
  obtain ⟨rfl, ⟨f, e, -⟩, s⟩ := qX
  refine z_callS F B cal_yJ13_bitCount_95d88 m_bitCountL dX10_litCells_4 rfl rfl (Nat.le_of_ble_eq_true rfl) (by decide) (by decide) (by decide) ml_X10_188 st_yJ13_bitCount_95d88 (fun v hX qX => ?_) (fun C h1 q => q.elim)
  obtain ⟨rfl, qX⟩ := qX
  rw [qX]
  clear qX hX
  exact Z.widen (by decide) (by decide) (z_ireturn F rfl B dX10_litCells_7 ⟨rfl, R.rch s ⟨f, e⟩⟩)
theorem n_reachedCells {i : Nat} (hi : i < C.2.2.2.1.1) (ho : h[o]? = some (12, zBf o S)) (R : zRepC (o + 1) σ τ C h) (hO : zOk K C) (hK : K < 2000000) : zMet yX10_reachedCells cX10_reachedCells 2 (some .int) 4 0 0 [.ref o, .int (iI i)] h (fun v h' => v = some (.int (bc64 (f_rm C (C.2.1 i)))) ∧ h' = h) (fun _ _ => False) := by
  refine zMet.go (by decide +kernel) (Nat.le_of_ble_eq_true rfl) ?_
  intro X F B hnl hR hn
  have hl6 := hO.2.2.2.1
  refine z_aload_n F dX10_reachedCells_0 rfl rfl ?_
  refine z_getfield F fl_X10_12 dX10_reachedCells_1 ho (by decide) rfl ?_
  refine z_aload_n F dX10_reachedCells_4 rfl rfl ?_
  refine z_iload_n F dX10_reachedCells_5 rfl rfl ?_
  refine z_callV F B cal_yX10_existingLight (n_existingLight hi ho R hO hK) dX10_reachedCells_6 rfl rfl (Nat.le_of_ble_eq_true rfl) (by decide) (by decide) (by decide) ml_X10_147 im_yX10_existingLight se_yX10_existingLight ho (by decide) rfl rfl (fun v hX qX => ?_) (fun C h1 q => q.elim)
  obtain ⟨rfl, qX⟩ := qX
  rw [qX]
  clear qX hX
  refine z_callV F B cal_yX2_reachOf (m_reachOf R hO (R.li (by omega)) (hO.2.1 i)) dX10_reachedCells_9 rfl rfl (Nat.le_of_ble_eq_true rfl) (by decide) (by decide) (by decide) ml_X10_184 im_yX2_reachOf se_yX2_reachOf R.ob (by decide) rfl rfl (fun v hX qX => ?_) (fun C h1 q => q.elim)
  obtain ⟨rfl, qX⟩ := qX
  rw [qX]
  clear qX hX
  refine z_callS F B cal_yJ13_bitCount_95d88 m_bitCountL dX10_reachedCells_12 rfl rfl (Nat.le_of_ble_eq_true rfl) (by decide) (by decide) (by decide) ml_X10_188 st_yJ13_bitCount_95d88 (fun v hX qX => ?_) (fun C h1 q => q.elim)
  obtain ⟨rfl, qX⟩ := qX
  rw [qX]
  clear qX hX
  exact Z.widen (by decide) (by decide) (z_ireturn F rfl B dX10_reachedCells_15 ⟨rfl, rfl⟩)
end
