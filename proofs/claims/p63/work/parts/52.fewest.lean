/-! the fewest lights, as the class looks for them -/
def mSet (C : zCo) (n : Nat) : Nat → Int64
  | 0 => 0
  | k + 1 => if n.testBit k then mSet C n k ||| f_rm C (C.2.1 k) else mSet C n k
def pcn (n : Nat) : Nat := zcnt (fun i => n.testBit i) 6
def f_fwS (C : zCo) : Nat → Nat → Nat → Nat
  | 0, _, b => b
  | n + 1, s, b => f_fwS C n (s + 1) (if pcn s < b ∧ mSet C s C.2.2.2.1.1 = mAll C C.2.2.2.1.1 then pcn s else b)
def f_fw (C : zCo) : Nat := f_fwS C (2 ^ C.2.2.2.1.1) 0 C.2.2.2.1.1
/-- the search for a cover of what is missing, from light i on, n of them -/
def f_ftL (C : zCo) (N : Nat) (rec : Int64 → Nat) (miss : Int64) : Nat → Nat → Nat → Nat
  | 0, _, b => b
  | n + 1, i, b => f_ftL C N rec miss n (i + 1) (if f_rm C (C.2.1 i) &&& (miss &&& -miss) = 0 then b else if rec (miss &&& (f_rm C (C.2.1 i) ^^^ -1)) < b then rec (miss &&& (f_rm C (C.2.1 i) ^^^ -1)) else b)
/-- the search itself: q lights may still be taken -/
def f_ft (C : zCo) (N : Nat) : Nat → Int64 → Nat
  | 0, _ => N
  | q + 1, miss => if miss = 0 then N - (q + 1) else f_ftL C N (f_ft C N q) miss N 0 N
theorem zbit : ∀ n : Nat, n < 64 → ∀ l : Nat, l < 6 → (((iI n >>> (iI l &&& 31)) &&& iI 1) = iI 1 ↔ n.testBit l = true) := by decide +kernel
theorem zshl : ∀ n : Nat, n < 7 → iI 1 <<< (iI n &&& 31) = iI ((2 ^ n : Nat) : Int) := by decide +kernel
theorem zpcn : ∀ n : Nat, n < 64 → bc32 (iI n) = iI (pcn n) := by decide +kernel
theorem pcn_le (n : Nat) : pcn n ≤ 6 := zcnt_le _ _
theorem z2n : ∀ n : Nat, n < 7 → 2 ^ n ≤ 64 := by decide
theorem f_ftL_le {C : zCo} {N : Nat} {rec : Int64 → Nat} {miss : Int64} : ∀ (n i b : Nat), b ≤ N → f_ftL C N rec miss n i b ≤ N
  | 0, _, _, h => h
  | n + 1, i, b, h => by
    unfold f_ftL
    apply f_ftL_le
    (repeat' split) <;> omega
theorem f_ft_le {C : zCo} {N : Nat} : ∀ (q : Nat) (miss : Int64), f_ft C N q miss ≤ N
  | 0, _ => Nat.le_refl _
  | q + 1, miss => by
    unfold f_ft
    split
    · omega
    · exact f_ftL_le _ _ _ (Nat.le_refl _)
section
variable {o K : Nat} {S : zBt} {σ τ : Nat → Nat} {C : zCo} {h : zH}
theorem m_reachOfSet {n : Nat} (hn64 : n < 64) (ho : h[o]? = some (12, zBf o S)) (R : zRepC (o + 1) σ τ C h) (hO : zOk K C) (hr : zRk (o + 186) C.2.2.2.1.1 C h) : zMet yX10_reachOfSet cX10_reachOfSet 5 (some .long) 1 0 0 [.ref o, .int (iI n)] h (fun v h' => v = some (.long (mSet C n C.2.2.2.1.1)) ∧ h' = h) (fun _ _ => False) := by
  refine zMet.go (by decide +kernel) (Nat.le_of_ble_eq_true rfl) ?_
  intro X F B hnl hR hn
  have hl6 := hO.2.2.2.1
  obtain ⟨f, e1, hf⟩ := hr
  refine z_lconst (v := 0) F dX10_reachOfSet_0 (by decide) ?_
  refine z_lstore_n F dX10_reachOfSet_1 rfl rfl rfl (hnl _ rfl) ?_
  refine zi_iconst F dX10_reachOfSet_2 ?_
  refine z_istore F dX10_reachOfSet_3 rfl (hnl _ rfl) ?_
  suffices KK : ∀ m i : Nat, m + i = C.2.2.2.1.1 → Z X 0 0 5 [(4, .int (iI i)), (2, .long (mSet C n i)), (0, .ref o), (1, .int (iI n))] [] h from Z.keys [4, 2, 0, 1] rfl (KK C.2.2.2.1.1 0 rfl)
  intro m
  induction m with
  | zero =>
    intro i hi
    refine z_iload F dX10_reachOfSet_5 rfl ?_
    refine z_aload_n F dX10_reachOfSet_7 rfl rfl ?_
    refine z_getfield F fl_X10_12 dX10_reachOfSet_8 ho (by decide) rfl ?_
    refine z_getfield F fl_X10_134 dX10_reachOfSet_11 R.ob (by decide) rfl ?_
    refine zi_icmp_ge (tgt := 43) F dX10_reachOfSet_14 (by decide) (by first | omega | (dsimp only at *; omega)) (fun c14 => ?_) (fun c14 => False.elim (by first | omega | (dsimp only at *; omega)))
    refine z_lload_n F dX10_reachOfSet_43 rfl rfl ?_
    exact Z.widen (by decide) (by decide) (z_lreturn F B dX10_reachOfSet_44 ⟨by rw [show i = C.2.2.2.1.1 by omega], rfl⟩)
  | succ m ih =>
    intro i hi
    have hb := zbit n hn64 i (by omega)
    have mt : n.testBit i = true → mSet C n (i + 1) = mSet C n i ||| f_rm C (C.2.1 i) := fun e => by show (if n.testBit i = true then _ else _) = _; rw [if_pos e]
    have mf : ¬ n.testBit i = true → mSet C n (i + 1) = mSet C n i := fun e => by show (if n.testBit i = true then _ else _) = _; rw [if_neg e]
    refine z_iload F dX10_reachOfSet_5 rfl ?_
    refine z_aload_n F dX10_reachOfSet_7 rfl rfl ?_
    refine z_getfield F fl_X10_12 dX10_reachOfSet_8 ho (by decide) rfl ?_
    refine z_getfield F fl_X10_134 dX10_reachOfSet_11 R.ob (by decide) rfl ?_
    refine zi_icmp_ge (tgt := 43) F dX10_reachOfSet_14 (by decide) (by first | omega | (dsimp only at *; omega)) (fun c14 => False.elim (by first | omega | (dsimp only at *; omega))) (fun c14 => ?_)
    refine z_iload_n F dX10_reachOfSet_17 rfl rfl ?_
    refine z_iload F dX10_reachOfSet_18 rfl ?_
    refine z_ishr F dX10_reachOfSet_20 ?_
    refine zi_iconst F dX10_reachOfSet_21 ?_
    refine z_iand F dX10_reachOfSet_22 ?_
    refine zi_iconst F dX10_reachOfSet_23 ?_
    refine z_icmp_ne (tgt := 37) F dX10_reachOfSet_24 (by decide) (fun c24 => ?_) (fun c24 => ?_)
    · refine zi_iinc F dX10_reachOfSet_37 rfl rfl (hnl _ rfl) ?_
      refine z_goto (tgt := 5) F dX10_reachOfSet_40 (by decide) ?_
      first | exact Z.keys [4, 2, 0, 1] (by rw [mt (hb.mp c24)]; rfl) (ih (i + 1) (by omega)) | exact Z.keys [4, 2, 0, 1] (by rw [mf (fun e => c24 (hb.mpr e))]; rfl) (ih (i + 1) (by omega))
    · refine z_lload_n F dX10_reachOfSet_27 rfl rfl ?_
      refine z_aload_n F dX10_reachOfSet_28 rfl rfl ?_
      refine z_getfield F fl_X10_40 dX10_reachOfSet_29 ho (by decide) rfl ?_
      refine z_iload F dX10_reachOfSet_32 rfl ?_
      refine zi_laload (i := i) F dX10_reachOfSet_34 e1 rfl (by omega) (zar_get (by omega)) ?_
      rw [hf i (by omega)]
      refine z_lor F dX10_reachOfSet_35 ?_
      refine z_lstore_n F dX10_reachOfSet_36 rfl rfl rfl (hnl _ rfl) ?_
      refine zi_iinc F dX10_reachOfSet_37 rfl rfl (hnl _ rfl) ?_
      refine z_goto (tgt := 5) F dX10_reachOfSet_40 (by decide) ?_
      first | exact Z.keys [4, 2, 0, 1] (by rw [mt (hb.mp c24)]; rfl) (ih (i + 1) (by omega)) | exact Z.keys [4, 2, 0, 1] (by rw [mf (fun e => c24 (hb.mpr e))]; rfl) (ih (i + 1) (by omega))
theorem m_fewestLights (R : zRB o S h) (hO : zOk K S.1) (hK : K < 1800000) : zMet yX10_fewestLights cX10_fewestLights 5 (some .int) 5 0 0 [.ref o] h (fun v h' => v = some (.int (iI (f_fw S.1))) ∧ zRB o S h') (fun _ _ => False) := by
  refine zMet.go (by decide +kernel) (Nat.le_of_ble_eq_true rfl) ?_
  intro X F B hnl hR hn
  have r0 := R.2.1
  have hl6 := hO.2.2.2.1
  obtain ⟨σ, τ, r1⟩ := R.2.2.1
  refine z_aload_n F dX10_fewestLights_0 rfl rfl ?_
  refine z_callV F B cal_yX10_reachOfAll (m_reachOfAll R.1 r0 r1 hO R.2.2.2.2.2.2.2.1) dX10_fewestLights_1 rfl rfl (Nat.le_of_ble_eq_true rfl) (by decide) (by decide) (by decide) ml_X10_194 im_yX10_reachOfAll se_yX10_reachOfAll r0 (by decide) rfl rfl (fun v hX qX => ?_) (fun C h1 q => q.elim)
  obtain ⟨rfl, hrk, s⟩ := qX
  have R2 := R.rch s (by obtain ⟨f, e, -⟩ := hrk; exact ⟨f, e⟩)
  have r02 := R2.2.1
  have r12 := r1.same s (fun a g1 g2 q => by have := q.1; omega)
  refine z_lstore_n F dX10_fewestLights_4 rfl rfl rfl (hnl _ rfl) ?_
  refine z_aload_n F dX10_fewestLights_5 rfl rfl ?_
  refine z_getfield F fl_X10_12 dX10_fewestLights_6 r02 (by decide) rfl ?_
  refine z_getfield F fl_X10_134 dX10_fewestLights_9 r12.ob (by decide) rfl ?_
  refine z_istore_n F dX10_fewestLights_12 rfl rfl (hnl _ rfl) ?_
  refine zi_iconst F dX10_fewestLights_13 ?_
  refine z_istore F dX10_fewestLights_14 rfl (hnl _ rfl) ?_
  suffices KK : ∀ n s b : Nat, n + s = 2 ^ S.1.2.2.2.1.1 → b ≤ 6 → f_fw S.1 = f_fwS S.1 n s b → Z X 0 0 16 [(4, .int (iI s)), (3, .int (iI b)), (0, .ref o), (1, .long (mAll S.1 S.1.2.2.2.1.1))] [] hX from Z.keys [4, 3, 0, 1] rfl (KK (2 ^ S.1.2.2.2.1.1) 0 S.1.2.2.2.1.1 rfl hl6 rfl)
  have h2n := z2n S.1.2.2.2.1.1 (by omega)
  have hsh := zshl S.1.2.2.2.1.1 (by omega)
  intro n
  induction n with
  | zero =>
    intro s b hs hb he
    refine z_iload F dX10_fewestLights_16 rfl ?_
    refine zi_iconst F dX10_fewestLights_18 ?_
    refine z_aload_n F dX10_fewestLights_19 rfl rfl ?_
    refine z_getfield F fl_X10_12 dX10_fewestLights_20 r02 (by decide) rfl ?_
    refine z_getfield F fl_X10_134 dX10_fewestLights_23 r12.ob (by decide) rfl ?_
    refine z_ishl F dX10_fewestLights_26 ?_
    rw [hsh]
    refine zi_icmp_ge (tgt := 62) F dX10_fewestLights_27 (by decide) (by first | omega | (dsimp only at *; omega)) (fun c27 => ?_) (fun c27 => False.elim (by first | omega | (dsimp only at *; omega)))
    refine z_iload_n F dX10_fewestLights_62 rfl rfl ?_
    exact Z.widen (by decide) (by decide) (z_ireturn F rfl B dX10_fewestLights_63 ⟨by rw [he]; rfl, R2⟩)
  | succ n ih =>
    intro s b hs hb he
    have hp := zpcn s (by omega)
    have hple := pcn_le s
    replace he : f_fw S.1 = f_fwS S.1 n (s + 1) (if pcn s < b ∧ mSet S.1 s S.1.2.2.2.1.1 = mAll S.1 S.1.2.2.2.1.1 then pcn s else b) := he
    refine z_iload F dX10_fewestLights_16 rfl ?_
    refine zi_iconst F dX10_fewestLights_18 ?_
    refine z_aload_n F dX10_fewestLights_19 rfl rfl ?_
    refine z_getfield F fl_X10_12 dX10_fewestLights_20 r02 (by decide) rfl ?_
    refine z_getfield F fl_X10_134 dX10_fewestLights_23 r12.ob (by decide) rfl ?_
    refine z_ishl F dX10_fewestLights_26 ?_
    rw [hsh]
    refine zi_icmp_ge (tgt := 62) F dX10_fewestLights_27 (by decide) (by first | omega | (dsimp only at *; omega)) (fun c27 => False.elim (by first | omega | (dsimp only at *; omega))) (fun c27 => ?_)
    refine z_iload F dX10_fewestLights_30 rfl ?_
    refine z_callS F B cal_yJ6_bitCount_0f7a4 m_bitCountI dX10_fewestLights_32 rfl rfl (Nat.le_of_ble_eq_true rfl) (by decide) (by decide) (by decide) ml_X10_198 st_yJ6_bitCount_0f7a4 (fun v hX qX => ?_) (fun C h1 q => q.elim)
    obtain ⟨rfl, qX⟩ := qX
    rw [qX]
    clear qX hX
    rw [hp]
    refine z_iload_n F dX10_fewestLights_35 rfl rfl ?_
    refine zi_icmp_ge (tgt := 56) F dX10_fewestLights_36 (by decide) (by first | omega | (dsimp only at *; omega)) (fun c36 => ?_) (fun c36 => ?_)
    · refine zi_iinc F dX10_fewestLights_56 rfl rfl (hnl _ rfl) ?_
      refine z_goto (tgt := 16) F dX10_fewestLights_59 (by decide) ?_
      first | exact Z.keys [4, 3, 0, 1] rfl (ih (s + 1) (pcn s) (by omega) (by omega) (by rw [he, if_pos ⟨by omega, (lg_cmp_eq _ _).mp c47⟩])) | exact Z.keys [4, 3, 0, 1] rfl (ih (s + 1) b (by omega) (by omega) (by rw [he, if_neg (fun q => c47 ((lg_cmp_eq _ _).mpr q.2))])) | exact Z.keys [4, 3, 0, 1] rfl (ih (s + 1) b (by omega) (by omega) (by rw [he, if_neg (fun q => by omega)]))
    · refine z_aload_n F dX10_fewestLights_39 rfl rfl ?_
      refine z_iload F dX10_fewestLights_40 rfl ?_
      refine z_callV F B cal_yX10_reachOfSet (m_reachOfSet (n := s) (by omega) r02 r12 hO hrk) dX10_fewestLights_42 rfl rfl (Nat.le_of_ble_eq_true rfl) (by decide) (by decide) (by decide) ml_X10_202 im_yX10_reachOfSet se_yX10_reachOfSet r02 (by decide) rfl rfl (fun v hX qX => ?_) (fun C h1 q => q.elim)
      obtain ⟨rfl, qX⟩ := qX
      rw [qX]
      clear qX hX
      refine z_lload_n F dX10_fewestLights_45 rfl rfl ?_
      refine z_lcmp F dX10_fewestLights_46 ?_
      refine z_if_ne (tgt := 56) F dX10_fewestLights_47 (by decide) (fun c47 => ?_) (fun c47 => ?_)
      · refine zi_iinc F dX10_fewestLights_56 rfl rfl (hnl _ rfl) ?_
        refine z_goto (tgt := 16) F dX10_fewestLights_59 (by decide) ?_
        first | exact Z.keys [4, 3, 0, 1] rfl (ih (s + 1) (pcn s) (by omega) (by omega) (by rw [he, if_pos ⟨by omega, (lg_cmp_eq _ _).mp c47⟩])) | exact Z.keys [4, 3, 0, 1] rfl (ih (s + 1) b (by omega) (by omega) (by rw [he, if_neg (fun q => c47 ((lg_cmp_eq _ _).mpr q.2))])) | exact Z.keys [4, 3, 0, 1] rfl (ih (s + 1) b (by omega) (by omega) (by rw [he, if_neg (fun q => by omega)]))
      · refine z_iload F dX10_fewestLights_50 rfl ?_
        refine z_callS F B cal_yJ6_bitCount_0f7a4 m_bitCountI dX10_fewestLights_52 rfl rfl (Nat.le_of_ble_eq_true rfl) (by decide) (by decide) (by decide) ml_X10_198 st_yJ6_bitCount_0f7a4 (fun v hX qX => ?_) (fun C h1 q => q.elim)
        obtain ⟨rfl, qX⟩ := qX
        rw [qX]
        clear qX hX
        rw [hp]
        refine z_istore_n F dX10_fewestLights_55 rfl rfl (hnl _ rfl) ?_
        refine zi_iinc F dX10_fewestLights_56 rfl rfl (hnl _ rfl) ?_
        refine z_goto (tgt := 16) F dX10_fewestLights_59 (by decide) ?_
        first | exact Z.keys [4, 3, 0, 1] rfl (ih (s + 1) (pcn s) (by omega) (by omega) (by rw [he, if_pos ⟨by omega, (lg_cmp_eq _ _).mp c47⟩])) | exact Z.keys [4, 3, 0, 1] rfl (ih (s + 1) b (by omega) (by omega) (by rw [he, if_neg (fun q => c47 ((lg_cmp_eq _ _).mpr q.2))])) | exact Z.keys [4, 3, 0, 1] rfl (ih (s + 1) b (by omega) (by omega) (by rw [he, if_neg (fun q => by omega)]))
theorem m_fewestToReach {N : Nat} (hN : N ≤ 6) (hr : zRk (o + 186) N C h) : ∀ (q : Nat) (miss : Int64), q ≤ N → zMet yX10_fewestToReach cX10_fewestToReach 9 (some .int) (q + 2) 0 0 [.ref (o + 186), .int (iI N), .long miss, .int (iI ((N - q : Nat) : Int))] h (fun v h' => v = some (.int (iI (f_ft C N q miss))) ∧ h' = h) (fun _ _ => False) := by
  obtain ⟨f, e1, hf⟩ := hr
  intro q
  induction q with
  | zero =>
    intro miss hq
    refine zMet.go (by decide +kernel) (Nat.le_of_ble_eq_true rfl) ?_
    intro X F B hnl hR hn
    refine z_lload_n F dX10_fewestToReach_0 rfl rfl ?_
    refine z_lconst (v := 0) F dX10_fewestToReach_1 (by decide) ?_
    refine z_lcmp F dX10_fewestToReach_2 ?_
    refine z_if_eq (tgt := 12) F dX10_fewestToReach_3 (by decide) (fun c3 => ?_) (fun c3 => ?_)
    · refine z_iload F dX10_fewestToReach_12 rfl ?_
      exact Z.widen (by decide) (by decide) (z_ireturn F rfl B dX10_fewestToReach_14 ⟨rfl, rfl⟩)
    · refine z_iload F dX10_fewestToReach_6 rfl ?_
      refine z_iload_n F dX10_fewestToReach_8 rfl rfl ?_
      refine zi_icmp_lt (tgt := 15) F dX10_fewestToReach_9 (by decide) (by first | omega | (dsimp only at *; omega)) (fun c9 => False.elim (by first | omega | (dsimp only at *; omega))) (fun c9 => ?_)
      refine z_iload F dX10_fewestToReach_12 rfl ?_
      exact Z.widen (by decide) (by decide) (z_ireturn F rfl B dX10_fewestToReach_14 ⟨rfl, rfl⟩)
  | succ q ih =>
    intro miss hq
    refine zMet.go (by decide +kernel) (Nat.le_of_ble_eq_true rfl) ?_
    intro X F B hnl hR hn
    have e0 : f_ft C N (q + 1) miss = if miss = 0 then N - (q + 1) else f_ftL C N (f_ft C N q) miss N 0 N := rfl
    refine z_lload_n F dX10_fewestToReach_0 rfl rfl ?_
    refine z_lconst (v := 0) F dX10_fewestToReach_1 (by decide) ?_
    refine z_lcmp F dX10_fewestToReach_2 ?_
    refine z_if_eq (tgt := 12) F dX10_fewestToReach_3 (by decide) (fun c3 => ?_) (fun c3 => ?_)
    · refine z_iload F dX10_fewestToReach_12 rfl ?_
      exact Z.widen (by decide) (by decide) (z_ireturn F rfl B dX10_fewestToReach_14 ⟨vInt (by rw [e0, if_pos ((lg_cmp_eq _ _).mp c3)]), rfl⟩)
    rw [if_neg (fun e => c3 ((lg_cmp_eq _ _).mpr e))] at e0
    refine z_iload F dX10_fewestToReach_6 rfl ?_
    refine z_iload_n F dX10_fewestToReach_8 rfl rfl ?_
    refine zi_icmp_lt (tgt := 15) F dX10_fewestToReach_9 (by decide) (by first | omega | (dsimp only at *; omega)) (fun c9 => ?_) (fun c9 => False.elim (by first | omega | (dsimp only at *; omega)))
    refine z_lload_n F dX10_fewestToReach_15 rfl rfl ?_
    refine z_lload_n F dX10_fewestToReach_16 rfl rfl ?_
    refine z_lneg F dX10_fewestToReach_17 ?_
    refine z_land F dX10_fewestToReach_18 ?_
    refine z_lstore F dX10_fewestToReach_19 rfl rfl (hnl _ rfl) ?_
    refine z_iload_n F dX10_fewestToReach_21 rfl rfl ?_
    refine z_istore F dX10_fewestToReach_22 rfl (hnl _ rfl) ?_
    refine zi_iconst F dX10_fewestToReach_24 ?_
    refine z_istore F dX10_fewestToReach_25 rfl (hnl _ rfl) ?_
    suffices KK : ∀ n i b : Nat, n + i = N → b ≤ N → f_ft C N (q + 1) miss = f_ftL C N (f_ft C N q) miss n i b → Z X 0 0 27 [(8, .int (iI i)), (7, .int (iI b)), (5, .long (miss &&& -miss)), (4, .int (iI ((N - (q + 1) : Nat) : Int))), (2, .long miss), (1, .int (iI N)), (0, .ref (o + 186))] [] h from Z.keys [8, 7, 5, 4, 2, 1, 0] rfl (KK N 0 N rfl (Nat.le_refl _) e0)
    intro n
    induction n with
    | zero =>
      intro i b hi hb he
      refine z_iload F dX10_fewestToReach_27 rfl ?_
      refine z_iload_n F dX10_fewestToReach_29 rfl rfl ?_
      refine zi_icmp_ge (tgt := 84) F dX10_fewestToReach_30 (by decide) (by first | omega | (dsimp only at *; omega)) (fun c30 => ?_) (fun c30 => False.elim (by first | omega | (dsimp only at *; omega)))
      refine z_iload F dX10_fewestToReach_84 rfl ?_
      exact Z.widen (by decide) (by decide) (z_ireturn F rfl B dX10_fewestToReach_86 ⟨vInt (by rw [he]; rfl), rfl⟩)
    | succ n im =>
      intro i b hi hb he
      have hle := f_ft_le (C := C) (N := N) q (miss &&& (f_rm C (C.2.1 i) ^^^ -1))
      replace he : f_ft C N (q + 1) miss = f_ftL C N (f_ft C N q) miss n (i + 1) (if f_rm C (C.2.1 i) &&& (miss &&& -miss) = 0 then b else if f_ft C N q (miss &&& (f_rm C (C.2.1 i) ^^^ -1)) < b then f_ft C N q (miss &&& (f_rm C (C.2.1 i) ^^^ -1)) else b) := he
      refine z_iload F dX10_fewestToReach_27 rfl ?_
      refine z_iload_n F dX10_fewestToReach_29 rfl rfl ?_
      refine zi_icmp_ge (tgt := 84) F dX10_fewestToReach_30 (by decide) (by first | omega | (dsimp only at *; omega)) (fun c30 => False.elim (by first | omega | (dsimp only at *; omega))) (fun c30 => ?_)
      refine z_iload F dX10_fewestToReach_33 rfl ?_
      refine z_aload_n F dX10_fewestToReach_35 rfl rfl ?_
      refine zi_alen F dX10_fewestToReach_36 e1 (by decide) (by decide) (zar_len _ _) ?_
      refine zi_icmp_ge (tgt := 84) F dX10_fewestToReach_37 (by decide) (by first | omega | (dsimp only at *; omega)) (fun c37 => False.elim (by first | omega | (dsimp only at *; omega))) (fun c37 => ?_)
      refine z_aload_n F dX10_fewestToReach_40 rfl rfl ?_
      refine z_iload F dX10_fewestToReach_41 rfl ?_
      refine zi_laload (i := i) F dX10_fewestToReach_43 e1 rfl (by omega) (zar_get (by omega)) ?_
      rw [hf i (by omega)]
      refine z_lload F dX10_fewestToReach_44 rfl ?_
      refine z_land F dX10_fewestToReach_46 ?_
      refine z_lconst (v := 0) F dX10_fewestToReach_47 (by decide) ?_
      refine z_lcmp F dX10_fewestToReach_48 ?_
      refine z_if_eq (tgt := 78) F dX10_fewestToReach_49 (by decide) (fun c49 => ?_) (fun c49 => ?_)
      · refine zi_iinc F dX10_fewestToReach_78 rfl rfl (hnl _ rfl) ?_
        refine z_goto (tgt := 27) F dX10_fewestToReach_81 (by decide) ?_
        exact Z.keys [8, 7, 5, 4, 2, 1, 0] rfl (im (i + 1) b (by omega) hb (by rw [he, if_pos ((lg_cmp_eq _ _).mp c49)]))
      rw [if_neg (fun e => c49 ((lg_cmp_eq _ _).mpr e))] at he
      refine z_iload F dX10_fewestToReach_52 rfl ?_
      refine z_aload_n F dX10_fewestToReach_54 rfl rfl ?_
      refine z_iload_n F dX10_fewestToReach_55 rfl rfl ?_
      refine z_lload_n F dX10_fewestToReach_56 rfl rfl ?_
      refine z_aload_n F dX10_fewestToReach_57 rfl rfl ?_
      refine z_iload F dX10_fewestToReach_58 rfl ?_
      refine zi_laload (i := i) F dX10_fewestToReach_60 e1 rfl (by omega) (zar_get (by omega)) ?_
      rw [hf i (by omega)]
      refine z_ldc2 F dX10_fewestToReach_61 zw_X10_486 ?_
      refine z_lxor F dX10_fewestToReach_64 ?_
      refine z_land F dX10_fewestToReach_65 ?_
      refine z_iload F dX10_fewestToReach_66 rfl ?_
      refine zi_iconst F dX10_fewestToReach_68 ?_
      refine zi_iadd F dX10_fewestToReach_69 ?_
      rw [show (((N - (q + 1) : Nat) : Int) + 1) = ((N - q : Nat) : Int) by omega]
      refine z_callS F B cal_yX10_fewestToReach (ih _ (by omega)) dX10_fewestToReach_70 rfl rfl (Nat.le_of_ble_eq_true rfl) (Nat.le_refl _) (by decide) (by decide) ml_X10_206 st_yX10_fewestToReach (fun v hX qX => ?_) (fun C h1 q => q.elim)
      obtain ⟨rfl, qX⟩ := qX
      rw [qX]
      clear qX hX
      refine zi_min F dX10_fewestToReach_73 ml_X10_99 st_yJ9_min_7cf53 cal_yJ9_min_7cf53.2.1 cal_yJ9_min_7cf53.1 hR (by omega) (by decide) (by decide) (Nat.le_of_ble_eq_true rfl) (by omega) ?_
      skip
      refine z_istore F dX10_fewestToReach_76 rfl (hnl _ rfl) ?_
      refine zi_iinc F dX10_fewestToReach_78 rfl rfl (hnl _ rfl) ?_
      refine z_goto (tgt := 27) F dX10_fewestToReach_81 (by decide) ?_
      exact Z.keys (ls' := [(8, .int (iI ((i + 1 : Nat) : Int))), (7, .int (iI ((if f_ft C N q (miss &&& (f_rm C (C.2.1 i) ^^^ -1)) < b then f_ft C N q (miss &&& (f_rm C (C.2.1 i) ^^^ -1)) else b : Nat) : Int))), (5, .long (miss &&& -miss)), (4, .int (iI ((N - (q + 1) : Nat) : Int))), (2, .long miss), (1, .int (iI N)), (0, .ref (o + 186))]) [8, 7, 5, 4, 2, 1, 0] (by simp only [zpick, zlk]; by_cases e : f_ft C N q (miss &&& (f_rm C (C.2.1 i) ^^^ -1)) < b; { rw [if_pos e, if_pos (by omega)]; rfl }; { rw [if_neg e, if_neg (by omega)]; rfl }) (im (i + 1) _ (by omega) (by split <;> omega) he)
theorem m_fewestLightsBySearch (R : zRB o S h) (hO : zOk K S.1) (hK : K < 1800000) : zMet yX10_fewestLightsBySearch cX10_fewestLightsBySearch 3 (some .int) 10 0 0 [.ref o] h (fun v h' => v = some (.int (iI (f_ft S.1 S.1.2.2.2.1.1 S.1.2.2.2.1.1 (mAll S.1 S.1.2.2.2.1.1)))) ∧ zRB o S h') (fun _ _ => False) := by
  refine zMet.go (by decide +kernel) (Nat.le_of_ble_eq_true rfl) ?_
  intro X F B hnl hR hn
  have r0 := R.2.1
  have hl6 := hO.2.2.2.1
  obtain ⟨σ, τ, r1⟩ := R.2.2.1
  refine z_aload_n F dX10_fewestLightsBySearch_0 rfl rfl ?_
  refine z_callV F B cal_yX10_reachOfAll (m_reachOfAll R.1 r0 r1 hO R.2.2.2.2.2.2.2.1) dX10_fewestLightsBySearch_1 rfl rfl (Nat.le_of_ble_eq_true rfl) (by decide) (by decide) (by decide) ml_X10_194 im_yX10_reachOfAll se_yX10_reachOfAll r0 (by decide) rfl rfl (fun v hX qX => ?_) (fun C h1 q => q.elim)
  obtain ⟨rfl, hrk, s⟩ := qX
  have R2 := R.rch s (by obtain ⟨f, e, -⟩ := hrk; exact ⟨f, e⟩)
  refine z_lstore_n F dX10_fewestLightsBySearch_4 rfl rfl rfl (hnl _ rfl) ?_
  refine z_aload_n F dX10_fewestLightsBySearch_5 rfl rfl ?_
  refine z_getfield F fl_X10_40 dX10_fewestLightsBySearch_6 R2.2.1 (by decide) rfl ?_
  refine z_aload_n F dX10_fewestLightsBySearch_9 rfl rfl ?_
  refine z_getfield F fl_X10_12 dX10_fewestLightsBySearch_10 R2.2.1 (by decide) rfl ?_
  refine z_getfield F fl_X10_134 dX10_fewestLightsBySearch_13 (r1.same s (fun a g1 g2 q => by have := q.1; omega)).ob (by decide) rfl ?_
  refine z_lload_n F dX10_fewestLightsBySearch_16 rfl rfl ?_
  refine zi_iconst F dX10_fewestLightsBySearch_17 ?_
  rw [show iI 0 = iI ((S.1.2.2.2.1.1 - S.1.2.2.2.1.1 : Nat) : Int) by rw [Nat.sub_self]; rfl]
  refine z_callS F B cal_yX10_fewestToReach (m_fewestToReach hl6 hrk S.1.2.2.2.1.1 (mAll S.1 S.1.2.2.2.1.1) (Nat.le_refl _)) dX10_fewestLightsBySearch_18 rfl rfl (Nat.le_of_ble_eq_true rfl) (by omega) (by decide) (by decide) ml_X10_206 st_yX10_fewestToReach (fun v hX qX => ?_) (fun C h1 q => q.elim)
  obtain ⟨rfl, qX⟩ := qX
  rw [qX]
  clear qX hX
  exact Z.widen (by decide) (by decide) (z_ireturn F rfl B dX10_fewestLightsBySearch_21 ⟨rfl, R2⟩)
end
