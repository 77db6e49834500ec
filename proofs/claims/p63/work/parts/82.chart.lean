/-! constructors: the history, ways, groups, texts, the line, the chart -/
theorem zstep {a o : Nat} {c d : zC} {h1 h2 : zH} (s : zSame (fun x => x = a) (h1 ++ [c]) h2) (hl : h1.length = a) : zSame (fun x => x = o) h1 (h2.set o d) := by
  have s1 : zSame (fun _ => False) h1 h2 := ⟨Nat.le_trans (by rw [List.length_append]; exact Nat.le_add_right _ _) s.1, fun q hq _ => by
    rw [s.2 q (by rw [List.length_append]; exact Nat.lt_of_lt_of_le hq (Nat.le_add_right _ _)) (by omega), List.getElem?_append_left hq]⟩
  exact (s1.weak (fun _ f => f.elim)).set rfl
/-- a history that is being made -/
def zHb (q i : Nat) (h0 h1 : zH) : Prop := h1.length = q + 18 + 16 * i ∧ h1[q]? = some (8, [.ref (q + 1), .ref (q + 2), .int 0, .int 0]) ∧ h1[q + 1]? = some (107, zar 8 (fun j => if j < i then .ref (q + 18 + 16 * j) else .null)) ∧ zKo (q + 2) f_C0 h1 ∧ (∀ j, j < i → zKo (q + 18 + 16 * j) f_C0 h1) ∧ zSame (fun a => a = q) h0 h1
theorem zHb.step {q i : Nat} {h0 h1 h2 : zH} {c : zC} (R : zHb q i h0 h1) (hl : h0.length = q + 1) (hi : i < 8) (K : zKo (q + 18 + 16 * i) f_C0 h2) (l2 : h2.length = q + 18 + 16 * i + 16) (s2 : zSame (fun a => a = q + 18 + 16 * i) (h1 ++ [c]) h2) : zHb q (i + 1) h0 (h2.set (q + 1) (107, (zar 8 (fun j => if j < i then Value.ref (q + 18 + 16 * j) else .null)).set i (.ref (q + 18 + 16 * i)))) := by
  obtain ⟨r1, r2, r3, r4, r5, r6⟩ := R
  have s3 : zSame (fun a => a = q + 1) h1 (h2.set (q + 1) (107, (zar 8 (fun j => if j < i then Value.ref (q + 18 + 16 * j) else .null)).set i (.ref (q + 18 + 16 * i)))) := zstep s2 r1
  refine ⟨by rw [List.length_set, l2]; omega, s3.get r2 (by omega), ?_, r4.same s3 (fun a g1 g2 => by omega), fun j hj => ?_, r6.free2 s3 hl (fun a g => by omega)⟩
  · rw [zset_same (s2.get (zapp r3) (by omega)), zar_set]
    congr 2
    refine zar_congr fun k hk => ?_
    unfold zup
    by_cases e : k = i
    · rw [if_pos e, if_pos (by omega), e]
    · rw [if_neg e]
      dsimp only
      by_cases e2 : k < i
      · rw [if_pos e2, if_pos (by omega)]
      · rw [if_neg e2, if_neg (by omega)]
  · by_cases e : j = i
    · subst e
      exact K.same (zSame.rf.set rfl : zSame (fun a => a = q + 1) h2 _) (fun a g1 g2 => by omega)
    · exact (r5 j (by omega)).same s3 (fun a g1 g2 => by omega)
theorem zHb.done {q : Nat} {h0 h1 : zH} (R : zHb q 8 h0 h1) : zHi q 0 0 (fun _ => f_C0) h1 := by
  obtain ⟨r1, r2, r3, r4, r5, r6⟩ := R
  refine ⟨fun i => if i = 8 then 0 else i + 1, r2, ?_, ⟨fun i hi => by dsimp only; split <;> omega, fun i j hi hj e => by dsimp only at e; split at e <;> split at e <;> omega⟩, fun i hi => ?_, by decide, by decide⟩
  · rw [r3]
    congr 2
    all_goals exact zar_congr fun k hk => by rw [if_pos hk, if_neg (by omega)]; congr 1; omega
  · dsimp only
    by_cases e : i = 8
    · rw [if_pos e]; exact r4
    · rw [if_neg e, show q + 2 + 16 * (i + 1) = q + 18 + 16 * i by omega]; exact r5 i (by omega)
/-- a text that is being made -/
def zTb (t i : Nat) (h0 h1 : zH) : Prop := h1.length = t + 3 + 2 * i ∧ h1[t]? = some (7, [.ref (t + 1), .ref (t + 2), .int 0, .int 0, .int 0]) ∧ h1[t + 1]? = some (103, zar 60 (fun _ => .int 0)) ∧ h1[t + 2]? = some (108, zar 10 (fun j => if j < i then .ref (t + 3 + 2 * j) else .null)) ∧ (∀ j, j < i → h1[t + 3 + 2 * j]? = some (6, [.ref 8, .ref (t + 4 + 2 * j)]) ∧ h1[t + 4 + 2 * j]? = some (100, zar 4 (fun _ => .int 0))) ∧ zSame (fun a => a = t) h0 h1
theorem zTb.step {t i : Nat} {h0 h1 h2 : zH} {c : zC} (R : zTb t i h0 h1) (hl : h0.length = t + 1) (hi : i < 10) (e1 : h2[t + 3 + 2 * i]? = some (6, [.ref 8, .ref (t + 3 + 2 * i + 1)])) (e2 : h2[t + 3 + 2 * i + 1]? = some (100, zar 4 (fun _ => .int 0))) (l2 : h2.length = t + 3 + 2 * i + 2) (s2 : zSame (fun a => a = t + 3 + 2 * i) (h1 ++ [c]) h2) : zTb t (i + 1) h0 (h2.set (t + 2) (108, (zar 10 (fun j => if j < i then Value.ref (t + 3 + 2 * j) else .null)).set i (.ref (t + 3 + 2 * i)))) := by
  obtain ⟨r1, r2, r3, r4, r5, r6⟩ := R
  have s3 : zSame (fun a => a = t + 2) h1 (h2.set (t + 2) (108, (zar 10 (fun j => if j < i then Value.ref (t + 3 + 2 * j) else .null)).set i (.ref (t + 3 + 2 * i)))) := zstep s2 r1
  refine ⟨by rw [List.length_set, l2]; omega, s3.get r2 (by omega), s3.get r3 (by omega), ?_, fun j hj => ?_, r6.free2 s3 hl (fun a g => by omega)⟩
  · rw [zset_same (s2.get (zapp r4) (by omega)), zar_set]
    congr 2
    refine zar_congr fun k hk => ?_
    unfold zup
    by_cases e : k = i
    · rw [if_pos e, if_pos (by omega), e]
    · rw [if_neg e]
      dsimp only
      by_cases e2 : k < i
      · rw [if_pos e2, if_pos (by omega)]
      · rw [if_neg e2, if_neg (by omega)]
  · by_cases e : j = i
    · subst e
      rw [show t + 4 + 2 * j = t + 3 + 2 * j + 1 by omega]
      exact ⟨zkeep e1 (by omega), zkeep e2 (by omega)⟩
    · exact ⟨s3.get (r5 j (by omega)).1 (by omega), s3.get (r5 j (by omega)).2 (by omega)⟩
theorem zTb.done {t : Nat} {h0 h1 : zH} (R : zTb t 10 h0 h1) : ∃ T, zTt t T 0 h1 := by
  obtain ⟨r1, r2, r3, r4, r5, r6⟩ := R
  have R2 : zTx t (fun _ => 0) 0 0 0 (fun _ => (7, fun _ => 0)) h1 := ⟨r2, r3, by rw [r4]; congr 2, fun i hi => ⟨(r5 i hi).1, (r5 i hi).2, (by show 7 < 8; decide)⟩⟩
  obtain ⟨T, q, _⟩ := zTt.mk R2
  exact ⟨T, q⟩
section
variable {b q t w g a : Nat} {h : zH}
theorem m_Hinit (hz : zNR ≤ q) (hb : h[q]? = some (8, fs_X6)) (hl : h.length = q + 1) : zMet yX6_init cX6_init 2 none 3 145 1322 [.ref q] h (fun v h' => v = none ∧ zHi q 0 0 (fun _ => f_C0) h' ∧ h'.length = q + 146 ∧ zSame (fun a => a = q) h h') (fun _ _ => False) := by
  refine zMet.go (by decide +kernel) (Nat.le_of_ble_eq_true rfl) ?_
  intro X F B hnl hR hn
  have I : X.2.2.2.2.2.2.2.2.1.name = "<init>" := hn
  have KK : ∀ n i : Nat, n + i = 8 → ∀ h1, zHb q i h h1 → Z X (17 + 16 * i) (154 + 146 * i) 26 [(1, .int (iI (i : Int))), (0, .ref q)] [] h1 := by
    intro n
    induction n with
    | zero =>
      intro i hi h1 R
      have hi6 : i = 8 := by omega
      subst hi6
      refine z_iload_n F dX6_init_26 rfl rfl ?_
      refine zi_bipush F dX6_init_27 (by decide) ?_
      refine zi_icmp_ge (tgt := 51) F dX6_init_29 (by decide) (by first | omega | (dsimp only at *; omega)) (fun c29 => ?_) (fun c29 => False.elim (by first | omega | (dsimp only at *; omega)))
      exact Z.widen (by decide) (by decide) (z_return F B dX6_init_51 ⟨rfl, R.done, R.1, R.2.2.2.2.2⟩)
    | succ n ih =>
      intro i hi h1 R
      have hi6 : i < 8 := by omega
      refine z_iload_n F dX6_init_26 rfl rfl ?_
      refine zi_bipush F dX6_init_27 (by decide) ?_
      refine zi_icmp_ge (tgt := 51) F dX6_init_29 (by decide) (by first | omega | (dsimp only at *; omega)) (fun c29 => False.elim (by first | omega | (dsimp only at *; omega))) (fun c29 => ?_)
      refine z_aload_n F dX6_init_32 rfl rfl ?_
      refine z_getfield F fl_X6_11 dX6_init_33 R.2.1 (by decide) rfl ?_
      refine z_iload_n F dX6_init_36 rfl rfl ?_
      refine zi_newW (a := (q + 18 + 16 * i)) F nw_X6_9 dX6_init_37 fg_X2 R.1 (w := 10) rfl (by rw [hR]; show _ ≤ 145; omega) (by rw [hR]; show _ ≤ 1322; omega) ?_
      refine z_dup F dX6_init_40 rfl ?_
      refine z_callI F B cal_yX2_init (m_Cinit (by omega) (znewc R.1) (zlen1 R.1)) dX6_init_41 rfl rfl (Nat.le_of_ble_eq_true rfl) (by decide) (by omega) (by omega) ml_X6_17 im_yX2_init rfl (fun v hX qX => ?_) (fun C h1 q => q.elim)
      obtain ⟨rfl, K2, l2, s2⟩ := qX
      have R2 := R.step hl hi6 K2 l2 s2
      refine zi_aastore (i := i) F dX6_init_44 (zmut_of F (by omega)) (zmut_of F (by omega)) (s2.get (zapp R.2.2.1) (by omega)) (by decide) (by decide) K2.choose_spec.choose_spec.ob (by decide) rfl rfl rfl (by rw [zar_len]; omega) ?_
      refine zi_iinc F dX6_init_45 rfl rfl (hnl _ rfl) ?_
      refine z_goto (tgt := 26) F dX6_init_48 (by decide) ?_
      exact Z.keys [1, 0] rfl (ih (i + 1) (by omega) _ R2)
  refine z_aload_n F dX6_init_0 rfl rfl ?_
  refine z_objInit F dX6_init_1 ob_X6 im_yobj co_yobj hR (by decide) (by decide) ?_
  refine z_aload_n F dX6_init_4 rfl rfl ?_
  refine zi_bipush F dX6_init_5 (by decide) ?_
  refine zi_anewarray (a := (q + 1)) (m := 8) (kd := 107) F dX6_init_7 cl_X6_9 (by decide) (by decide) (by decide) rfl hl rfl (by decide) (by rw [hR]; show _ ≤ 145; omega) (by rw [hR]; show _ ≤ 1322; omega) ?_
  refine z_putfieldF F I fp_X6_11 dX6_init_10 (zmut_of F (by omega)) (zapp hb) (by decide) (Nat.le_of_ble_eq_true rfl) ⟨rfl, rfl⟩ ?_
  refine z_aload_n F dX6_init_13 rfl rfl ?_
  refine zi_newW (a := (q + 2)) F nw_X6_9 dX6_init_14 fg_X2 (zlens (zlen1 hl)) (w := 10) rfl (by rw [hR]; show _ ≤ 145; omega) (by rw [hR]; show _ ≤ 1322; omega) ?_
  refine z_dup F dX6_init_17 rfl ?_
  refine z_callI F B cal_yX2_init (m_Cinit (by omega) (znewc (zlens (zlen1 hl))) (zlen1 (zlens (zlen1 hl)))) dX6_init_18 rfl rfl (Nat.le_of_ble_eq_true rfl) (by decide) (by omega) (by omega) ml_X6_17 im_yX2_init rfl (fun v hX qX => ?_) (fun C h1 q => q.elim)
  obtain ⟨rfl, K2, l2, s2⟩ := qX
  have e2 := s2.get (zapp (zset_same (c := (8, [.ref (q + 1), .null, .int 0, .int 0])) (zapp (j := [(107, zar 8 (fun _ => Value.null))]) hb))) (by omega)
  have e3 := s2.get (zapp (zkeep (a := q) (c := (8, [.ref (q + 1), .null, .int 0, .int 0])) (znewc (c := (107, zar 8 (fun _ => Value.null))) hl) (by omega))) (by omega)
  refine z_putfield F fp_X6_18 dX6_init_21 (zmut_of F (by omega)) e2 (by decide) (Nat.le_of_ble_eq_true rfl) ⟨rfl, rfl⟩ ?_
  refine zi_iconst F dX6_init_24 ?_
  refine z_istore_n F dX6_init_25 rfl rfl (hnl _ rfl) ?_
  refine Z.keys [1, 0] rfl (KK 8 0 rfl _ ⟨zlens l2, zset_same e2, zkeep e3 (by omega), K2.same (zSame.rf.set rfl : zSame (fun a => a = q) _ _) (fun a g1 g2 => by omega), fun j hj => absurd hj (Nat.not_lt_zero _), ?_⟩)
  exact (((((zSame.rf (S := fun a => a = q)).app _).set rfl).app _).free2 s2 hl (fun a g => by omega)).set rfl
theorem m_Winit (hz : zNR ≤ w) (hb : h[w]? = some (11, fs_X9)) (hl : h.length = w + 1) : zMet yX9_init cX9_init 1 none 1 4 256 [.ref w] h (fun v h' => v = none ∧ zWx w h' ∧ h'.length = w + 5 ∧ zSame (fun a => a = w) h h') (fun _ _ => False) := by
  refine zMet.go (by decide +kernel) (Nat.le_of_ble_eq_true rfl) ?_
  intro X F B hnl hR hn
  have I : X.2.2.2.2.2.2.2.2.1.name = "<init>" := hn
  refine z_aload_n F dX9_init_0 rfl rfl ?_
  refine z_objInit F dX9_init_1 ob_X9 im_yobj co_yobj hR (by decide) (by decide) ?_
  refine z_aload_n F dX9_init_4 rfl rfl ?_
  refine zi_bipush F dX9_init_5 (by decide) ?_
  refine zi_newarray (a := (w + 1)) (m := 64) (kd := 102) (dv := .int 0) F dX9_init_7 ac_boolean (by decide) (by decide) rfl rfl (by decide) rfl (by decide) hl rfl (by decide) (by rw [hR]; show _ ≤ 4; omega) (by rw [hR]; show _ ≤ 256; omega) ?_
  refine z_putfieldF F I fp_X9_9 dX9_init_9 (zmut_of F (by omega)) (zapp hb) (by decide) (Nat.le_of_ble_eq_true rfl) ⟨rfl, rfl⟩ ?_
  refine z_aload_n F dX9_init_12 rfl rfl ?_
  refine zi_bipush F dX9_init_13 (by decide) ?_
  refine zi_newarray (a := (w + 2)) (m := 64) (kd := 100) (dv := .int 0) F dX9_init_15 ac_int (by decide) (by decide) rfl rfl (by decide) rfl (by decide) (zlens (zlen1 hl)) rfl (by decide) (by rw [hR]; show _ ≤ 4; omega) (by rw [hR]; show _ ≤ 256; omega) ?_
  refine z_putfieldF F I fp_X9_15 dX9_init_17 (zmut_of F (by omega)) (zapp (zset_same (zapp hb))) (by decide) (Nat.le_of_ble_eq_true rfl) ⟨rfl, rfl⟩ ?_
  refine z_aload_n F dX9_init_20 rfl rfl ?_
  refine zi_bipush F dX9_init_21 (by decide) ?_
  refine zi_newarray (a := (w + 3)) (m := 64) (kd := 100) (dv := .int 0) F dX9_init_23 ac_int (by decide) (by decide) rfl rfl (by decide) rfl (by decide) (zlens (zlen1 (zlens (zlen1 hl)))) rfl (by decide) (by rw [hR]; show _ ≤ 4; omega) (by rw [hR]; show _ ≤ 256; omega) ?_
  refine z_putfieldF F I fp_X9_19 dX9_init_25 (zmut_of F (by omega)) (zapp (zset_same (zapp (zset_same (zapp hb))))) (by decide) (Nat.le_of_ble_eq_true rfl) ⟨rfl, rfl⟩ ?_
  refine z_aload_n F dX9_init_28 rfl rfl ?_
  refine zi_bipush F dX9_init_29 (by decide) ?_
  refine zi_newarray (a := (w + 4)) (m := 64) (kd := 100) (dv := .int 0) F dX9_init_31 ac_int (by decide) (by decide) rfl rfl (by decide) rfl (by decide) (zlens (zlen1 (zlens (zlen1 (zlens (zlen1 hl)))))) rfl (by decide) (by rw [hR]; show _ ≤ 4; omega) (by rw [hR]; show _ ≤ 256; omega) ?_
  refine z_putfieldF F I fp_X9_22 dX9_init_33 (zmut_of F (by omega)) (zapp (zset_same (zapp (zset_same (zapp (zset_same (zapp hb))))))) (by decide) (Nat.le_of_ble_eq_true rfl) ⟨rfl, rfl⟩ ?_
  exact Z.widen (by decide) (by decide) (z_return F B dX9_init_36 ⟨rfl, ⟨fun _ => false, fun _ => some 0, fun _ => 0, fun _ => 0, zset_same (zapp (zset_same (zapp (zset_same (zapp (zset_same (zapp hb))))))), zkeep (zapp (zkeep (zapp (zkeep (zapp (zkeep (znewc hl) (by omega))) (by omega))) (by omega))) (by omega), zkeep (zapp (zkeep (zapp (zkeep (znewc (zlens (zlen1 hl))) (by omega))) (by omega))) (by omega), zkeep (zapp (zkeep (znewc (zlens (zlen1 (zlens (zlen1 hl))))) (by omega))) (by omega), zkeep (znewc (zlens (zlen1 (zlens (zlen1 (zlens (zlen1 hl))))))) (by omega)⟩, zlens (zlen1 (zlens (zlen1 (zlens (zlen1 (zlens (zlen1 hl))))))), ((((((((zSame.rf (S := fun a => a = w)).app _).set rfl).app _).set rfl).app _).set rfl).app _).set rfl⟩)
theorem m_Ginit (hz : zNR ≤ g) (hb : h[g]? = some (4, fs_X1)) (hl : h.length = g + 1) : zMet yX1_init cX1_init 1 none 1 1 64 [.ref g] h (fun v h' => v = none ∧ zGx g h' ∧ h'.length = g + 2 ∧ zSame (fun a => a = g) h h') (fun _ _ => False) := by
  refine zMet.go (by decide +kernel) (Nat.le_of_ble_eq_true rfl) ?_
  intro X F B hnl hR hn
  have I : X.2.2.2.2.2.2.2.2.1.name = "<init>" := hn
  refine z_aload_n F dX1_init_0 rfl rfl ?_
  refine z_objInit F dX1_init_1 ob_X1 im_yobj co_yobj hR (by decide) (by decide) ?_
  refine z_aload_n F dX1_init_4 rfl rfl ?_
  refine zi_bipush F dX1_init_5 (by decide) ?_
  refine zi_newarray (a := (g + 1)) (m := 64) (kd := 100) (dv := .int 0) F dX1_init_7 ac_int (by decide) (by decide) rfl rfl (by decide) rfl (by decide) hl rfl (by decide) (by rw [hR]; show _ ≤ 1; omega) (by rw [hR]; show _ ≤ 64; omega) ?_
  refine z_putfieldF F I fp_X1_9 dX1_init_9 (zmut_of F (by omega)) (zapp hb) (by decide) (Nat.le_of_ble_eq_true rfl) ⟨rfl, rfl⟩ ?_
  exact Z.widen (by decide) (by decide) (z_return F B dX1_init_12 ⟨rfl, ⟨fun _ => 0, fun _ _ => (by show 0 < 64; decide), zset_same (zapp hb), zkeep (znewc hl) (by omega)⟩, zlens (zlen1 hl), ((zSame.rf (S := fun a => a = g)).app _).set rfl⟩)
theorem m_Kinit (hz : zNR ≤ t) (hb : h[t]? = some (6, fs_X3)) (hl : h.length = t + 1) : zMet yX3_init cX3_init 1 none 1 1 4 [.ref t] h (fun v h' => v = none ∧ h'[t]? = some (6, [.ref 8, .ref (t + 1)]) ∧ h'[t + 1]? = some (100, zar 4 (fun _ => .int 0)) ∧ h'.length = t + 2 ∧ zSame (fun a => a = t) h h') (fun _ _ => False) := by
  refine zMet.go (by decide +kernel) (Nat.le_of_ble_eq_true rfl) ?_
  intro X F B hnl hR hn
  have I : X.2.2.2.2.2.2.2.2.1.name = "<init>" := hn
  refine z_aload_n F dX3_init_0 rfl rfl ?_
  refine z_objInit F dX3_init_1 ob_X3 im_yobj co_yobj hR (by decide) (by decide) ?_
  refine z_aload_n F dX3_init_4 rfl rfl ?_
  refine z_getstatic F gs_X3_7 dX3_init_5 ?_
  refine z_putfield F fp_X3_13 dX3_init_8 (zmut_of F (by omega)) hb (by decide) (Nat.le_of_ble_eq_true rfl) ⟨rfl, rfl⟩ ?_
  refine z_aload_n F dX3_init_11 rfl rfl ?_
  refine zi_iconst F dX3_init_12 ?_
  refine zi_newarray (a := (t + 1)) (m := 4) (kd := 100) (dv := .int 0) F dX3_init_13 ac_int (by decide) (by decide) rfl rfl (by decide) rfl (by decide) (zlens hl) rfl (by decide) (by rw [hR]; show _ ≤ 1; omega) (by rw [hR]; show _ ≤ 4; omega) ?_
  refine z_putfieldF F I fp_X3_18 dX3_init_15 (zmut_of F (by omega)) (zapp (zset_same hb)) (by decide) (Nat.le_of_ble_eq_true rfl) ⟨rfl, rfl⟩ ?_
  exact Z.widen (by decide) (by decide) (z_return F B dX3_init_18 ⟨rfl, zset_same (zapp (zset_same hb)), zkeep (znewc (zlens hl)) (by omega), zlens (zlen1 (zlens hl)), (((zSame.rf (S := fun a => a = t)).set rfl).app _).set rfl⟩)
theorem m_Tinit (hz : zNR ≤ t) (hb : h[t]? = some (7, fs_X5)) (hl : h.length = t + 1) : zMet yX5_init cX5_init 2 none 2 22 130 [.ref t] h (fun v h' => v = none ∧ (∃ T, zTt t T 0 h') ∧ h'.length = t + 23 ∧ zSame (fun a => a = t) h h') (fun _ _ => False) := by
  refine zMet.go (by decide +kernel) (Nat.le_of_ble_eq_true rfl) ?_
  intro X F B hnl hR hn
  have I : X.2.2.2.2.2.2.2.2.1.name = "<init>" := hn
  have KK : ∀ n i : Nat, n + i = 10 → ∀ h1, zTb t i h h1 → Z X (2 + 2 * i) (70 + 6 * i) 23 [(1, .int (iI (i : Int))), (0, .ref t)] [] h1 := by
    intro n
    induction n with
    | zero =>
      intro i hi h1 R
      have hi6 : i = 10 := by omega
      subst hi6
      refine z_iload_n F dX5_init_23 rfl rfl ?_
      refine zi_bipush F dX5_init_24 (by decide) ?_
      refine zi_icmp_ge (tgt := 48) F dX5_init_26 (by decide) (by first | omega | (dsimp only at *; omega)) (fun c26 => ?_) (fun c26 => False.elim (by first | omega | (dsimp only at *; omega)))
      exact Z.widen (by decide) (by decide) (z_return F B dX5_init_48 ⟨rfl, R.done, R.1, R.2.2.2.2.2⟩)
    | succ n ih =>
      intro i hi h1 R
      have hi6 : i < 10 := by omega
      refine z_iload_n F dX5_init_23 rfl rfl ?_
      refine zi_bipush F dX5_init_24 (by decide) ?_
      refine zi_icmp_ge (tgt := 48) F dX5_init_26 (by decide) (by first | omega | (dsimp only at *; omega)) (fun c26 => False.elim (by first | omega | (dsimp only at *; omega))) (fun c26 => ?_)
      refine z_aload_n F dX5_init_29 rfl rfl ?_
      refine z_getfield F fl_X5_17 dX5_init_30 R.2.1 (by decide) rfl ?_
      refine z_iload_n F dX5_init_33 rfl rfl ?_
      refine zi_newW (a := (t + 3 + 2 * i)) F nw_X5_15 dX5_init_34 fg_X3 R.1 (w := 2) rfl (by rw [hR]; show _ ≤ 22; omega) (by rw [hR]; show _ ≤ 130; omega) ?_
      refine z_dup F dX5_init_37 rfl ?_
      refine z_callIN F B cal_yX3_init (m_Kinit (by omega) (znewc R.1) (zlen1 R.1)) dX5_init_38 rfl rfl (Nat.le_of_ble_eq_true rfl) (by decide) (by omega) (by omega) ml_X5_21 im_yX3_init rfl (fun v hX qX => ?_) (fun C h1 q => q.elim)
      obtain ⟨rfl, e2, e3, l2, s2⟩ := qX
      have R2 := R.step hl hi6 e2 e3 l2 s2
      refine zi_aastore (i := i) F dX5_init_41 (zmut_of F (by omega)) (zmut_of F (by omega)) (s2.get (zapp R.2.2.2.1) (by omega)) (by decide) (by decide) e2 (by decide) rfl rfl rfl (by rw [zar_len]; omega) ?_
      refine zi_iinc F dX5_init_42 rfl rfl (hnl _ rfl) ?_
      refine z_goto (tgt := 23) F dX5_init_45 (by decide) ?_
      exact Z.keys [1, 0] rfl (ih (i + 1) (by omega) _ R2)
  refine z_aload_n F dX5_init_0 rfl rfl ?_
  refine z_objInit F dX5_init_1 ob_X5 im_yobj co_yobj hR (by decide) (by decide) ?_
  refine z_aload_n F dX5_init_4 rfl rfl ?_
  refine zi_bipush F dX5_init_5 (by decide) ?_
  refine zi_newarray (a := (t + 1)) (m := 60) (kd := 103) (dv := .int 0) F dX5_init_7 ac_char (by decide) (by decide) rfl rfl (by decide) rfl (by decide) hl rfl (by decide) (by rw [hR]; show _ ≤ 22; omega) (by rw [hR]; show _ ≤ 130; omega) ?_
  refine z_putfieldF F I fp_X5_9 dX5_init_9 (zmut_of F (by omega)) (zapp hb) (by decide) (Nat.le_of_ble_eq_true rfl) ⟨rfl, rfl⟩ ?_
  refine z_aload_n F dX5_init_12 rfl rfl ?_
  refine zi_bipush F dX5_init_13 (by decide) ?_
  refine zi_anewarray (a := (t + 2)) (m := 10) (kd := 108) F dX5_init_15 cl_X5_15 (by decide) (by decide) (by decide) rfl (zlens (zlen1 hl)) rfl (by decide) (by rw [hR]; show _ ≤ 22; omega) (by rw [hR]; show _ ≤ 130; omega) ?_
  refine z_putfieldF F I fp_X5_17 dX5_init_18 (zmut_of F (by omega)) (zapp (zset_same (zapp hb))) (by decide) (Nat.le_of_ble_eq_true rfl) ⟨rfl, rfl⟩ ?_
  refine zi_iconst F dX5_init_21 ?_
  refine z_istore_n F dX5_init_22 rfl rfl (hnl _ rfl) ?_
  refine Z.keys [1, 0] rfl (KK 10 0 rfl _ ⟨zlens (zlen1 (zlens (zlen1 hl))), zset_same (zapp (zset_same (zapp hb))), zkeep (zapp (zkeep (znewc hl) (by omega))) (by omega), zkeep (znewc (zlens (zlen1 hl))) (by omega), fun j hj => absurd hj (Nat.not_lt_zero _), ((((zSame.rf (S := fun a => a = t)).app _).set rfl).app _).set rfl⟩)
theorem m_Binit5 (hz : zNR ≤ a) (hb : h[a]? = some (1, fs_J4)) (hl : h.length = a + 1) : zMet yJ5_init_d00df cJ5_init_d00df 2 none 1 1 16 [.ref a, .int (iI 16)] h (fun v h' => v = none ∧ zLn a h' ∧ h'.length = a + 2 ∧ zSame (fun x => x = a) h h') (fun _ _ => False) := by
  refine zMet.go (by decide +kernel) (Nat.le_of_ble_eq_true rfl) ?_
  intro X F B hnl hR hn
  refine z_aload_n F dJ5_init_d00df_0 rfl rfl ?_
  refine z_objInit F dJ5_init_d00df_1 ob_J5 im_yobj co_yobj hR (by decide) (by decide) ?_
  refine z_getstatic F gs_J5_18 dJ5_init_d00df_4 ?_
  refine zi_if_eq (tgt := 25) F dJ5_init_d00df_7 (by decide) (by first | omega | (dsimp only at *; omega)) (fun c7 => False.elim (by first | omega | (dsimp only at *; omega))) (fun c7 => ?_)
  refine z_aload_n F dJ5_init_d00df_10 rfl rfl ?_
  refine z_iload_n F dJ5_init_d00df_11 rfl rfl ?_
  refine zi_newarray (a := (a + 1)) (m := 16) (kd := 104) (dv := .int 0) F dJ5_init_d00df_12 ac_byte (by decide) (by decide) rfl rfl (by decide) rfl (by decide) hl rfl (by decide) (by rw [hR]; show _ ≤ 1; omega) (by rw [hR]; show _ ≤ 16; omega) ?_
  refine z_putfield F fp_J5_15 dJ5_init_d00df_14 (zmut_of F (by omega)) (zapp hb) (by decide) (Nat.le_of_ble_eq_true rfl) ⟨rfl, rfl⟩ ?_
  refine z_aload_n F dJ5_init_d00df_17 rfl rfl ?_
  refine zi_iconst F dJ5_init_d00df_18 ?_
  refine z_putfield F fp_J5_22 dJ5_init_d00df_19 (zmut_of F (by omega)) (zset_same (zapp hb)) (by decide) (Nat.le_of_ble_eq_true rfl) ⟨rfl, rfl⟩ ?_
  refine z_goto (tgt := 38) F dJ5_init_d00df_22 (by decide) ?_
  exact Z.widen (by decide) (by decide) (z_return F B dJ5_init_d00df_38 ⟨rfl, ⟨a + 1, 0, 0, 16, fun _ => 0, Nat.le_refl _, zset_same (zset_same (zapp hb)), zkeep (zkeep (znewc hl) (by omega)) (by omega), by decide, by decide, by decide⟩, zlens (zlens (zlen1 hl)), (((zSame.rf (S := fun x => x = a)).app _).set rfl).set rfl⟩)
theorem m_Binit (hz : zNR ≤ a) (hb : h[a]? = some (1, fs_J4)) (hl : h.length = a + 1) : zMet yJ4_init_da8c8 cJ4_init_da8c8 1 none 2 1 16 [.ref a] h (fun v h' => v = none ∧ zLn a h' ∧ h'.length = a + 2 ∧ zSame (fun x => x = a) h h') (fun _ _ => False) := by
  refine zMet.go (by decide +kernel) (Nat.le_of_ble_eq_true rfl) ?_
  intro X F B hnl hR hn
  refine z_aload_n F dJ4_init_da8c8_0 rfl rfl ?_
  refine zi_bipush F dJ4_init_da8c8_1 (by decide) ?_
  refine z_callI F B cal_yJ5_init_d00df (m_Binit5 hz hb hl) dJ4_init_da8c8_3 rfl rfl (Nat.le_of_ble_eq_true rfl) (by decide) (by decide) (by decide) ml_J4_1 im_yJ5_init_d00df rfl (fun v hX qX => ?_) (fun C h1 q => q.elim)
  obtain ⟨rfl, q1⟩ := qX
  exact Z.widen (by decide) (by decide) (z_return F B dJ4_init_da8c8_6 ⟨rfl, q1⟩)
def f_B0 (T : Nat → Nat) : zBt := (f_C0, (f_C0, false), (0, 0, fun _ => f_C0), (T, 0), (-1, 0, 0, 0))
theorem ltO {o : Nat} (k : Nat) : o < o + (k + 1) := Nat.lt_add_of_pos_right (Nat.succ_pos k)
section
variable {b o : Nat} {h1 h2 : zH}
theorem zKo.sto {C : zCo} (k : zKo b C h1) (s : zSame (fun x => x = o) h1 h2) (lt : o < b) : zKo b C h2 := k.same s (fun a g1 g2 g => by omega)
theorem zHi.sto {f c : Nat} {H : Nat → zCo} (k : zHi b f c H h1) (s : zSame (fun x => x = o) h1 h2) (lt : o < b) : zHi b f c H h2 := k.same s (fun a g1 g2 g => by omega)
theorem zWx.sto (k : zWx b h1) (s : zSame (fun x => x = o) h1 h2) (lt : o < b) : zWx b h2 := k.same s (fun a g1 g2 g => by omega)
theorem zGx.sto (k : zGx b h1) (s : zSame (fun x => x = o) h1 h2) (lt : o < b) : zGx b h2 := k.same s (fun a g1 g2 g => by omega)
theorem zRc.sto (k : zRc b h1) (s : zSame (fun x => x = o) h1 h2) (lt : o < b) : zRc b h2 := k.same s (fun g => by omega)
theorem zTt.sto {T : Nat → Nat} {n : Nat} (k : zTt b T n h1) (s : zSame (fun x => x = o) h1 h2) (lt : o < b) : zTt b T n h2 := k.same s (fun a g1 g2 g => by omega)
theorem zLn.sto (k : zLn b h1) (s : zSame (fun x => x = o) h1 h2) (lt : o < b) : zLn b h2 := k.same s (fun a g1 g => by omega)
end
theorem m_chart {o : Nat} (hz : zNR ≤ o) (hb : h[o]? = some (12, fs_X10)) (hl : h.length = o + 1) : zMet yX10_init cX10_init 1 none 4 211 2104 [.ref o] h (fun v h' => v = none ∧ (∃ T, zRB o (f_B0 T) h') ∧ h'.length = o + 212 ∧ zSame (fun a => a = o) h h') (fun _ _ => False) := by
  refine zMet.go (by decide +kernel) (Nat.le_of_ble_eq_true rfl) ?_
  intro X F B hnl hR hn
  have I : X.2.2.2.2.2.2.2.2.1.name = "<init>" := hn
  have e0 : h[o]? = some (12, [.null, .null, .int 0, .null, .null, .null, .null, .null, .int 0, .null, .int 0, .int 0, .int 0]) := hb
  have l0 := hl
  have s0 : zSame (fun a => a = o) h h := zSame.rf
  refine z_aload_n F dX10_init_0 rfl rfl ?_
  refine z_objInit F dX10_init_1 ob_X10 im_yobj co_yobj hR (by decide) (by decide) ?_
  refine z_aload_n F dX10_init_4 rfl rfl ?_
  refine zi_newW (a := (o + 1)) F nw_X10_9 dX10_init_5 fg_X2 l0 (w := 10) rfl (by rw [hR]; exact Nat.le_of_ble_eq_true rfl) (by rw [hR]; exact Nat.le_of_ble_eq_true rfl) ?_
  refine z_dup F dX10_init_8 rfl ?_
  refine z_callI F B cal_yX2_init (m_Cinit (Nat.le_trans hz (Nat.le_add_right _ _)) (znewc l0) (zlen1 l0)) dX10_init_9 rfl rfl (Nat.le_of_ble_eq_true rfl) (by decide) (by decide) (by decide) ml_X10_11 im_yX2_init rfl (fun v hX qX => ?_) (fun C h1 q => q.elim)
  obtain ⟨rfl, k1, l1, t0⟩ := qX
  have d0 := t0.get (zapp e0) (Nat.ne_of_lt (ltO 0))
  refine z_putfieldF F I fp_X10_12 dX10_init_12 (zmut_of F hz) d0 (by decide) (Nat.le_of_ble_eq_true rfl) ⟨rfl, rfl⟩ ?_
  refine zgen (P := fun h' => h'.length = o + 17 ∧ h'[o]? = some (12, [.ref (o + 1), .null, .int 0, .null, .null, .null, .null, .null, .int 0, .null, .int 0, .int 0, .int 0]) ∧ zSame (fun a => a = o) h h' ∧ (zKo (o + 1) f_C0 h')) ⟨(zlens l1), (zset_same d0), s0.tr (zstep (o := o) (d := (12, [.ref (o + 1), .null, .int 0, .null, .null, .null, .null, .null, .int 0, .null, .int 0, .int 0, .int 0])) t0 l0), k1.sto (zSame.rf.set (c := (12, [.ref (o + 1), .null, .int 0, .null, .null, .null, .null, .null, .int 0, .null, .int 0, .int 0, .int 0])) rfl : zSame (fun a => a = o) _ _) (ltO 0)⟩ (fun h1 q1 => ?_)
  obtain ⟨l1, e1, s1, k1⟩ := q1
  refine z_aload_n F dX10_init_15 rfl rfl ?_
  refine zi_newW (a := (o + 17)) F nw_X10_9 dX10_init_16 fg_X2 l1 (w := 10) rfl (by rw [hR]; exact Nat.le_of_ble_eq_true rfl) (by rw [hR]; exact Nat.le_of_ble_eq_true rfl) ?_
  refine z_dup F dX10_init_19 rfl ?_
  refine z_callI F B cal_yX2_init (m_Cinit (Nat.le_trans hz (Nat.le_add_right _ _)) (znewc l1) (zlen1 l1)) dX10_init_20 rfl rfl (Nat.le_of_ble_eq_true rfl) (by decide) (by decide) (by decide) ml_X10_11 im_yX2_init rfl (fun v hX qX => ?_) (fun C h1 q => q.elim)
  obtain ⟨rfl, k2, l2, t1⟩ := qX
  have d1 := t1.get (zapp e1) (Nat.ne_of_lt (ltO 16))
  refine z_putfieldF F I fp_X10_16 dX10_init_23 (zmut_of F hz) d1 (by decide) (Nat.le_of_ble_eq_true rfl) ⟨rfl, rfl⟩ ?_
  refine zgen (P := fun h' => h'.length = o + 33 ∧ h'[o]? = some (12, [.ref (o + 1), .ref (o + 17), .int 0, .null, .null, .null, .null, .null, .int 0, .null, .int 0, .int 0, .int 0]) ∧ zSame (fun a => a = o) h h' ∧ (zKo (o + 1) f_C0 h') ∧ (zKo (o + 17) f_C0 h')) ⟨(zlens l2), (zset_same d1), s1.tr (zstep (o := o) (d := (12, [.ref (o + 1), .ref (o + 17), .int 0, .null, .null, .null, .null, .null, .int 0, .null, .int 0, .int 0, .int 0])) t1 l1), k1.sto (zstep (o := o) (d := (12, [.ref (o + 1), .ref (o + 17), .int 0, .null, .null, .null, .null, .null, .int 0, .null, .int 0, .int 0, .int 0])) t1 l1) (ltO 0), k2.sto (zSame.rf.set (c := (12, [.ref (o + 1), .ref (o + 17), .int 0, .null, .null, .null, .null, .null, .int 0, .null, .int 0, .int 0, .int 0])) rfl : zSame (fun a => a = o) _ _) (ltO 16)⟩ (fun h2 q2 => ?_)
  obtain ⟨l2, e2, s2, k1, k2⟩ := q2
  refine z_aload_n F dX10_init_26 rfl rfl ?_
  refine zi_newW (a := (o + 33)) F nw_X10_19 dX10_init_27 fg_X6 l2 (w := 4) rfl (by rw [hR]; exact Nat.le_of_ble_eq_true rfl) (by rw [hR]; exact Nat.le_of_ble_eq_true rfl) ?_
  refine z_dup F dX10_init_30 rfl ?_
  refine z_callI F B cal_yX6_init (m_Hinit (Nat.le_trans hz (Nat.le_add_right _ _)) (znewc l2) (zlen1 l2)) dX10_init_31 rfl rfl (Nat.le_of_ble_eq_true rfl) (by decide) (by decide) (by decide) ml_X10_21 im_yX6_init rfl (fun v hX qX => ?_) (fun C h1 q => q.elim)
  obtain ⟨rfl, k3, l3, t2⟩ := qX
  have d2 := t2.get (zapp e2) (Nat.ne_of_lt (ltO 32))
  refine z_putfieldF F I fp_X10_22 dX10_init_34 (zmut_of F hz) d2 (by decide) (Nat.le_of_ble_eq_true rfl) ⟨rfl, rfl⟩ ?_
  refine zgen (P := fun h' => h'.length = o + 179 ∧ h'[o]? = some (12, [.ref (o + 1), .ref (o + 17), .int 0, .ref (o + 33), .null, .null, .null, .null, .int 0, .null, .int 0, .int 0, .int 0]) ∧ zSame (fun a => a = o) h h' ∧ (zKo (o + 1) f_C0 h') ∧ (zKo (o + 17) f_C0 h') ∧ (zHi (o + 33) 0 0 (fun _ => f_C0) h')) ⟨(zlens l3), (zset_same d2), s2.tr (zstep (o := o) (d := (12, [.ref (o + 1), .ref (o + 17), .int 0, .ref (o + 33), .null, .null, .null, .null, .int 0, .null, .int 0, .int 0, .int 0])) t2 l2), k1.sto (zstep (o := o) (d := (12, [.ref (o + 1), .ref (o + 17), .int 0, .ref (o + 33), .null, .null, .null, .null, .int 0, .null, .int 0, .int 0, .int 0])) t2 l2) (ltO 0), k2.sto (zstep (o := o) (d := (12, [.ref (o + 1), .ref (o + 17), .int 0, .ref (o + 33), .null, .null, .null, .null, .int 0, .null, .int 0, .int 0, .int 0])) t2 l2) (ltO 16), k3.sto (zSame.rf.set (c := (12, [.ref (o + 1), .ref (o + 17), .int 0, .ref (o + 33), .null, .null, .null, .null, .int 0, .null, .int 0, .int 0, .int 0])) rfl : zSame (fun a => a = o) _ _) (ltO 32)⟩ (fun h3 q3 => ?_)
  obtain ⟨l3, e3, s3, k1, k2, k3⟩ := q3
  refine z_aload_n F dX10_init_37 rfl rfl ?_
  refine zi_newW (a := (o + 179)) F nw_X10_26 dX10_init_38 fg_X9 l3 (w := 4) rfl (by rw [hR]; exact Nat.le_of_ble_eq_true rfl) (by rw [hR]; exact Nat.le_of_ble_eq_true rfl) ?_
  refine z_dup F dX10_init_41 rfl ?_
  refine z_callIN F B cal_yX9_init (m_Winit (Nat.le_trans hz (Nat.le_add_right _ _)) (znewc l3) (zlen1 l3)) dX10_init_42 rfl rfl (Nat.le_of_ble_eq_true rfl) (by decide) (by decide) (by decide) ml_X10_28 im_yX9_init rfl (fun v hX qX => ?_) (fun C h1 q => q.elim)
  obtain ⟨rfl, k4, l4, t3⟩ := qX
  have d3 := t3.get (zapp e3) (Nat.ne_of_lt (ltO 178))
  refine z_putfieldF F I fp_X10_29 dX10_init_45 (zmut_of F hz) d3 (by decide) (Nat.le_of_ble_eq_true rfl) ⟨rfl, rfl⟩ ?_
  refine zgen (P := fun h' => h'.length = o + 184 ∧ h'[o]? = some (12, [.ref (o + 1), .ref (o + 17), .int 0, .ref (o + 33), .ref (o + 179), .null, .null, .null, .int 0, .null, .int 0, .int 0, .int 0]) ∧ zSame (fun a => a = o) h h' ∧ (zKo (o + 1) f_C0 h') ∧ (zKo (o + 17) f_C0 h') ∧ (zHi (o + 33) 0 0 (fun _ => f_C0) h') ∧ (zWx (o + 179) h')) ⟨(zlens l4), (zset_same d3), s3.tr (zstep (o := o) (d := (12, [.ref (o + 1), .ref (o + 17), .int 0, .ref (o + 33), .ref (o + 179), .null, .null, .null, .int 0, .null, .int 0, .int 0, .int 0])) t3 l3), k1.sto (zstep (o := o) (d := (12, [.ref (o + 1), .ref (o + 17), .int 0, .ref (o + 33), .ref (o + 179), .null, .null, .null, .int 0, .null, .int 0, .int 0, .int 0])) t3 l3) (ltO 0), k2.sto (zstep (o := o) (d := (12, [.ref (o + 1), .ref (o + 17), .int 0, .ref (o + 33), .ref (o + 179), .null, .null, .null, .int 0, .null, .int 0, .int 0, .int 0])) t3 l3) (ltO 16), k3.sto (zstep (o := o) (d := (12, [.ref (o + 1), .ref (o + 17), .int 0, .ref (o + 33), .ref (o + 179), .null, .null, .null, .int 0, .null, .int 0, .int 0, .int 0])) t3 l3) (ltO 32), k4.sto (zSame.rf.set (c := (12, [.ref (o + 1), .ref (o + 17), .int 0, .ref (o + 33), .ref (o + 179), .null, .null, .null, .int 0, .null, .int 0, .int 0, .int 0])) rfl : zSame (fun a => a = o) _ _) (ltO 178)⟩ (fun h4 q4 => ?_)
  obtain ⟨l4, e4, s4, k1, k2, k3, k4⟩ := q4
  refine z_aload_n F dX10_init_48 rfl rfl ?_
  refine zi_newW (a := (o + 184)) F nw_X10_33 dX10_init_49 fg_X1 l4 (w := 1) rfl (by rw [hR]; exact Nat.le_of_ble_eq_true rfl) (by rw [hR]; exact Nat.le_of_ble_eq_true rfl) ?_
  refine z_dup F dX10_init_52 rfl ?_
  refine z_callIN F B cal_yX1_init (m_Ginit (Nat.le_trans hz (Nat.le_add_right _ _)) (znewc l4) (zlen1 l4)) dX10_init_53 rfl rfl (Nat.le_of_ble_eq_true rfl) (by decide) (by decide) (by decide) ml_X10_35 im_yX1_init rfl (fun v hX qX => ?_) (fun C h1 q => q.elim)
  obtain ⟨rfl, k5, l5, t4⟩ := qX
  have d4 := t4.get (zapp e4) (Nat.ne_of_lt (ltO 183))
  refine z_putfieldF F I fp_X10_36 dX10_init_56 (zmut_of F hz) d4 (by decide) (Nat.le_of_ble_eq_true rfl) ⟨rfl, rfl⟩ ?_
  refine zgen (P := fun h' => h'.length = o + 186 ∧ h'[o]? = some (12, [.ref (o + 1), .ref (o + 17), .int 0, .ref (o + 33), .ref (o + 179), .ref (o + 184), .null, .null, .int 0, .null, .int 0, .int 0, .int 0]) ∧ zSame (fun a => a = o) h h' ∧ (zKo (o + 1) f_C0 h') ∧ (zKo (o + 17) f_C0 h') ∧ (zHi (o + 33) 0 0 (fun _ => f_C0) h') ∧ (zWx (o + 179) h') ∧ (zGx (o + 184) h')) ⟨(zlens l5), (zset_same d4), s4.tr (zstep (o := o) (d := (12, [.ref (o + 1), .ref (o + 17), .int 0, .ref (o + 33), .ref (o + 179), .ref (o + 184), .null, .null, .int 0, .null, .int 0, .int 0, .int 0])) t4 l4), k1.sto (zstep (o := o) (d := (12, [.ref (o + 1), .ref (o + 17), .int 0, .ref (o + 33), .ref (o + 179), .ref (o + 184), .null, .null, .int 0, .null, .int 0, .int 0, .int 0])) t4 l4) (ltO 0), k2.sto (zstep (o := o) (d := (12, [.ref (o + 1), .ref (o + 17), .int 0, .ref (o + 33), .ref (o + 179), .ref (o + 184), .null, .null, .int 0, .null, .int 0, .int 0, .int 0])) t4 l4) (ltO 16), k3.sto (zstep (o := o) (d := (12, [.ref (o + 1), .ref (o + 17), .int 0, .ref (o + 33), .ref (o + 179), .ref (o + 184), .null, .null, .int 0, .null, .int 0, .int 0, .int 0])) t4 l4) (ltO 32), k4.sto (zstep (o := o) (d := (12, [.ref (o + 1), .ref (o + 17), .int 0, .ref (o + 33), .ref (o + 179), .ref (o + 184), .null, .null, .int 0, .null, .int 0, .int 0, .int 0])) t4 l4) (ltO 178), k5.sto (zSame.rf.set (c := (12, [.ref (o + 1), .ref (o + 17), .int 0, .ref (o + 33), .ref (o + 179), .ref (o + 184), .null, .null, .int 0, .null, .int 0, .int 0, .int 0])) rfl : zSame (fun a => a = o) _ _) (ltO 183)⟩ (fun h5 q5 => ?_)
  obtain ⟨l5, e5, s5, k1, k2, k3, k4, k5⟩ := q5
  refine z_aload_n F dX10_init_59 rfl rfl ?_
  refine zi_bipush F dX10_init_60 (by decide) ?_
  refine zi_newarray (a := (o + 186)) (m := 6) (kd := 101) (dv := .long 0) F dX10_init_62 ac_long (by decide) (by decide) rfl rfl (by decide) rfl (by decide) l5 rfl (by decide) (by rw [hR]; exact Nat.le_of_ble_eq_true rfl) (by rw [hR]; exact Nat.le_of_ble_eq_true rfl) ?_
  refine z_putfieldF F I fp_X10_40 dX10_init_64 (zmut_of F hz) (zapp e5) (by decide) (Nat.le_of_ble_eq_true rfl) ⟨rfl, rfl⟩ ?_
  refine zgen (P := fun h' => h'.length = o + 187 ∧ h'[o]? = some (12, [.ref (o + 1), .ref (o + 17), .int 0, .ref (o + 33), .ref (o + 179), .ref (o + 184), .ref (o + 186), .null, .int 0, .null, .int 0, .int 0, .int 0]) ∧ zSame (fun a => a = o) h h' ∧ (zKo (o + 1) f_C0 h') ∧ (zKo (o + 17) f_C0 h') ∧ (zHi (o + 33) 0 0 (fun _ => f_C0) h') ∧ (zWx (o + 179) h') ∧ (zGx (o + 184) h') ∧ (zRc (o + 186) h')) ⟨(zlens (zlen1 l5)), (zset_same (zapp e5)), s5.tr (((zSame.rf (S := fun a => a = o)).app [(101, zar 6 (fun _ => Value.long 0))]).set (c := (12, [.ref (o + 1), .ref (o + 17), .int 0, .ref (o + 33), .ref (o + 179), .ref (o + 184), .ref (o + 186), .null, .int 0, .null, .int 0, .int 0, .int 0])) rfl), k1.sto (((zSame.rf (S := fun a => a = o)).app [(101, zar 6 (fun _ => Value.long 0))]).set (c := (12, [.ref (o + 1), .ref (o + 17), .int 0, .ref (o + 33), .ref (o + 179), .ref (o + 184), .ref (o + 186), .null, .int 0, .null, .int 0, .int 0, .int 0])) rfl) (ltO 0), k2.sto (((zSame.rf (S := fun a => a = o)).app [(101, zar 6 (fun _ => Value.long 0))]).set (c := (12, [.ref (o + 1), .ref (o + 17), .int 0, .ref (o + 33), .ref (o + 179), .ref (o + 184), .ref (o + 186), .null, .int 0, .null, .int 0, .int 0, .int 0])) rfl) (ltO 16), k3.sto (((zSame.rf (S := fun a => a = o)).app [(101, zar 6 (fun _ => Value.long 0))]).set (c := (12, [.ref (o + 1), .ref (o + 17), .int 0, .ref (o + 33), .ref (o + 179), .ref (o + 184), .ref (o + 186), .null, .int 0, .null, .int 0, .int 0, .int 0])) rfl) (ltO 32), k4.sto (((zSame.rf (S := fun a => a = o)).app [(101, zar 6 (fun _ => Value.long 0))]).set (c := (12, [.ref (o + 1), .ref (o + 17), .int 0, .ref (o + 33), .ref (o + 179), .ref (o + 184), .ref (o + 186), .null, .int 0, .null, .int 0, .int 0, .int 0])) rfl) (ltO 178), k5.sto (((zSame.rf (S := fun a => a = o)).app [(101, zar 6 (fun _ => Value.long 0))]).set (c := (12, [.ref (o + 1), .ref (o + 17), .int 0, .ref (o + 33), .ref (o + 179), .ref (o + 184), .ref (o + 186), .null, .int 0, .null, .int 0, .int 0, .int 0])) rfl) (ltO 183), ⟨fun _ => 0, zkeep (znewc l5) (Nat.ne_of_lt (ltO 185))⟩⟩ (fun h6 q6 => ?_)
  obtain ⟨l6, e6, s6, k1, k2, k3, k4, k5, k6⟩ := q6
  refine z_aload_n F dX10_init_67 rfl rfl ?_
  refine zi_newW (a := (o + 187)) F nw_X10_44 dX10_init_68 fg_X5 l6 (w := 5) rfl (by rw [hR]; exact Nat.le_of_ble_eq_true rfl) (by rw [hR]; exact Nat.le_of_ble_eq_true rfl) ?_
  refine z_dup F dX10_init_71 rfl ?_
  refine z_callI F B cal_yX5_init (m_Tinit (Nat.le_trans hz (Nat.le_add_right _ _)) (znewc l6) (zlen1 l6)) dX10_init_72 rfl rfl (Nat.le_of_ble_eq_true rfl) (by decide) (by decide) (by decide) ml_X10_46 im_yX5_init rfl (fun v hX qX => ?_) (fun C h1 q => q.elim)
  obtain ⟨rfl, ⟨T7, k7⟩, l7, t6⟩ := qX
  have d6 := t6.get (zapp e6) (Nat.ne_of_lt (ltO 186))
  refine z_putfieldF F I fp_X10_47 dX10_init_75 (zmut_of F hz) d6 (by decide) (Nat.le_of_ble_eq_true rfl) ⟨rfl, rfl⟩ ?_
  refine zgen (P := fun h' => h'.length = o + 210 ∧ h'[o]? = some (12, [.ref (o + 1), .ref (o + 17), .int 0, .ref (o + 33), .ref (o + 179), .ref (o + 184), .ref (o + 186), .ref (o + 187), .int 0, .null, .int 0, .int 0, .int 0]) ∧ zSame (fun a => a = o) h h' ∧ (zKo (o + 1) f_C0 h') ∧ (zKo (o + 17) f_C0 h') ∧ (zHi (o + 33) 0 0 (fun _ => f_C0) h') ∧ (zWx (o + 179) h') ∧ (zGx (o + 184) h') ∧ (zRc (o + 186) h') ∧ (zTt (o + 187) T7 0 h')) ⟨(zlens l7), (zset_same d6), s6.tr (zstep (o := o) (d := (12, [.ref (o + 1), .ref (o + 17), .int 0, .ref (o + 33), .ref (o + 179), .ref (o + 184), .ref (o + 186), .ref (o + 187), .int 0, .null, .int 0, .int 0, .int 0])) t6 l6), k1.sto (zstep (o := o) (d := (12, [.ref (o + 1), .ref (o + 17), .int 0, .ref (o + 33), .ref (o + 179), .ref (o + 184), .ref (o + 186), .ref (o + 187), .int 0, .null, .int 0, .int 0, .int 0])) t6 l6) (ltO 0), k2.sto (zstep (o := o) (d := (12, [.ref (o + 1), .ref (o + 17), .int 0, .ref (o + 33), .ref (o + 179), .ref (o + 184), .ref (o + 186), .ref (o + 187), .int 0, .null, .int 0, .int 0, .int 0])) t6 l6) (ltO 16), k3.sto (zstep (o := o) (d := (12, [.ref (o + 1), .ref (o + 17), .int 0, .ref (o + 33), .ref (o + 179), .ref (o + 184), .ref (o + 186), .ref (o + 187), .int 0, .null, .int 0, .int 0, .int 0])) t6 l6) (ltO 32), k4.sto (zstep (o := o) (d := (12, [.ref (o + 1), .ref (o + 17), .int 0, .ref (o + 33), .ref (o + 179), .ref (o + 184), .ref (o + 186), .ref (o + 187), .int 0, .null, .int 0, .int 0, .int 0])) t6 l6) (ltO 178), k5.sto (zstep (o := o) (d := (12, [.ref (o + 1), .ref (o + 17), .int 0, .ref (o + 33), .ref (o + 179), .ref (o + 184), .ref (o + 186), .ref (o + 187), .int 0, .null, .int 0, .int 0, .int 0])) t6 l6) (ltO 183), k6.sto (zstep (o := o) (d := (12, [.ref (o + 1), .ref (o + 17), .int 0, .ref (o + 33), .ref (o + 179), .ref (o + 184), .ref (o + 186), .ref (o + 187), .int 0, .null, .int 0, .int 0, .int 0])) t6 l6) (ltO 185), k7.sto (zSame.rf.set (c := (12, [.ref (o + 1), .ref (o + 17), .int 0, .ref (o + 33), .ref (o + 179), .ref (o + 184), .ref (o + 186), .ref (o + 187), .int 0, .null, .int 0, .int 0, .int 0])) rfl : zSame (fun a => a = o) _ _) (ltO 186)⟩ (fun h7 q7 => ?_)
  obtain ⟨l7, e7, s7, k1, k2, k3, k4, k5, k6, k7⟩ := q7
  refine z_aload_n F dX10_init_78 rfl rfl ?_
  refine zi_iconst F dX10_init_79 ?_
  refine z_putfield F fp_X10_51 dX10_init_80 (zmut_of F hz) e7 (by decide) (Nat.le_of_ble_eq_true rfl) ⟨rfl, rfl⟩ ?_
  refine zgen (P := fun h' => h'.length = o + 210 ∧ h'[o]? = some (12, [.ref (o + 1), .ref (o + 17), .int 0, .ref (o + 33), .ref (o + 179), .ref (o + 184), .ref (o + 186), .ref (o + 187), .int (iI (-1)), .null, .int 0, .int 0, .int 0]) ∧ zSame (fun a => a = o) h h' ∧ (zKo (o + 1) f_C0 h') ∧ (zKo (o + 17) f_C0 h') ∧ (zHi (o + 33) 0 0 (fun _ => f_C0) h') ∧ (zWx (o + 179) h') ∧ (zGx (o + 184) h') ∧ (zRc (o + 186) h') ∧ (zTt (o + 187) T7 0 h')) ⟨(zlens l7), (zset_same e7), s7.tr ((zSame.rf (S := fun a => a = o)).set (c := (12, [.ref (o + 1), .ref (o + 17), .int 0, .ref (o + 33), .ref (o + 179), .ref (o + 184), .ref (o + 186), .ref (o + 187), .int (iI (-1)), .null, .int 0, .int 0, .int 0])) rfl), k1.sto ((zSame.rf (S := fun a => a = o)).set (c := (12, [.ref (o + 1), .ref (o + 17), .int 0, .ref (o + 33), .ref (o + 179), .ref (o + 184), .ref (o + 186), .ref (o + 187), .int (iI (-1)), .null, .int 0, .int 0, .int 0])) rfl) (ltO 0), k2.sto ((zSame.rf (S := fun a => a = o)).set (c := (12, [.ref (o + 1), .ref (o + 17), .int 0, .ref (o + 33), .ref (o + 179), .ref (o + 184), .ref (o + 186), .ref (o + 187), .int (iI (-1)), .null, .int 0, .int 0, .int 0])) rfl) (ltO 16), k3.sto ((zSame.rf (S := fun a => a = o)).set (c := (12, [.ref (o + 1), .ref (o + 17), .int 0, .ref (o + 33), .ref (o + 179), .ref (o + 184), .ref (o + 186), .ref (o + 187), .int (iI (-1)), .null, .int 0, .int 0, .int 0])) rfl) (ltO 32), k4.sto ((zSame.rf (S := fun a => a = o)).set (c := (12, [.ref (o + 1), .ref (o + 17), .int 0, .ref (o + 33), .ref (o + 179), .ref (o + 184), .ref (o + 186), .ref (o + 187), .int (iI (-1)), .null, .int 0, .int 0, .int 0])) rfl) (ltO 178), k5.sto ((zSame.rf (S := fun a => a = o)).set (c := (12, [.ref (o + 1), .ref (o + 17), .int 0, .ref (o + 33), .ref (o + 179), .ref (o + 184), .ref (o + 186), .ref (o + 187), .int (iI (-1)), .null, .int 0, .int 0, .int 0])) rfl) (ltO 183), k6.sto ((zSame.rf (S := fun a => a = o)).set (c := (12, [.ref (o + 1), .ref (o + 17), .int 0, .ref (o + 33), .ref (o + 179), .ref (o + 184), .ref (o + 186), .ref (o + 187), .int (iI (-1)), .null, .int 0, .int 0, .int 0])) rfl) (ltO 185), k7.sto ((zSame.rf (S := fun a => a = o)).set (c := (12, [.ref (o + 1), .ref (o + 17), .int 0, .ref (o + 33), .ref (o + 179), .ref (o + 184), .ref (o + 186), .ref (o + 187), .int (iI (-1)), .null, .int 0, .int 0, .int 0])) rfl) (ltO 186)⟩ (fun h8 q8 => ?_)
  obtain ⟨l8, e8, s8, k1, k2, k3, k4, k5, k6, k7⟩ := q8
  refine z_aload_n F dX10_init_83 rfl rfl ?_
  refine zi_newW (a := (o + 210)) F nw_X10_55 dX10_init_84 fg_J4 l8 (w := 4) rfl (by rw [hR]; exact Nat.le_of_ble_eq_true rfl) (by rw [hR]; exact Nat.le_of_ble_eq_true rfl) ?_
  refine z_dup F dX10_init_87 rfl ?_
  refine z_callI F B cal_yJ4_init_da8c8 (m_Binit (Nat.le_trans hz (Nat.le_add_right _ _)) (znewc l8) (zlen1 l8)) dX10_init_88 rfl rfl (Nat.le_of_ble_eq_true rfl) (by decide) (by decide) (by decide) ml_X10_57 im_yJ4_init_da8c8 rfl (fun v hX qX => ?_) (fun C h1 q => q.elim)
  obtain ⟨rfl, k8, l9, t8⟩ := qX
  have d8 := t8.get (zapp e8) (Nat.ne_of_lt (ltO 209))
  refine z_putfieldF F I fp_X10_58 dX10_init_91 (zmut_of F hz) d8 (by decide) (Nat.le_of_ble_eq_true rfl) ⟨rfl, rfl⟩ ?_
  refine zgen (P := fun h' => h'.length = o + 212 ∧ h'[o]? = some (12, [.ref (o + 1), .ref (o + 17), .int 0, .ref (o + 33), .ref (o + 179), .ref (o + 184), .ref (o + 186), .ref (o + 187), .int (iI (-1)), .ref (o + 210), .int 0, .int 0, .int 0]) ∧ zSame (fun a => a = o) h h' ∧ (zKo (o + 1) f_C0 h') ∧ (zKo (o + 17) f_C0 h') ∧ (zHi (o + 33) 0 0 (fun _ => f_C0) h') ∧ (zWx (o + 179) h') ∧ (zGx (o + 184) h') ∧ (zRc (o + 186) h') ∧ (zTt (o + 187) T7 0 h') ∧ (zLn (o + 210) h')) ⟨(zlens l9), (zset_same d8), s8.tr (zstep (o := o) (d := (12, [.ref (o + 1), .ref (o + 17), .int 0, .ref (o + 33), .ref (o + 179), .ref (o + 184), .ref (o + 186), .ref (o + 187), .int (iI (-1)), .ref (o + 210), .int 0, .int 0, .int 0])) t8 l8), k1.sto (zstep (o := o) (d := (12, [.ref (o + 1), .ref (o + 17), .int 0, .ref (o + 33), .ref (o + 179), .ref (o + 184), .ref (o + 186), .ref (o + 187), .int (iI (-1)), .ref (o + 210), .int 0, .int 0, .int 0])) t8 l8) (ltO 0), k2.sto (zstep (o := o) (d := (12, [.ref (o + 1), .ref (o + 17), .int 0, .ref (o + 33), .ref (o + 179), .ref (o + 184), .ref (o + 186), .ref (o + 187), .int (iI (-1)), .ref (o + 210), .int 0, .int 0, .int 0])) t8 l8) (ltO 16), k3.sto (zstep (o := o) (d := (12, [.ref (o + 1), .ref (o + 17), .int 0, .ref (o + 33), .ref (o + 179), .ref (o + 184), .ref (o + 186), .ref (o + 187), .int (iI (-1)), .ref (o + 210), .int 0, .int 0, .int 0])) t8 l8) (ltO 32), k4.sto (zstep (o := o) (d := (12, [.ref (o + 1), .ref (o + 17), .int 0, .ref (o + 33), .ref (o + 179), .ref (o + 184), .ref (o + 186), .ref (o + 187), .int (iI (-1)), .ref (o + 210), .int 0, .int 0, .int 0])) t8 l8) (ltO 178), k5.sto (zstep (o := o) (d := (12, [.ref (o + 1), .ref (o + 17), .int 0, .ref (o + 33), .ref (o + 179), .ref (o + 184), .ref (o + 186), .ref (o + 187), .int (iI (-1)), .ref (o + 210), .int 0, .int 0, .int 0])) t8 l8) (ltO 183), k6.sto (zstep (o := o) (d := (12, [.ref (o + 1), .ref (o + 17), .int 0, .ref (o + 33), .ref (o + 179), .ref (o + 184), .ref (o + 186), .ref (o + 187), .int (iI (-1)), .ref (o + 210), .int 0, .int 0, .int 0])) t8 l8) (ltO 185), k7.sto (zstep (o := o) (d := (12, [.ref (o + 1), .ref (o + 17), .int 0, .ref (o + 33), .ref (o + 179), .ref (o + 184), .ref (o + 186), .ref (o + 187), .int (iI (-1)), .ref (o + 210), .int 0, .int 0, .int 0])) t8 l8) (ltO 186), k8.sto (zSame.rf.set (c := (12, [.ref (o + 1), .ref (o + 17), .int 0, .ref (o + 33), .ref (o + 179), .ref (o + 184), .ref (o + 186), .ref (o + 187), .int (iI (-1)), .ref (o + 210), .int 0, .int 0, .int 0])) rfl : zSame (fun a => a = o) _ _) (ltO 209)⟩ (fun h9 q9 => ?_)
  obtain ⟨l9, e9, s9, k1, k2, k3, k4, k5, k6, k7, k8⟩ := q9
  exact Z.widen (by decide) (by decide) (z_return F B dX10_init_94 ⟨rfl, ⟨T7, hz, e9, k1, k2, k3, k4, k5, k6, k7, k8⟩, l9, s9⟩)
end
