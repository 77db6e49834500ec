/-! constructors: lights, ships, coasts, the history -/
def f_L0 : zLt := (0, 0, 8, 0, 0)
def f_S0 : zSp := (0, 0, none, false, 0)
def f_C0 : zCo := (fun _ => 5, fun _ => f_L0, fun _ => f_S0, (0, 0), (0, 0, 0, 0, 0))
/-- a coast that is being made: its depths, so many lights and ships -/
def zCb (b : Nat) (d : Nat → Nat) (nl ns : Nat) (h0 h1 : zH) : Prop :=
  h1.length = b + 4 + nl + ns ∧ h1[b]? = some (5, [.ref (b + 1), .ref (b + 2), .ref (b + 3), .int 0, .int 0, .int 0, .int 0, .int 0, .int 0, .int 0]) ∧ h1[b + 1]? = some (100, zar 64 (fun c => .int (iI (d c : Nat)))) ∧ h1[b + 2]? = some (105, zar 6 (fun j => if j < nl then .ref (b + 4 + j) else .null)) ∧ (∀ j, j < nl → h1[b + 4 + j]? = some (9, zLf f_L0)) ∧ h1[b + 3]? = some (106, zar 6 (fun j => if j < ns then .ref (b + 10 + j) else .null)) ∧ (∀ j, j < ns → h1[b + 10 + j]? = some (10, zSf f_S0)) ∧ zSame (fun a => a = b) h0 h1
section
variable {b : Nat} {d : Nat → Nat} {nl ns : Nat} {h0 h1 h2 : zH}
/-- cells from b on may be written: h0 ended at b + 1 -/
theorem zSame.free {S : Nat → Prop} {h0 h1 : zH} {b a : Nat} {c : zC} (s : zSame S h0 h1) (hl : h0.length = b + 1) (ha : b < a) : zSame S h0 (h1.set a c) := ⟨by rw [List.length_set]; exact s.1, fun q hq hn => by
  rw [List.getElem?_set_ne (by omega)]
  exact s.2 q hq hn⟩
theorem zSame.free2 {S S' : Nat → Prop} {h0 h1 h2 : zH} {b : Nat} (s : zSame S h0 h1) (s2 : zSame S' h1 h2) (hl : h0.length = b + 1) (ha : ∀ a, S' a → b < a) : zSame S h0 h2 := ⟨Nat.le_trans s.1 s2.1, fun q hq hn => by
  rw [s2.2 q (Nat.lt_of_lt_of_le hq s.1) (fun g => by have := ha q g; omega)]
  exact s.2 q hq hn⟩
theorem zCb.dep (R : zCb b d 0 0 h0 h1) (hl : h0.length = b + 1) (i : Nat) : zCb b (zup d i 5) 0 0 h0 (h1.set (b + 1) (100, (zar 64 (fun c => Value.int (iI (d c : Nat)))).set i (.int (iI 5)))) := by
  obtain ⟨r1, r2, r3, r4, r5, r6, r7, r8⟩ := R
  refine ⟨by rw [List.length_set]; exact r1, zkeep r2 (by omega), ?_, zkeep r4 (by omega), fun j hj => absurd hj (Nat.not_lt_zero _), zkeep r6 (by omega), fun j hj => absurd hj (Nat.not_lt_zero _), r8.free hl (by omega)⟩
  rw [zset_same r3, zar_set]
  congr 3
  funext c
  by_cases e : c = i
  · subst e; simp [zup]
  · simp [zup, e]
theorem zCb.li (R : zCb b d nl 0 h0 h1) (hl : h0.length = b + 1) (hn : nl < 6) (e2 : h2[b + 4 + nl]? = some (9, zLf f_L0)) (s2 : zSame (fun a => a = b + 4 + nl) (h1 ++ [(9, fs_X7)]) h2) (hl2 : h2.length = b + 4 + nl + 1) : zCb b d (nl + 1) 0 h0 (h2.set (b + 2) (105, (zar 6 (fun j => if j < nl then Value.ref (b + 4 + j) else .null)).set nl (.ref (b + 4 + nl)))) := by
  obtain ⟨r1, r2, r3, r4, r5, r6, r7, r8⟩ := R
  have q : ∀ {a : Nat} {c : zC}, h1[a]? = some c → a ≠ b + 4 + nl → h2[a]? = some c := fun e ne => s2.get (zapp e) ne
  refine ⟨by rw [List.length_set, hl2]; omega, zkeep (q r2 (by omega)) (by omega), zkeep (q r3 (by omega)) (by omega), ?_, fun j hj => ?_, zkeep (q r6 (by omega)) (by omega), fun j hj => absurd hj (Nat.not_lt_zero _), ((r8.app _).free2 s2 hl (fun a g => by omega)).free hl (by omega)⟩
  · rw [zset_same (q r4 (by omega)), zar_set]
    congr 2
    refine zar_congr fun k hk => ?_
    unfold zup
    by_cases e : k = nl
    · rw [if_pos e, if_pos (by omega), e]
    · rw [if_neg e]
      dsimp only
      by_cases e2 : k < nl
      · rw [if_pos e2, if_pos (by omega)]
      · rw [if_neg e2, if_neg (by omega)]
  · by_cases e : j = nl
    · subst e; exact zkeep e2 (by omega)
    · exact zkeep (q (r5 j (by omega)) (by omega)) (by omega)
theorem zCb.si (R : zCb b d 6 ns h0 h1) (hl : h0.length = b + 1) (hn : ns < 6) (e2 : h2[b + 10 + ns]? = some (10, zSf f_S0)) (s2 : zSame (fun a => a = b + 10 + ns) (h1 ++ [(10, fs_X8)]) h2) (hl2 : h2.length = b + 10 + ns + 1) : zCb b d 6 (ns + 1) h0 (h2.set (b + 3) (106, (zar 6 (fun j => if j < ns then Value.ref (b + 10 + j) else .null)).set ns (.ref (b + 10 + ns)))) := by
  obtain ⟨r1, r2, r3, r4, r5, r6, r7, r8⟩ := R
  have q : ∀ {a : Nat} {c : zC}, h1[a]? = some c → a ≠ b + 10 + ns → h2[a]? = some c := fun e ne => s2.get (zapp e) ne
  refine ⟨by rw [List.length_set, hl2]; omega, zkeep (q r2 (by omega)) (by omega), zkeep (q r3 (by omega)) (by omega), zkeep (q r4 (by omega)) (by omega), fun j hj => zkeep (q (r5 j hj) (by omega)) (by omega), ?_, fun j hj => ?_, ((r8.app _).free2 s2 hl (fun a g => by omega)).free hl (by omega)⟩
  · rw [zset_same (q r6 (by omega)), zar_set]
    congr 2
    refine zar_congr fun k hk => ?_
    unfold zup
    by_cases e : k = ns
    · rw [if_pos e, if_pos (by omega), e]
    · rw [if_neg e]
      dsimp only
      by_cases e2 : k < ns
      · rw [if_pos e2, if_pos (by omega)]
      · rw [if_neg e2, if_neg (by omega)]
  · by_cases e : j = ns
    · subst e; exact zkeep e2 (by omega)
    · exact zkeep (q (r7 j (by omega)) (by omega)) (by omega)
theorem zCb.done (R : zCb b d 6 6 h0 h1) (hd : ∀ c, c < 64 → d c = 5) : zKo b f_C0 h1 := by
  obtain ⟨r1, r2, r3, r4, r5, r6, r7, r8⟩ := R
  refine ⟨fun i => b + 4 + i, fun i => b + 10 + i, r2, ?_, ?_, fun i hi => r5 i hi, ?_, fun i hi => r7 i hi, ⟨fun i hi => by dsimp only; omega, fun i j _ _ e => by dsimp only at e; omega⟩, ⟨fun i hi => by dsimp only; omega, fun i j _ _ e => by dsimp only at e; omega⟩⟩
  · rw [r3]
    congr 2
    exact zar_congr fun k hk => by rw [hd k hk]; rfl
  · rw [r4]
    congr 2
    all_goals exact zar_congr fun k hk => if_pos hk
  · rw [r6]
    congr 2
    all_goals exact zar_congr fun k hk => if_pos hk
end
section
variable {b q t : Nat} {h : zH}
theorem m_Linit (hz : zNR ≤ b) (hb : h[b]? = some (9, fs_X7)) : zMet yX7_init cX7_init 1 none 1 0 0 [.ref b] h (fun v h' => v = none ∧ h'[b]? = some (9, zLf f_L0) ∧ zSame (fun a => a = b) h h' ∧ h'.length = h.length) (fun _ _ => False) := by
  refine zMet.go (by decide +kernel) (Nat.le_of_ble_eq_true rfl) ?_
  intro X F B hnl hR hn
  refine z_aload_n F dX7_init_0 rfl rfl ?_
  refine z_objInit F dX7_init_1 ob_X7 im_yobj co_yobj hR (by decide) (by decide) ?_
  refine z_aload_n F dX7_init_4 rfl rfl ?_
  refine zi_bipush F dX7_init_5 (by decide) ?_
  refine z_putfield F fp_X7_9 dX7_init_7 (zmut_of F (by omega)) hb (by decide) (Nat.le_of_ble_eq_true rfl) ⟨rfl, rfl⟩ ?_
  exact Z.widen (by decide) (by decide) (z_return F B dX7_init_10 ⟨rfl, zset_same hb, zSame.rf.set rfl, List.length_set⟩)
theorem m_Sinit (hz : zNR ≤ b) (hb : h[b]? = some (10, fs_X8)) : zMet yX8_init cX8_init 1 none 1 0 0 [.ref b] h (fun v h' => v = none ∧ h'[b]? = some (10, zSf f_S0) ∧ zSame (fun a => a = b) h h' ∧ h'.length = h.length) (fun _ _ => False) := by
  refine zMet.go (by decide +kernel) (Nat.le_of_ble_eq_true rfl) ?_
  intro X F B hnl hR hn
  refine z_aload_n F dX8_init_0 rfl rfl ?_
  refine z_objInit F dX8_init_1 ob_X8 im_yobj co_yobj hR (by decide) (by decide) ?_
  refine z_aload_n F dX8_init_4 rfl rfl ?_
  refine zi_iconst F dX8_init_5 ?_
  refine z_putfield F fp_X8_9 dX8_init_6 (zmut_of F (by omega)) hb (by decide) (Nat.le_of_ble_eq_true rfl) ⟨rfl, rfl⟩ ?_
  exact Z.widen (by decide) (by decide) (z_return F B dX8_init_9 ⟨rfl, zset_same hb, zSame.rf.set rfl, List.length_set⟩)
theorem m_Cinit (hz : zNR ≤ b) (hb : h[b]? = some (5, fs_X2)) (hl : h.length = b + 1) : zMet yX2_init cX2_init 2 none 2 15 136 [.ref b] h (fun v h' => v = none ∧ zKo b f_C0 h' ∧ h'.length = b + 16 ∧ zSame (fun a => a = b) h h') (fun _ _ => False) := by
  refine zMet.go (by decide +kernel) (Nat.le_of_ble_eq_true rfl) ?_
  intro X F B hnl hR hn
  have I : X.2.2.2.2.2.2.2.2.1.name = "<init>" := hn
  have h78 : ∀ n i : Nat, n + i = 6 → ∀ h1 d, (∀ c, c < 64 → d c = 5) → zCb b d 6 i h h1 → Z X (9 + i) (106 + 5 * i) 80 [(1, .int (iI (i : Int))), (0, .ref b)] [] h1 := by
    intro n
    induction n with
    | zero =>
      intro i hi h1 d hd R
      have hi6 : i = 6 := by omega
      subst hi6
      refine z_iload_n F dX2_init_80 rfl rfl ?_
      refine zi_bipush F dX2_init_81 (by decide) ?_
      refine zi_icmp_ge (tgt := 105) F dX2_init_83 (by decide) (by first | omega | (dsimp only at *; omega)) (fun c83 => ?_) (fun c83 => False.elim (by first | omega | (dsimp only at *; omega)))
      exact Z.widen (by decide) (by decide) (z_return F B dX2_init_105 ⟨rfl, R.done hd, R.1, R.2.2.2.2.2.2.2⟩)
    | succ n ih =>
      intro i hi h1 d hd R
      have hi6 : i < 6 := by omega
      refine z_iload_n F dX2_init_80 rfl rfl ?_
      refine zi_bipush F dX2_init_81 (by decide) ?_
      refine zi_icmp_ge (tgt := 105) F dX2_init_83 (by decide) (by first | omega | (dsimp only at *; omega)) (fun c83 => False.elim (by first | omega | (dsimp only at *; omega))) (fun c83 => ?_)
      refine z_aload_n F dX2_init_86 rfl rfl ?_
      refine z_getfield F fl_X2_23 dX2_init_87 R.2.1 (by decide) rfl ?_
      refine z_iload_n F dX2_init_90 rfl rfl ?_
      refine zi_newW (a := (b + 10 + i)) F nw_X2_21 dX2_init_91 fg_X8 (by have := R.1; omega) (w := 5) rfl (by rw [hR]; show _ ≤ 15; omega) (by rw [hR]; show _ ≤ 136; omega) ?_
      refine z_dup F dX2_init_94 rfl ?_
      refine z_callIN F B cal_yX8_init (m_Sinit (by omega) (znewc (by have := R.1; omega))) dX2_init_95 rfl rfl (Nat.le_of_ble_eq_true rfl) (by decide) (by omega) (by omega) ml_X2_28 im_yX8_init rfl (fun v hX qX => ?_) (fun C h1 q => q.elim)
      obtain ⟨rfl, e2, s2, l2⟩ := qX
      rw [zlen1 (show h1.length = b + 10 + i by have := R.1; omega)] at l2
      have R2 := R.si hl hi6 e2 s2 l2
      refine zi_aastore (i := i) F dX2_init_98 (zmut_of F (by omega)) (zmut_of F (by omega)) (s2.get (zapp R.2.2.2.2.2.1) (by omega)) (by decide) (by decide) e2 (by decide) rfl rfl rfl (by rw [zar_len]; omega) ?_
      refine zi_iinc F dX2_init_99 rfl rfl (hnl _ rfl) ?_
      refine z_goto (tgt := 80) F dX2_init_102 (by decide) ?_
      exact Z.keys [1, 0] rfl (ih (i + 1) (by omega) _ d hd R2)
  have h51 : ∀ n i : Nat, n + i = 6 → ∀ h1 d, (∀ c, c < 64 → d c = 5) → zCb b d i 0 h h1 → Z X (3 + i) (76 + 5 * i) 53 [(1, .int (iI (i : Int))), (0, .ref b)] [] h1 := by
    intro n
    induction n with
    | zero =>
      intro i hi h1 d hd R
      have hi6 : i = 6 := by omega
      subst hi6
      refine z_iload_n F dX2_init_53 rfl rfl ?_
      refine zi_bipush F dX2_init_54 (by decide) ?_
      refine zi_icmp_ge (tgt := 78) F dX2_init_56 (by decide) (by first | omega | (dsimp only at *; omega)) (fun c56 => ?_) (fun c56 => False.elim (by first | omega | (dsimp only at *; omega)))
      refine zi_iconst F dX2_init_78 ?_
      refine z_istore_n F dX2_init_79 rfl rfl (hnl _ rfl) ?_
      exact Z.keys [1, 0] rfl (h78 6 0 rfl h1 d hd R)
    | succ n ih =>
      intro i hi h1 d hd R
      have hi6 : i < 6 := by omega
      refine z_iload_n F dX2_init_53 rfl rfl ?_
      refine zi_bipush F dX2_init_54 (by decide) ?_
      refine zi_icmp_ge (tgt := 78) F dX2_init_56 (by decide) (by first | omega | (dsimp only at *; omega)) (fun c56 => False.elim (by first | omega | (dsimp only at *; omega))) (fun c56 => ?_)
      refine z_aload_n F dX2_init_59 rfl rfl ?_
      refine z_getfield F fl_X2_17 dX2_init_60 R.2.1 (by decide) rfl ?_
      refine z_iload_n F dX2_init_63 rfl rfl ?_
      refine zi_newW (a := (b + 4 + i)) F nw_X2_15 dX2_init_64 fg_X7 R.1 (w := 5) rfl (by rw [hR]; show _ ≤ 15; omega) (by rw [hR]; show _ ≤ 136; omega) ?_
      refine z_dup F dX2_init_67 rfl ?_
      refine z_callIN F B cal_yX7_init (m_Linit (by omega) (znewc R.1)) dX2_init_68 rfl rfl (Nat.le_of_ble_eq_true rfl) (by decide) (by omega) (by omega) ml_X2_27 im_yX7_init rfl (fun v hX qX => ?_) (fun C h1 q => q.elim)
      obtain ⟨rfl, e2, s2, l2⟩ := qX
      rw [zlen1 R.1] at l2
      have R2 := R.li hl hi6 e2 s2 l2
      refine zi_aastore (i := i) F dX2_init_71 (zmut_of F (by omega)) (zmut_of F (by omega)) (s2.get (zapp R.2.2.2.1) (by omega)) (by decide) (by decide) e2 (by decide) rfl rfl rfl (by rw [zar_len]; omega) ?_
      refine zi_iinc F dX2_init_72 rfl rfl (hnl _ rfl) ?_
      refine z_goto (tgt := 53) F dX2_init_75 (by decide) ?_
      exact Z.keys [1, 0] rfl (ih (i + 1) (by omega) _ d hd R2)
  have h32 : ∀ n i : Nat, n + i = 64 → ∀ h1 d, (∀ c, c < i → d c = 5) → zCb b d 0 0 h h1 → Z X 3 76 32 [(1, .int (iI (i : Int))), (0, .ref b)] [] h1 := by
    intro n
    induction n with
    | zero =>
      intro i hi h1 d hd R
      have hi6 : i = 64 := by omega
      subst hi6
      refine z_iload_n F dX2_init_32 rfl rfl ?_
      refine zi_bipush F dX2_init_33 (by decide) ?_
      refine zi_icmp_ge (tgt := 51) F dX2_init_35 (by decide) (by first | omega | (dsimp only at *; omega)) (fun c35 => ?_) (fun c35 => False.elim (by first | omega | (dsimp only at *; omega)))
      refine zi_iconst F dX2_init_51 ?_
      refine z_istore_n F dX2_init_52 rfl rfl (hnl _ rfl) ?_
      exact Z.keys [1, 0] rfl (h51 6 0 rfl h1 d hd R)
    | succ n ih =>
      intro i hi h1 d hd R
      have hi6 : i < 64 := by omega
      refine z_iload_n F dX2_init_32 rfl rfl ?_
      refine zi_bipush F dX2_init_33 (by decide) ?_
      refine zi_icmp_ge (tgt := 51) F dX2_init_35 (by decide) (by first | omega | (dsimp only at *; omega)) (fun c35 => False.elim (by first | omega | (dsimp only at *; omega))) (fun c35 => ?_)
      refine z_aload_n F dX2_init_38 rfl rfl ?_
      refine z_getfield F fl_X2_9 dX2_init_39 R.2.1 (by decide) rfl ?_
      refine z_iload_n F dX2_init_42 rfl rfl ?_
      refine zi_iconst F dX2_init_43 ?_
      refine zi_iastore (i := i) F dX2_init_44 (zmut_of F (by omega)) R.2.2.1 rfl (by rw [zar_len]; omega) ?_
      refine zi_iinc F dX2_init_45 rfl rfl (hnl _ rfl) ?_
      refine z_goto (tgt := 32) F dX2_init_48 (by decide) ?_
      exact Z.keys [1, 0] rfl (ih (i + 1) (by omega) _ _ (fun c hc => by unfold zup; split; rfl; exact hd c (by omega)) (R.dep hl i))
  refine z_aload_n F dX2_init_0 rfl rfl ?_
  refine z_objInit F dX2_init_1 ob_X2 im_yobj co_yobj hR (by decide) (by decide) ?_
  refine z_aload_n F dX2_init_4 rfl rfl ?_
  refine zi_bipush F dX2_init_5 (by decide) ?_
  refine zi_newarray (a := (b + 1)) (m := 64) (kd := 100) (dv := .int 0) F dX2_init_7 ac_int (by decide) (by decide) rfl rfl (by decide) rfl (by decide) hl rfl (by decide) (by rw [hR]; show _ ≤ 15; omega) (by rw [hR]; show _ ≤ 136; omega) ?_
  refine z_putfieldF F I fp_X2_9 dX2_init_9 (zmut_of F (by omega)) (zapp hb) (by decide) (Nat.le_of_ble_eq_true rfl) ⟨rfl, rfl⟩ ?_
  refine z_aload_n F dX2_init_12 rfl rfl ?_
  refine zi_bipush F dX2_init_13 (by decide) ?_
  refine zi_anewarray (a := (b + 2)) (m := 6) (kd := 105) F dX2_init_15 cl_X2_15 (by decide) (by decide) (by decide) rfl (zlens (zlen1 hl)) rfl (by decide) (by rw [hR]; show _ ≤ 15; omega) (by rw [hR]; show _ ≤ 136; omega) ?_
  refine z_putfieldF F I fp_X2_17 dX2_init_18 (zmut_of F (by omega)) (zapp (zset_same (zapp hb))) (by decide) (Nat.le_of_ble_eq_true rfl) ⟨rfl, rfl⟩ ?_
  refine z_aload_n F dX2_init_21 rfl rfl ?_
  refine zi_bipush F dX2_init_22 (by decide) ?_
  refine zi_anewarray (a := (b + 3)) (m := 6) (kd := 106) F dX2_init_24 cl_X2_21 (by decide) (by decide) (by decide) rfl (zlens (zlen1 (zlens (zlen1 hl)))) rfl (by decide) (by rw [hR]; show _ ≤ 15; omega) (by rw [hR]; show _ ≤ 136; omega) ?_
  refine z_putfieldF F I fp_X2_23 dX2_init_27 (zmut_of F (by omega)) (zapp (zset_same (zapp (zset_same (zapp hb))))) (by decide) (Nat.le_of_ble_eq_true rfl) ⟨rfl, rfl⟩ ?_
  refine zi_iconst F dX2_init_30 ?_
  refine z_istore_n F dX2_init_31 rfl rfl (hnl _ rfl) ?_
  refine Z.keys [1, 0] rfl (h32 64 0 rfl _ (fun _ => 0) (fun c hc => absurd hc (Nat.not_lt_zero _)) ?_)
  refine ⟨zlens (zlen1 (zlens (zlen1 (zlens (zlen1 hl))))), zset_same (zapp (zset_same (zapp (zset_same (zapp hb))))), zkeep (zapp (zkeep (zapp (zkeep (znewc hl) (by omega))) (by omega))) (by omega), zkeep (zapp (zkeep (znewc (zlens (zlen1 hl))) (by omega))) (by omega), fun j hj => absurd hj (Nat.not_lt_zero _), zkeep (znewc (zlens (zlen1 (zlens (zlen1 hl))))) (by omega), fun j hj => absurd hj (Nat.not_lt_zero _), ((((((zSame.rf (S := fun a => a = b)).app _).set rfl).app _).set rfl).app _).set rfl⟩
end
