/-! calls of an inherited private method and of super's; a builder whose line never outgrows its first room -/
theorem zsel_priv {C : String} {y0 y : MethodName} {s : State} {args : Array Value} (hyy : y0.cls = y.cls) (hy : y.cls ≠ "java/lang/invoke/MethodHandle" ∧ y.cls ≠ "java/lang/invoke/VarHandle") (h0 : (Cond.selects C y0 y0).before args s = true) (hpriv : (Cond.privateMethod y).before args s = true) (hinst : (Cond.instanceMethod y).before args s = true) : (Cond.selects C y y).before args s = true := by
  obtain ⟨c, r0, m, hc, hf0, hn0, hs0, mk0, hk0, hni⟩ := Cond.selects_spec h0
  obtain ⟨mk, methM, hnamed, hmethM, -, -⟩ := Cond.instanceMethod_spec hinst
  have hfound : s.methodFound? y.cls y.name y.desc = some mk := State.methodFound?_of_named hnamed hy
  have h2 := findClass_of_methodNamed hn0
  rw [hyy] at h2
  have hcls : mk.cls = m.cls := Option.some.inj ((findClass_of_methodNamed hnamed).symm.trans h2)
  have hsel : selectMethod {} s.vm c mk = .method mk := selectMethod_private hmethM (Cond.privateMethod_at hpriv mk methM hnamed hmethM)
  simp only [Cond.before, Cond.holds, Cond.value, hc, hfound, hnamed, hsel, hcls, hk0]
  simp
  exact hni
section ZW
variable {X : zX} {cc : ByteArray} {own : String} {k n pc d mc ms : Nat} {ls : zL} {st : List Value} {h : zH} {P : Option Value → zH → Prop} {E : String → zH → Prop}
theorem z_callVg {y : MethodName} {c2 : ByteArray} {maxL2 np d2 mc2 ms2 index b : Nat} {ret ret2 : Option FieldType} {as rest : List Value} {P2 : Option Value → zH → Prop} {E2 : String → zH → Prop} (F : zF zT zN X cc own) (B : zB X d mc ms ret P E) (C : zCal y c2 maxL2 ret2 np) (M : zMet y c2 maxL2 ret2 d2 mc2 ms2 (.ref b :: as) h P2 E2) (hd : decode cc pc = .ok (.invokevirtual index, 3)) (hst : st = as.reverse ++ .ref b :: rest) (hn : as.length = np) (hre : (rest.map (fun v => v.category)).sum ≤ 8) (hd2 : d2 + 1 ≤ d) (hmc : k + mc2 ≤ mc) (hms : n + ms2 ≤ ms) (hlk : Cond.methodLink own index y ∈ zT) (hin : Cond.instanceMethod y ∈ zT) {ci : Nat} {fs : List Value} {r : vw_C} (hse : ∀ (s : State) (args : Array Value), (∀ w ∈ zT, w.before args s = true) → (Cond.selects r.1 y y).before args s = true) (hcr : h[b]? = some (ci, fs)) (hci : ci < 90) (hcr2 : zCl[ci]? = some r) (K : ∀ v h', P2 v h' → Z X (k + mc2) (n + ms2) (pc + 3) ls (v.toList ++ rest) h') (KX : ∀ C h', E2 C h' → E C h') : Z X k n pc ls st h := by
  obtain ⟨p, l, e, R, s, m, args, below, meth, c, Q, g, nL⟩ := X
  have F0' := F
  obtain ⟨hx, hb, hml, hown, hts, hnw, hK, hO, hg, hlo, htr, hex⟩ := F
  obtain ⟨hR, rfl, hr, hxt⟩ := B
  obtain ⟨c1, c3, c4, c5⟩ := C
  subst hR
  refine z_core (mc2 := mc2) (ms2 := ms2) (rest := rest) (P2 := P2) (E2 := E2) (a := ((.ref b :: as).map (zv g)).toArray) (fun la H locs hla hP hS => ?_) K (fun C h' he la H locs q ce hla hP hS hc hv hcl => zX_out hxt hlo (KX C h' he) hP hS hc hv hcl hmc hms)
  subst hst
  refine vx_runV (C := r.1) (As := as.map (zv g)) ⟨hx, hb, hml, hown, hts⟩ (M l g htr) ⟨(callB_of np hts (zW_good c1) rfl rfl rfl (hts _ c3) (hts _ hlk) c4 (zRm_ok hd2 c5)), hts _ hin, hse s args hts⟩ ⟨zWld_blind, zRecv hP hS hK hO hcr hci hcr2, fun U hU hW => ⟨rfl, zWld_to hK hO hg hnw hex hP hS hU hW⟩⟩ rfl (by rw [List.length_map]; exact hn) hla.1 (by simp [zv]) (by show 2 * 0 + _ ≤ 8; rw [Nat.mul_zero, Nat.zero_add]; exact zrest_ok hre) hd ⟨hmc, hms⟩
theorem z_callSU {y : MethodName} {c2 : ByteArray} {maxL2 np d2 mc2 ms2 index b : Nat} {ret ret2 : Option FieldType} {as rest : List Value} {P2 : Option Value → zH → Prop} {E2 : String → zH → Prop} (F : zF zT zN X cc own) (B : zB X d mc ms ret P E) (C : zCal y c2 maxL2 ret2 np) (M : zMet y c2 maxL2 ret2 d2 mc2 ms2 (.ref b :: as) h P2 E2) (hd : decode cc pc = .ok (.invokespecial index, 3)) (hst : st = as.reverse ++ .ref b :: rest) (hn : as.length = np) (hre : (rest.map (fun v => v.category)).sum ≤ 8) (hd2 : d2 + 1 ≤ d) (hmc : k + mc2 ≤ mc) (hms : n + ms2 ≤ ms) (hlk : Cond.methodLink own index y ∈ zT) (hsm : Cond.sameMethod y.cls y.cls y.name y.desc ∈ zT) (hsp : Cond.superclass own y.cls ∈ zT) (hin : Cond.instanceMethod y ∈ zT) (hni : y.name ≠ "<init>") {ci : Nat} {fs : List Value} {r : vw_C} (hcr : h[b]? = some (ci, fs)) (hci : ci < 90) (hcr2 : zCl[ci]? = some r) (K : ∀ v h', P2 v h' → Z X (k + mc2) (n + ms2) (pc + 3) ls (v.toList ++ rest) h') (KX : ∀ C h', E2 C h' → E C h') : Z X k n pc ls st h := by
  obtain ⟨p, l, e, R, s, m, args, below, meth, c, Q, g, nL⟩ := X
  have F0' := F
  obtain ⟨hx, hb, hml, hown, hts, hnw, hK, hO, hg, hlo, htr, hex⟩ := F
  obtain ⟨hR, rfl, hr, hxt⟩ := B
  obtain ⟨c1, c3, c4, c5⟩ := C
  subst hR
  refine z_core (mc2 := mc2) (ms2 := ms2) (rest := rest) (P2 := P2) (E2 := E2) (a := ((.ref b :: as).map (zv g)).toArray) (fun la H locs hla hP hS => ?_) K (fun C h' he la H locs q ce hla hP hS hc hv hcl => zX_out hxt hlo (KX C h' he) hP hS hc hv hcl hmc hms)
  subst hst
  have hG : GoodIn zT (va_wsSU own index y (zW y c2 maxL2 ret2)) := fun w hw => by
    rcases List.mem_append.mp hw with h9 | h9
    · have h8 : w ∈ zT := by
        simp only [List.mem_cons, List.not_mem_nil, or_false] at h9
        rcases h9 with h9 | h9 | h9 | h9 | h9 <;> rw [h9]
        · exact hlk
        · exact hsm
        · exact hsp
        · exact hin
        · exact c3
      exact ⟨h8, good_of_word (List.mem_filter.mp h8).2⟩
    · exact zW_good c1 w h9
  refine vx_runSU (C := r.1) (hK.1 ci r hcr2).2 (As := as.map (zv g)) ⟨hx, hb, hml, hown, hts⟩ (M l g htr) (va_cwSU np hts hG rfl rfl rfl ⟨hni, c4.2.2⟩ (zRm_ok hd2 c5)) ⟨zWld_blind, zRecv hP hS hK hO hcr hci hcr2, fun U hU hW => ⟨rfl, zWld_to hK hO hg hnw hex hP hS hU hW⟩⟩ rfl (by rw [List.length_map]; exact hn) hla.1 (by simp [zv]) (by show 2 * 0 + _ ≤ 8; rw [Nat.mul_zero, Nat.zero_add]; exact zrest_ok hre) hd ⟨hmc, hms⟩
end ZW
theorem zs_ens : Cond.selects "java/lang/StringBuilder" yJ5_ensureCapacityInternal_d00df yJ5_ensureCapacityInternal_d00df ∈ zT := zT_i 1618 (by decide +kernel) (by decide +kernel)
theorem zs_lat : Cond.selects "java/lang/StringBuilder" yJ5_isLatin1_aae02 yJ5_isLatin1_aae02 ∈ zT := zT_i 1339 (by decide +kernel) (by decide +kernel)
theorem zs_sup : Cond.superclass RJ4 RJ5 ∈ zT := zT_i 317 (by decide +kernel) (by decide +kernel)
theorem sm_setLength : Cond.sameMethod yJ5_setLength_d00df.cls yJ5_setLength_d00df.cls yJ5_setLength_d00df.name yJ5_setLength_d00df.desc ∈ zT := zT_i 1542 (by decide +kernel) (by decide +kernel)
theorem sm_append_c97b9 : Cond.sameMethod yJ5_append_c97b9.cls yJ5_append_c97b9.cls yJ5_append_c97b9.name yJ5_append_c97b9.desc ∈ zT := zT_i 1550 (by decide +kernel) (by decide +kernel)
theorem sm_append_3fe6f : Cond.sameMethod yJ5_append_3fe6f.cls yJ5_append_3fe6f.cls yJ5_append_3fe6f.name yJ5_append_3fe6f.desc ∈ zT := zT_i 1551 (by decide +kernel) (by decide +kernel)
theorem sm_length : Cond.sameMethod yJ5_length_8abf5.cls yJ5_length_8abf5.cls yJ5_length_8abf5.name yJ5_length_8abf5.desc ∈ zT := zT_i 1435 (by decide +kernel) (by decide +kernel)
theorem se_ens (s : State) (args : Array Value) (ht : ∀ w ∈ zT, w.before args s = true) : (Cond.selects "java/lang/StringBuilder" yJ5_ensureCapacityInternal_d00df yJ5_ensureCapacityInternal_d00df).before args s = true := ht _ zs_ens
theorem se_lat (s : State) (args : Array Value) (ht : ∀ w ∈ zT, w.before args s = true) : (Cond.selects "java/lang/StringBuilder" yJ5_isLatin1_aae02 yJ5_isLatin1_aae02).before args s = true := ht _ zs_lat
theorem gs_J6_87 : zGs RJ6 87 (.ref 11) := ⟨"java/lang/Integer", "DigitTens", "[B", List.mem_of_getElem? (i := 5) rfl, zT_i 1406 (by decide +kernel) (by decide +kernel)⟩
/-- the line: cnt signs of at most 16 -/
def zLc (a cnt : Nat) (h : zH) : Prop := ∃ (v mb m : Nat) (f : Nat → Int32), a + 1 ≤ v ∧ h[a]? = some (1, [.ref v, .int (iI 0), .int (iI (mb : Int)), .int (iI (cnt : Int))]) ∧ h[v]? = some (104, zar m (fun j => .int (f j))) ∧ cnt ≤ m ∧ 16 ≤ m ∧ m ≤ 65536
theorem zLc.ln {a cnt : Nat} {h : zH} (R : zLc a cnt h) : zLn a h := by
  obtain ⟨v, mb, m, f, h1, h2, h3, h4⟩ := R
  exact ⟨v, mb, cnt, m, f, h1, h2, h3, h4⟩
theorem zLn.lc {a : Nat} {h : zH} (R : zLn a h) : ∃ cnt, zLc a cnt h := by
  obtain ⟨v, mb, cnt, m, f, h1, h2, h3, h4⟩ := R
  exact ⟨cnt, v, mb, m, f, h1, h2, h3, h4⟩
theorem zLc.ob {a cnt : Nat} {h : zH} (R : zLc a cnt h) : ∃ fs, h[a]? = some (1, fs) := by
  obtain ⟨v, mb, m, f, h1, h2, h3, h4⟩ := R
  exact ⟨_, h2⟩
/-- from a on -/
def zFrom (a q : Nat) : Prop := a ≤ q
section
variable {a cnt v mb m : Nat} {f : Nat → Int32} {h : zH}
theorem m_sbLatin (L : zLc a cnt h) : zMet yJ5_isLatin1_aae02 cJ5_isLatin1_aae02 1 (some .boolean) 1 0 0 [.ref a] h (fun v h' => v = some (.int (iI (1))) ∧ h' = h) (fun _ _ => False) := by
  refine zMet.go (by decide +kernel) (Nat.le_of_ble_eq_true rfl) ?_
  intro X F B hnl hR hn
  obtain ⟨v, mb, m, f, h1, h2, h3, h4, h5, h6⟩ := L
  refine z_getstatic F gs_J5_18 dJ5_isLatin1_aae02_0 ?_
  refine zi_if_eq (tgt := 17) F dJ5_isLatin1_aae02_3 (by decide) (by first | omega | (dsimp only at *; omega)) (fun c3 => False.elim (by first | omega | (dsimp only at *; omega))) (fun c3 => ?_)
  refine z_aload_n F dJ5_isLatin1_aae02_6 rfl rfl ?_
  refine z_getfield F fl_J5_22 dJ5_isLatin1_aae02_7 h2 (by decide) rfl ?_
  refine zi_if_ne (tgt := 17) F dJ5_isLatin1_aae02_10 (by decide) (by first | omega | (dsimp only at *; omega)) (fun c10 => False.elim (by first | omega | (dsimp only at *; omega))) (fun c10 => ?_)
  refine zi_iconst F dJ5_isLatin1_aae02_13 ?_
  refine z_goto (tgt := 18) F dJ5_isLatin1_aae02_14 (by decide) ?_
  exact Z.widen (by decide) (by decide) (z_ireturn F rfl B dJ5_isLatin1_aae02_18 ⟨rfl, rfl⟩)
theorem m_sbEnsure {n : Nat} (L : zLc a cnt h) (hn16 : n ≤ 16) : zMet yJ5_ensureCapacityInternal_d00df cJ5_ensureCapacityInternal_d00df 3 none 1 0 0 [.ref a, .int (iI (n : Int))] h (fun v h' => v = none ∧ h' = h) (fun _ _ => False) := by
  refine zMet.go (by decide +kernel) (Nat.le_of_ble_eq_true rfl) ?_
  intro X F B hnl hR hn
  obtain ⟨v, mb, m, f, h1, h2, h3, h4, h5, h6⟩ := L
  refine z_aload_n F dJ5_ensureCapacityInternal_d00df_0 rfl rfl ?_
  refine z_getfield F fl_J5_15 dJ5_ensureCapacityInternal_d00df_1 h2 (by decide) rfl ?_
  refine zi_alen F dJ5_ensureCapacityInternal_d00df_4 h3 (by decide) (by decide) (zar_len _ _) ?_
  refine z_aload_n F dJ5_ensureCapacityInternal_d00df_5 rfl rfl ?_
  refine z_getfield F fl_J5_22 dJ5_ensureCapacityInternal_d00df_6 h2 (by decide) rfl ?_
  refine z_ishr F dJ5_ensureCapacityInternal_d00df_9 ?_
  rw [ishr0]
  refine z_istore_n F dJ5_ensureCapacityInternal_d00df_10 rfl rfl (hnl _ rfl) ?_
  refine z_iload_n F dJ5_ensureCapacityInternal_d00df_11 rfl rfl ?_
  refine z_iload_n F dJ5_ensureCapacityInternal_d00df_12 rfl rfl ?_
  refine zi_isub F dJ5_ensureCapacityInternal_d00df_13 ?_
  refine zi_if_le (tgt := 38) F dJ5_ensureCapacityInternal_d00df_14 (by decide) (by first | omega | (dsimp only at *; omega)) (fun c14 => ?_) (fun c14 => False.elim (by first | omega | (dsimp only at *; omega)))
  exact Z.widen (by decide) (by decide) (z_return F B dJ5_ensureCapacityInternal_d00df_38 ⟨rfl, rfl⟩)
theorem m_sbSet (hz : zNR ≤ a) (L : zLc a cnt h) (hc16 : cnt ≤ 65536) : zMet yJ5_setLength_d00df cJ5_setLength_d00df 2 none 2 0 0 [.ref a, .int (iI 0)] h (fun v h' => v = none ∧ zLc a 0 h' ∧ zSame (zFrom a) h h') (fun _ _ => False) := by
  refine zMet.go (by decide +kernel) (Nat.le_of_ble_eq_true rfl) ?_
  intro X F B hnl hR hn
  have L0 := L
  obtain ⟨v, mb, m, f, h1, h2, h3, h4, h5, h6⟩ := L
  refine z_iload_n F dJ5_setLength_d00df_0 rfl rfl ?_
  refine zi_if_ge (tgt := 13) F dJ5_setLength_d00df_1 (by decide) (by first | omega | (dsimp only at *; omega)) (fun c1 => ?_) (fun c1 => False.elim (by first | omega | (dsimp only at *; omega)))
  refine z_aload_n F dJ5_setLength_d00df_13 rfl rfl ?_
  refine z_iload_n F dJ5_setLength_d00df_14 rfl rfl ?_
  refine z_callVg (r := (RJ4, TJ4, 4)) F B cal_yJ5_ensureCapacityInternal_d00df (m_sbEnsure (n := 0) L0 (by decide)) dJ5_setLength_d00df_15 rfl rfl (Nat.le_of_ble_eq_true rfl) (by decide) (by decide) (by decide) ml_J5_100 im_yJ5_ensureCapacityInternal_d00df se_ens h2 (by decide) rfl (fun v hX qX => ?_) (fun C h1 q => q.elim)
  obtain ⟨rfl, qX⟩ := qX
  rw [qX]
  clear qX hX
  refine z_aload_n F dJ5_setLength_d00df_18 rfl rfl ?_
  refine z_getfield F fl_J5_79 dJ5_setLength_d00df_19 h2 (by decide) rfl ?_
  refine z_iload_n F dJ5_setLength_d00df_22 rfl rfl ?_
  refine zi_icmp_ge (tgt := 63) F dJ5_setLength_d00df_23 (by decide) (by first | omega | (dsimp only at *; omega)) (fun c23 => ?_) (fun c23 => False.elim (by first | omega | (dsimp only at *; omega)))
  refine z_aload_n F dJ5_setLength_d00df_63 rfl rfl ?_
  refine z_getfield F fl_J5_79 dJ5_setLength_d00df_64 h2 (by decide) rfl ?_
  refine z_iload_n F dJ5_setLength_d00df_67 rfl rfl ?_
  refine zi_icmp_le (tgt := 76) F dJ5_setLength_d00df_68 (by decide) (by first | omega | (dsimp only at *; omega)) (fun c68 => ?_) (fun c68 => ?_)
  · refine z_aload_n F dJ5_setLength_d00df_76 rfl rfl ?_
    refine z_iload_n F dJ5_setLength_d00df_77 rfl rfl ?_
    skip
    refine z_putfield F fp_J5_79 dJ5_setLength_d00df_78 (zmut_of F (by omega)) (by first | exact h2 | exact zset_same h2) (by decide) (Nat.le_of_ble_eq_true rfl) ⟨rfl, rfl⟩ ?_
    exact Z.widen (by decide) (by decide) (z_return F B dJ5_setLength_d00df_81 ⟨rfl, (by first | exact ⟨v, 1, m, f, h1, by rw [List.set_set]; exact zset_same h2, zkeep (zkeep h3 (by omega)) (by omega), Nat.zero_le _, h5, h6⟩ | exact ⟨v, mb, m, f, h1, zset_same h2, zkeep h3 (by omega), Nat.zero_le _, h5, h6⟩), by first | exact (zSame.rf.set (Nat.le_refl a)).set (Nat.le_refl a) | exact zSame.rf.set (Nat.le_refl a)⟩)
  · refine z_aload_n F dJ5_setLength_d00df_71 rfl rfl ?_
    refine zi_iconst F dJ5_setLength_d00df_72 ?_
    refine z_putfield F fp_J5_73 dJ5_setLength_d00df_73 (zmut_of F (by omega)) h2 (by decide) (Nat.le_of_ble_eq_true rfl) ⟨rfl, rfl⟩ ?_
    refine z_aload_n F dJ5_setLength_d00df_76 rfl rfl ?_
    refine z_iload_n F dJ5_setLength_d00df_77 rfl rfl ?_
    skip
    refine z_putfield F fp_J5_79 dJ5_setLength_d00df_78 (zmut_of F (by omega)) (by first | exact h2 | exact zset_same h2) (by decide) (Nat.le_of_ble_eq_true rfl) ⟨rfl, rfl⟩ ?_
    exact Z.widen (by decide) (by decide) (z_return F B dJ5_setLength_d00df_81 ⟨rfl, (by first | exact ⟨v, 1, m, f, h1, by rw [List.set_set]; exact zset_same h2, zkeep (zkeep h3 (by omega)) (by omega), Nat.zero_le _, h5, h6⟩ | exact ⟨v, mb, m, f, h1, zset_same h2, zkeep h3 (by omega), Nat.zero_le _, h5, h6⟩), by first | exact (zSame.rf.set (Nat.le_refl a)).set (Nat.le_refl a) | exact zSame.rf.set (Nat.le_refl a)⟩)
theorem m_sbSet4 (hz : zNR ≤ a) (L : zLc a cnt h) (hc16 : cnt ≤ 65536) : zMet yJ4_setLength_d00df cJ4_setLength_d00df 2 none 3 0 0 [.ref a, .int (iI 0)] h (fun v h' => v = none ∧ zLc a 0 h' ∧ zSame (zFrom a) h h') (fun _ _ => False) := by
  refine zMet.go (by decide +kernel) (Nat.le_of_ble_eq_true rfl) ?_
  intro X F B hnl hR hn
  obtain ⟨fs, hob⟩ := L.ob
  refine z_aload_n F dJ4_setLength_d00df_0 rfl rfl ?_
  refine z_iload_n F dJ4_setLength_d00df_1 rfl rfl ?_
  refine z_callSU F B cal_yJ5_setLength_d00df (m_sbSet hz L hc16) dJ4_setLength_d00df_2 rfl rfl (Nat.le_of_ble_eq_true rfl) (by decide) (by decide) (by decide) ml_J4_333 sm_setLength zs_sup im_yJ5_setLength_d00df (by decide) hob (by decide) rfl (fun v hX qX => ?_) (fun C h1 q => q.elim)
  obtain ⟨rfl, L1, s1⟩ := qX
  exact Z.widen (by decide) (by decide) (z_return F B dJ4_setLength_d00df_5 ⟨rfl, L1, s1⟩)
theorem m_sbLen (L : zLc a cnt h) : zMet yJ5_length_8abf5 cJ5_length_8abf5 1 (some .int) 1 0 0 [.ref a] h (fun v h' => v = some (.int (iI ((cnt : Int)))) ∧ h' = h) (fun _ _ => False) := by
  refine zMet.go (by decide +kernel) (Nat.le_of_ble_eq_true rfl) ?_
  intro X F B hnl hR hn
  obtain ⟨v, mb, m, f, h1, h2, h3, h4, h5, h6⟩ := L
  refine z_aload_n F dJ5_length_8abf5_0 rfl rfl ?_
  refine z_getfield F fl_J5_79 dJ5_length_8abf5_1 h2 (by decide) rfl ?_
  exact Z.widen (by decide) (by decide) (z_ireturn F rfl B dJ5_length_8abf5_4 ⟨rfl, rfl⟩)
theorem m_sbLen4 (L : zLc a cnt h) : zMet yJ4_length_8abf5 cJ4_length_8abf5 1 (some .int) 2 0 0 [.ref a] h (fun v h' => v = some (.int (iI ((cnt : Int)))) ∧ h' = h) (fun _ _ => False) := by
  refine zMet.go (by decide +kernel) (Nat.le_of_ble_eq_true rfl) ?_
  intro X F B hnl hR hn
  obtain ⟨fs, hob⟩ := L.ob
  refine z_aload_n F dJ4_length_8abf5_0 rfl rfl ?_
  refine z_callSU F B cal_yJ5_length_8abf5 (m_sbLen L) dJ4_length_8abf5_1 rfl rfl (Nat.le_of_ble_eq_true rfl) (by decide) (by decide) (by decide) ml_J4_343 sm_length zs_sup im_yJ5_length_8abf5 (by decide) hob (by decide) rfl (fun v hX qX => ?_) (fun C h1 q => q.elim)
  obtain ⟨rfl, qX⟩ := qX
  rw [qX]
  clear qX hX
  exact Z.widen (by decide) (by decide) (z_ireturn F rfl B dJ4_length_8abf5_4 ⟨rfl, rfl⟩)
theorem m_canEncode {c : Int} (hc : 0 ≤ c ∧ c < 256) : zMet yJ1_canEncode_fc78d cJ1_canEncode_fc78d 1 (some .boolean) 1 0 0 [.int (iI c)] h (fun v h' => v = some (.int (iI (1))) ∧ h' = h) (fun _ _ => False) := by
  refine zMet.go (by decide +kernel) (Nat.le_of_ble_eq_true rfl) ?_
  intro X F B hnl hR hn
  refine z_iload_n F dJ1_canEncode_fc78d_0 rfl rfl ?_
  refine zi_sipush F dJ1_canEncode_fc78d_1 (by decide) ?_
  refine zi_icmp_gt (tgt := 11) F dJ1_canEncode_fc78d_4 (by decide) (by first | omega | (dsimp only at *; omega)) (fun c4 => False.elim (by first | omega | (dsimp only at *; omega))) (fun c4 => ?_)
  refine zi_iconst F dJ1_canEncode_fc78d_7 ?_
  refine z_goto (tgt := 12) F dJ1_canEncode_fc78d_8 (by decide) ?_
  exact Z.widen (by decide) (by decide) (z_ireturn F rfl B dJ1_canEncode_fc78d_12 ⟨rfl, rfl⟩)
theorem m_sbChar {c : Int} (hz : zNR ≤ a) (L : zLc a cnt h) (hc16 : cnt + 1 ≤ 16) (hc : 0 ≤ c ∧ c < 128) : zMet yJ5_append_3fe6f cJ5_append_3fe6f 2 (some (.object "java/lang/AbstractStringBuilder")) 2 0 0 [.ref a, .int (iI c)] h (fun v h' => v = some (.ref a) ∧ zLc a (cnt + 1) h' ∧ zSame (zFrom a) h h') (fun _ _ => False) := by
  refine zMet.go (by decide +kernel) (Nat.le_of_ble_eq_true rfl) ?_
  intro X F B hnl hR hn
  have L0 := L
  obtain ⟨v, mb, m, f, h1, h2, h3, h4, h5, h6⟩ := L
  refine z_aload_n F dJ5_append_3fe6f_0 rfl rfl ?_
  refine z_aload_n F dJ5_append_3fe6f_1 rfl rfl ?_
  refine z_getfield F fl_J5_79 dJ5_append_3fe6f_2 h2 (by decide) rfl ?_
  refine zi_iconst F dJ5_append_3fe6f_5 ?_
  refine zi_iadd F dJ5_append_3fe6f_6 ?_
  refine z_callVg (r := (RJ4, TJ4, 4)) F B cal_yJ5_ensureCapacityInternal_d00df (m_sbEnsure (n := cnt + 1) L0 hc16) dJ5_append_3fe6f_7 rfl rfl (Nat.le_of_ble_eq_true rfl) (by decide) (by decide) (by decide) ml_J5_100 im_yJ5_ensureCapacityInternal_d00df se_ens h2 (by decide) rfl (fun v hX qX => ?_) (fun C h1 q => q.elim)
  obtain ⟨rfl, qX⟩ := qX
  rw [qX]
  clear qX hX
  refine z_aload_n F dJ5_append_3fe6f_10 rfl rfl ?_
  refine z_callVg (r := (RJ4, TJ4, 4)) F B cal_yJ5_isLatin1_aae02 (m_sbLatin L0) dJ5_append_3fe6f_11 rfl rfl (Nat.le_of_ble_eq_true rfl) (by decide) (by decide) (by decide) ml_J5_83 im_yJ5_isLatin1_aae02 se_lat h2 (by decide) rfl (fun v hX qX => ?_) (fun C h1 q => q.elim)
  obtain ⟨rfl, qX⟩ := qX
  rw [qX]
  clear qX hX
  refine zi_if_eq (tgt := 45) F dJ5_append_3fe6f_14 (by decide) (by first | omega | (dsimp only at *; omega)) (fun c14 => False.elim (by first | omega | (dsimp only at *; omega))) (fun c14 => ?_)
  refine z_iload_n F dJ5_append_3fe6f_17 rfl rfl ?_
  refine z_callS F B cal_yJ1_canEncode_fc78d (m_canEncode ⟨hc.1, by omega⟩) dJ5_append_3fe6f_18 rfl rfl (Nat.le_of_ble_eq_true rfl) (by decide) (by decide) (by decide) ml_J5_191 st_yJ1_canEncode_fc78d (fun v hX qX => ?_) (fun C h1 q => q.elim)
  obtain ⟨rfl, qX⟩ := qX
  rw [qX]
  clear qX hX
  refine zi_if_eq (tgt := 45) F dJ5_append_3fe6f_21 (by decide) (by first | omega | (dsimp only at *; omega)) (fun c21 => False.elim (by first | omega | (dsimp only at *; omega))) (fun c21 => ?_)
  refine z_aload_n F dJ5_append_3fe6f_24 rfl rfl ?_
  refine z_getfield F fl_J5_15 dJ5_append_3fe6f_25 h2 (by decide) rfl ?_
  refine z_aload_n F dJ5_append_3fe6f_28 rfl rfl ?_
  refine z_dup F dJ5_append_3fe6f_29 rfl ?_
  refine z_getfield F fl_J5_79 dJ5_append_3fe6f_30 h2 (by decide) rfl ?_
  refine z_dup_x1 F dJ5_append_3fe6f_33 rfl rfl ?_
  refine zi_iconst F dJ5_append_3fe6f_34 ?_
  refine zi_iadd F dJ5_append_3fe6f_35 ?_
  refine z_putfield F fp_J5_79 dJ5_append_3fe6f_36 (zmut_of F (by omega)) h2 (by decide) (Nat.le_of_ble_eq_true rfl) ⟨rfl, rfl⟩ ?_
  refine z_iload_n F dJ5_append_3fe6f_39 rfl rfl ?_
  refine z_i2b F dJ5_append_3fe6f_40 rfl ?_
  refine zi_bastore (i := cnt) F dJ5_append_3fe6f_41 (zmut_of F (by omega)) (zkeep h3 (by omega)) rfl (by rw [zar_len]; omega) ?_
  rw [zar_set]
  refine z_goto (tgt := 75) F dJ5_append_3fe6f_42 (by decide) ?_
  refine z_aload_n F dJ5_append_3fe6f_75 rfl rfl ?_
  exact Z.widen (by decide) (by decide) (z_areturn F (Or.inl ⟨_, rfl⟩) B dJ5_append_3fe6f_76 ⟨rfl, ⟨v, mb, m, _, h1, zkeep (zset_same h2) (by omega), by have e9 := zset_same (c := (104, zar m (zup (fun j => Value.int (f j)) cnt (.int (vp_nar .byte (iI c).toInt8.toInt32))))) (zkeep (a := a) (c := (1, [Value.ref v, .int (iI 0), .int (iI (mb : Int)), .int (iI ((cnt + 1 : Nat) : Int))])) h3 (by omega)); exact e9.trans (by congr 2; exact zar_congr (g := fun j => Value.int (if j = cnt then vp_nar .byte (iI c).toInt8.toInt32 else f j)) fun k hk => by unfold zup; split <;> rfl), by omega, h5, h6⟩, (zSame.rf.set (Nat.le_refl a)).set (Nat.le_of_succ_le h1)⟩)
theorem m_sbChar4 {c : Int} (hz : zNR ≤ a) (L : zLc a cnt h) (hc16 : cnt + 1 ≤ 16) (hc : 0 ≤ c ∧ c < 128) : zMet yJ4_append_cf468 cJ4_append_cf468 2 (some (.object "java/lang/StringBuilder")) 3 0 0 [.ref a, .int (iI c)] h (fun v h' => v = some (.ref a) ∧ zLc a (cnt + 1) h' ∧ zSame (zFrom a) h h') (fun _ _ => False) := by
  refine zMet.go (by decide +kernel) (Nat.le_of_ble_eq_true rfl) ?_
  intro X F B hnl hR hn
  obtain ⟨fs, hob⟩ := L.ob
  refine z_aload_n F dJ4_append_cf468_0 rfl rfl ?_
  refine z_iload_n F dJ4_append_cf468_1 rfl rfl ?_
  refine z_callSU F B cal_yJ5_append_3fe6f (m_sbChar hz L hc16 hc) dJ4_append_cf468_2 rfl rfl (Nat.le_of_ble_eq_true rfl) (by decide) (by decide) (by decide) ml_J4_50 sm_append_3fe6f zs_sup im_yJ5_append_3fe6f (by decide) hob (by decide) rfl (fun v hX qX => ?_) (fun C h1 q => q.elim)
  obtain ⟨rfl, L1, s1⟩ := qX
  refine z_pop F dJ4_append_cf468_5 rfl ?_
  refine z_aload_n F dJ4_append_cf468_6 rfl rfl ?_
  exact Z.widen (by decide) (by decide) (z_areturn F (Or.inl ⟨_, rfl⟩) B dJ4_append_cf468_7 ⟨rfl, L1, s1⟩)
end
