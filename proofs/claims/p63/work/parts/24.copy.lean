/-! lights, ships and coasts are written: start, copyFrom -/
section
variable {a o : Nat} {h : zH}
theorem zin9 {x : Int} (h : 0 ≤ x ∧ x < 2147483648) : x = (x.toNat : Int) := (Int.toNat_of_nonneg h.1).symm
theorem m_lstart {l : zLt} {c r p : Nat} (ha : zNR ≤ a) (h1 : h[a]? = some (9, zLf l)) : zMet yX7_start cX7_start 4 none 1 0 0 [.ref a, .int (iI c), .int (iI r), .int (iI p)] h (fun v h' => v = none ∧ h' = h.set a (9, zLf (c, r, p, 0, 0))) (fun _ _ => False) := by
  refine zMet.go (by decide +kernel) (Nat.le_of_ble_eq_true rfl) ?_
  intro X F B hnl hR hn
  refine z_aload_n F dX7_start_0 rfl rfl ?_
  refine z_iload_n F dX7_start_1 rfl rfl ?_
  refine z_putfield F fp_X7_15 dX7_start_2 (zmut_of F (by omega)) (by assumption) (by decide) (Nat.le_of_ble_eq_true rfl) ⟨rfl, rfl⟩ ?_
  refine z_aload_n F dX7_start_5 rfl rfl ?_
  refine z_iload_n F dX7_start_6 rfl rfl ?_
  refine zi_putS F fp_X7_18 dX7_start_7 (zmut_of F (by omega)) (by assumption) (by decide) (Nat.le_of_ble_eq_true rfl) ⟨rfl, rfl⟩ ?_
  refine z_aload_n F dX7_start_10 rfl rfl ?_
  refine z_iload_n F dX7_start_11 rfl rfl ?_
  refine zi_putS F fp_X7_9 dX7_start_12 (zmut_of F (by omega)) (by assumption) (by decide) (Nat.le_of_ble_eq_true rfl) ⟨rfl, rfl⟩ ?_
  refine z_aload_n F dX7_start_15 rfl rfl ?_
  refine zi_iconst F dX7_start_16 ?_
  refine zi_putS F fp_X7_21 dX7_start_17 (zmut_of F (by omega)) (by assumption) (by decide) (Nat.le_of_ble_eq_true rfl) ⟨rfl, rfl⟩ ?_
  refine z_aload_n F dX7_start_20 rfl rfl ?_
  refine zi_iconst F dX7_start_21 ?_
  refine zi_putS F fp_X7_24 dX7_start_22 (zmut_of F (by omega)) (by assumption) (by decide) (Nat.le_of_ble_eq_true rfl) ⟨rfl, rfl⟩ ?_
  exact z_return F B dX7_start_25 ⟨rfl, rfl⟩
theorem m_sstart {s : zSp} {c r : Nat} (ha : zNR ≤ a) (h1 : h[a]? = some (10, zSf s)) : zMet yX8_start cX8_start 3 none 1 0 0 [.ref a, .int (iI c), .int (iI r)] h (fun v h' => v = none ∧ h' = h.set a (10, zSf (c, r, none, false, 0))) (fun _ _ => False) := by
  refine zMet.go (by decide +kernel) (Nat.le_of_ble_eq_true rfl) ?_
  intro X F B hnl hR hn
  refine z_aload_n F dX8_start_0 rfl rfl ?_
  refine z_iload_n F dX8_start_1 rfl rfl ?_
  refine z_putfield F fp_X8_15 dX8_start_2 (zmut_of F (by omega)) (by assumption) (by decide) (Nat.le_of_ble_eq_true rfl) ⟨rfl, rfl⟩ ?_
  refine z_aload_n F dX8_start_5 rfl rfl ?_
  refine z_iload_n F dX8_start_6 rfl rfl ?_
  refine zi_putS F fp_X8_18 dX8_start_7 (zmut_of F (by omega)) (by assumption) (by decide) (Nat.le_of_ble_eq_true rfl) ⟨rfl, rfl⟩ ?_
  refine z_aload_n F dX8_start_10 rfl rfl ?_
  refine zi_iconst F dX8_start_11 ?_
  refine zi_putS F fp_X8_9 dX8_start_12 (zmut_of F (by omega)) (by assumption) (by decide) (Nat.le_of_ble_eq_true rfl) ⟨rfl, rfl⟩ ?_
  refine z_aload_n F dX8_start_15 rfl rfl ?_
  refine zi_iconst F dX8_start_16 ?_
  refine zi_putS F fp_X8_21 dX8_start_17 (zmut_of F (by omega)) (by assumption) (by decide) (Nat.le_of_ble_eq_true rfl) ⟨rfl, rfl⟩ ?_
  refine z_aload_n F dX8_start_20 rfl rfl ?_
  refine zi_iconst F dX8_start_21 ?_
  refine zi_putS F fp_X8_25 dX8_start_22 (zmut_of F (by omega)) (by assumption) (by decide) (Nat.le_of_ble_eq_true rfl) ⟨rfl, rfl⟩ ?_
  exact z_return F B dX8_start_25 ⟨rfl, rfl⟩
theorem m_lcopy {l m : zLt} (ha : zNR ≤ a) (hne : a ≠ o) (h1 : h[a]? = some (9, zLf l)) (h2 : h[o]? = some (9, zLf m)) : zMet yX7_copyFrom cX7_copyFrom 2 none 1 0 0 [.ref a, .ref o] h (fun v h' => v = none ∧ h' = h.set a (9, zLf m)) (fun _ _ => False) := by
  refine zMet.go (by decide +kernel) (Nat.le_of_ble_eq_true rfl) ?_
  intro X F B hnl hR hn
  refine z_aload_n F dX7_copyFrom_0 rfl rfl ?_
  refine z_aload_n F dX7_copyFrom_1 rfl rfl ?_
  refine z_getfield F fl_X7_15 dX7_copyFrom_2 h2 (by decide) rfl ?_
  refine z_putfield F fp_X7_15 dX7_copyFrom_5 (zmut_of F (by omega)) (by assumption) (by decide) (Nat.le_of_ble_eq_true rfl) ⟨rfl, rfl⟩ ?_
  refine z_aload_n F dX7_copyFrom_8 rfl rfl ?_
  refine z_aload_n F dX7_copyFrom_9 rfl rfl ?_
  refine z_getfield F fl_X7_18 dX7_copyFrom_10 (zkeep h2 hne) (by decide) rfl ?_
  refine zi_putS F fp_X7_18 dX7_copyFrom_13 (zmut_of F (by omega)) (by assumption) (by decide) (Nat.le_of_ble_eq_true rfl) ⟨rfl, rfl⟩ ?_
  refine z_aload_n F dX7_copyFrom_16 rfl rfl ?_
  refine z_aload_n F dX7_copyFrom_17 rfl rfl ?_
  refine z_getfield F fl_X7_9 dX7_copyFrom_18 (zkeep h2 hne) (by decide) rfl ?_
  refine zi_putS F fp_X7_9 dX7_copyFrom_21 (zmut_of F (by omega)) (by assumption) (by decide) (Nat.le_of_ble_eq_true rfl) ⟨rfl, rfl⟩ ?_
  refine z_aload_n F dX7_copyFrom_24 rfl rfl ?_
  refine z_aload_n F dX7_copyFrom_25 rfl rfl ?_
  refine z_getfield F fl_X7_21 dX7_copyFrom_26 (zkeep h2 hne) (by decide) rfl ?_
  refine zi_putS F fp_X7_21 dX7_copyFrom_29 (zmut_of F (by omega)) (by assumption) (by decide) (Nat.le_of_ble_eq_true rfl) ⟨rfl, rfl⟩ ?_
  refine z_aload_n F dX7_copyFrom_32 rfl rfl ?_
  refine z_aload_n F dX7_copyFrom_33 rfl rfl ?_
  refine z_getfield F fl_X7_24 dX7_copyFrom_34 (zkeep h2 hne) (by decide) rfl ?_
  refine zi_putS F fp_X7_24 dX7_copyFrom_37 (zmut_of F (by omega)) (by assumption) (by decide) (Nat.le_of_ble_eq_true rfl) ⟨rfl, rfl⟩ ?_
  exact z_return F B dX7_copyFrom_40 ⟨rfl, rfl⟩
theorem m_scopy {l m : zSp} (ha : zNR ≤ a) (hne : a ≠ o) (h1 : h[a]? = some (10, zSf l)) (h2 : h[o]? = some (10, zSf m)) : zMet yX8_copyFrom cX8_copyFrom 2 none 1 0 0 [.ref a, .ref o] h (fun v h' => v = none ∧ h' = h.set a (10, zSf m)) (fun _ _ => False) := by
  refine zMet.go (by decide +kernel) (Nat.le_of_ble_eq_true rfl) ?_
  intro X F B hnl hR hn
  refine z_aload_n F dX8_copyFrom_0 rfl rfl ?_
  refine z_aload_n F dX8_copyFrom_1 rfl rfl ?_
  refine z_getfield F fl_X8_15 dX8_copyFrom_2 h2 (by decide) rfl ?_
  refine z_putfield F fp_X8_15 dX8_copyFrom_5 (zmut_of F (by omega)) (by assumption) (by decide) (Nat.le_of_ble_eq_true rfl) ⟨rfl, rfl⟩ ?_
  refine z_aload_n F dX8_copyFrom_8 rfl rfl ?_
  refine z_aload_n F dX8_copyFrom_9 rfl rfl ?_
  refine z_getfield F fl_X8_18 dX8_copyFrom_10 (zkeep h2 hne) (by decide) rfl ?_
  refine zi_putS F fp_X8_18 dX8_copyFrom_13 (zmut_of F (by omega)) (by assumption) (by decide) (Nat.le_of_ble_eq_true rfl) ⟨rfl, rfl⟩ ?_
  refine z_aload_n F dX8_copyFrom_16 rfl rfl ?_
  refine z_aload_n F dX8_copyFrom_17 rfl rfl ?_
  refine z_getfield F fl_X8_9 dX8_copyFrom_18 (zkeep h2 hne) (by decide) rfl ?_
  refine zi_putS F fp_X8_9 dX8_copyFrom_21 (zmut_of F (by omega)) (by assumption) (by decide) (Nat.le_of_ble_eq_true rfl) ⟨rfl, rfl⟩ ?_
  refine z_aload_n F dX8_copyFrom_24 rfl rfl ?_
  refine z_aload_n F dX8_copyFrom_25 rfl rfl ?_
  refine z_getfield F fl_X8_21 dX8_copyFrom_26 (zkeep h2 hne) (by decide) rfl ?_
  refine zi_putS F fp_X8_21 dX8_copyFrom_29 (zmut_of F (by omega)) (by assumption) (by decide) (Nat.le_of_ble_eq_true rfl) (zBo_fit _) ?_
  refine z_aload_n F dX8_copyFrom_32 rfl rfl ?_
  refine z_aload_n F dX8_copyFrom_33 rfl rfl ?_
  refine z_getfield F fl_X8_25 dX8_copyFrom_34 (zkeep h2 hne) (by decide) rfl ?_
  refine zi_putS F fp_X8_25 dX8_copyFrom_37 (zmut_of F (by omega)) (by assumption) (by decide) (Nat.le_of_ble_eq_true rfl) ⟨rfl, rfl⟩ ?_
  exact z_return F B dX8_copyFrom_40 ⟨rfl, rfl⟩
end
theorem zup_ext {α : Type} {f g : Nat → α} {i : Nat} (h : ∀ j, j < i → f j = g j) : ∀ j, j < i + 1 → zup f i (g i) j = g j := by
  intro j hj
  by_cases e : j = i
  · rw [e]; exact zup_s _ _ _
  · exact (zup_n e).trans (h j (by omega))
/-- a coast stands at b -/
def zKo (b : Nat) (C : zCo) (h : zH) : Prop := ∃ σ τ, zRepC b σ τ C h
def zIn (b n : Nat) (a : Nat) : Prop := b ≤ a ∧ a < b + n
theorem zKo.same {b : Nat} {C : zCo} {h h' : zH} {S : Nat → Prop} (R : zKo b C h) (s : zSame S h h') (hS : ∀ a, b ≤ a → a < b + 16 → ¬ S a) : zKo b C h' := by
  obtain ⟨σ, τ, R⟩ := R
  exact ⟨σ, τ, R.same s hS⟩
theorem zRepC.dpI {b : Nat} {σ τ : Nat → Nat} {C : zCo} {h : zH} (R : zRepC b σ τ C h) (D : Nat → Nat) : zRepC b σ τ (D, C.2) (h.set (b + 1) (100, zar 64 (fun c => .int (iI (D c))))) := by
  obtain ⟨h1, h2, h3, h4, h5, h6, h7, h8⟩ := R
  exact ⟨zkeep h1 (by omega), zset_same h2, zkeep h3 (by omega), fun i hi => zkeep (h4 i hi) (by have := h7.1 i hi; omega), zkeep h5 (by omega), fun i hi => zkeep (h6 i hi) (by have := h8.1 i hi; omega), h7, h8⟩
/-- light i is written, others as they were (places 6 and on don't count) -/
theorem zRepC.cgL {b : Nat} {σ τ : Nat → Nat} {C : zCo} {h : zH} (R : zRepC b σ τ C h) {L : Nat → zLt} (e : ∀ i, i < 6 → C.2.1 i = L i) : zRepC b σ τ (C.1, L, C.2.2) h := by
  obtain ⟨h1, h2, h3, h4, h5, h6, h7, h8⟩ := R
  exact ⟨h1, h2, h3, fun i hi => by rw [h4 i hi, e i hi], h5, h6, h7, h8⟩
theorem zRepC.cgS {b : Nat} {σ τ : Nat → Nat} {C : zCo} {h : zH} (R : zRepC b σ τ C h) {L : Nat → zSp} (e : ∀ i, i < 6 → C.2.2.1 i = L i) : zRepC b σ τ (C.1, C.2.1, L, C.2.2.2) h := by
  obtain ⟨h1, h2, h3, h4, h5, h6, h7, h8⟩ := R
  exact ⟨h1, h2, h3, h4, h5, fun i hi => by rw [h6 i hi, e i hi], h7, h8⟩
theorem m_ccopy {b d : Nat} {σ τ σ2 τ2 : Nat → Nat} {C E : zCo} {h : zH} (hb : zNR ≤ b) (hd : zNR ≤ d) (hdis : b + 16 ≤ d ∨ d + 16 ≤ b) (R : zRepC b σ τ C h) (R2 : zRepC d σ2 τ2 E h) : zMet yX2_copyFrom cX2_copyFrom 3 none 2 0 0 [.ref b, .ref d] h (fun v h' => v = none ∧ zRepC b σ τ E h' ∧ zSame (zIn b 16) h h') (fun _ _ => False) := by
  refine zMet.go (by decide +kernel) (Nat.le_of_ble_eq_true rfl) ?_
  intro X F B hnl hR hn
  have hS1 : ∀ a, d ≤ a → a < d + 16 → ¬ zIn b 16 a := fun a h1 h2 h3 => by have := h3.1; have := h3.2; omega
  refine z_aload_n F dX2_copyFrom_0 rfl rfl ?_
  refine z_getfield F fl_X2_9 dX2_copyFrom_1 R2.ob (by decide) rfl ?_
  refine zi_iconst F dX2_copyFrom_4 ?_
  refine z_aload_n F dX2_copyFrom_5 rfl rfl ?_
  refine z_getfield F fl_X2_9 dX2_copyFrom_6 R.ob (by decide) rfl ?_
  refine zi_iconst F dX2_copyFrom_9 ?_
  refine zi_bipush F dX2_copyFrom_10 (by decide) ?_
  refine z_acopy F dX2_copyFrom_12 zw_acl zw_acn zw_acs zw_aci hR (by decide) (zmut_of F (by omega)) (zmut_of F (by omega)) R2.dp R.dp (Nat.le_of_ble_eq_true rfl) ?_
  have A1 : zSame (zIn b 16) h (h.set (b + 1) (100, zar 64 (fun c => .int (iI (E.1 c))))) := zSame.rf.set ⟨by omega, by omega⟩
  have Q1 := R.dpI E.1
  generalize h.set (b + 1) (100, zar 64 (fun c => .int (iI (E.1 c)))) = h1 at A1 Q1 ⊢
  refine zi_iconst F dX2_copyFrom_15 ?_
  refine z_istore_n F dX2_copyFrom_16 rfl rfl (hnl _ rfl) ?_
  suffices KK : ∀ n i : Nat, n + i = 6 → ∀ (L : Nat → zLt) (h1 : zH), (∀ j, j < i → L j = E.2.1 j) → zRepC b σ τ (E.1, L, C.2.2) h1 → zSame (zIn b 16) h h1 → Z X 0 0 17 [(2, .int (iI i)), (0, .ref b), (1, .ref d)] [] h1 from Z.keys [2, 0, 1] rfl (KK 6 0 rfl C.2.1 h1 (fun j hj => absurd hj (Nat.not_lt_zero j)) Q1 A1)
  intro n
  induction n with
  | zero =>
    intro i hi L h1 hL Q1 A1
    refine z_iload_n F dX2_copyFrom_17 rfl rfl ?_
    refine zi_bipush F dX2_copyFrom_18 (by decide) ?_
    refine zi_icmp_ge (tgt := 44) F dX2_copyFrom_20 (by decide) (by omega) (fun c20 => ?_) (fun c20 => False.elim (by omega))
    refine zi_iconst F dX2_copyFrom_44 ?_
    refine z_istore_n F dX2_copyFrom_45 rfl rfl (hnl _ rfl) ?_
    suffices KK : ∀ n i : Nat, n + i = 6 → ∀ (L : Nat → zSp) (h1 : zH), (∀ j, j < i → L j = E.2.2.1 j) → zRepC b σ τ (E.1, E.2.1, L, C.2.2.2) h1 → zSame (zIn b 16) h h1 → Z X 0 0 46 [(2, .int (iI i)), (0, .ref b), (1, .ref d)] [] h1 from Z.keys [2, 0, 1] rfl (KK 6 0 rfl C.2.2.1 h1 (fun j hj => absurd hj (Nat.not_lt_zero j)) (Q1.cgL (L := E.2.1) (fun j hj => hL j (by omega))) A1)
    clear hL Q1 A1
    intro n
    induction n with
    | zero =>
      intro i hi L h1 hL Q1 A1
      replace Q1 := Q1.cgS (L := E.2.2.1) (fun j hj => hL j (by omega))
      have Q2 := R2.same A1 hS1
      refine z_iload_n F dX2_copyFrom_46 rfl rfl ?_
      refine zi_bipush F dX2_copyFrom_47 (by decide) ?_
      refine zi_icmp_ge (tgt := 73) F dX2_copyFrom_49 (by decide) (by omega) (fun c49 => ?_) (fun c49 => False.elim (by omega))
      refine z_aload_n F dX2_copyFrom_73 rfl rfl ?_
      refine z_aload_n F dX2_copyFrom_74 rfl rfl ?_
      refine z_getfield F fl_X2_42 dX2_copyFrom_75 Q2.ob (by decide) rfl ?_
      refine z_putfield F fp_X2_42 dX2_copyFrom_78 (zmut_of F (by omega)) Q1.ob (by decide) (Nat.le_of_ble_eq_true rfl) ⟨rfl, rfl⟩ ?_
      refine z_aload_n F dX2_copyFrom_81 rfl rfl ?_
      refine z_aload_n F dX2_copyFrom_82 rfl rfl ?_
      refine z_getfield F fl_X2_46 dX2_copyFrom_83 (zkeep Q2.ob (by omega)) (by decide) rfl ?_
      refine zi_putS F fp_X2_46 dX2_copyFrom_86 (zmut_of F (by omega)) Q1.ob (by decide) (Nat.le_of_ble_eq_true rfl) ⟨rfl, rfl⟩ ?_
      refine z_aload_n F dX2_copyFrom_89 rfl rfl ?_
      refine z_aload_n F dX2_copyFrom_90 rfl rfl ?_
      refine z_getfield F fl_X2_49 dX2_copyFrom_91 (zkeep Q2.ob (by omega)) (by decide) rfl ?_
      refine zi_putS F fp_X2_49 dX2_copyFrom_94 (zmut_of F (by omega)) Q1.ob (by decide) (Nat.le_of_ble_eq_true rfl) ⟨rfl, rfl⟩ ?_
      refine z_aload_n F dX2_copyFrom_97 rfl rfl ?_
      refine z_aload_n F dX2_copyFrom_98 rfl rfl ?_
      refine z_getfield F fl_X2_52 dX2_copyFrom_99 (zkeep Q2.ob (by omega)) (by decide) rfl ?_
      refine zi_putS F fp_X2_52 dX2_copyFrom_102 (zmut_of F (by omega)) Q1.ob (by decide) (Nat.le_of_ble_eq_true rfl) ⟨rfl, rfl⟩ ?_
      refine z_aload_n F dX2_copyFrom_105 rfl rfl ?_
      refine z_aload_n F dX2_copyFrom_106 rfl rfl ?_
      refine z_getfield F fl_X2_55 dX2_copyFrom_107 (zkeep Q2.ob (by omega)) (by decide) rfl ?_
      refine zi_putS F fp_X2_55 dX2_copyFrom_110 (zmut_of F (by omega)) Q1.ob (by decide) (Nat.le_of_ble_eq_true rfl) ⟨rfl, rfl⟩ ?_
      refine z_aload_n F dX2_copyFrom_113 rfl rfl ?_
      refine z_aload_n F dX2_copyFrom_114 rfl rfl ?_
      refine z_getfield F fl_X2_58 dX2_copyFrom_115 (zkeep Q2.ob (by omega)) (by decide) rfl ?_
      refine zi_putS F fp_X2_58 dX2_copyFrom_118 (zmut_of F (by omega)) Q1.ob (by decide) (Nat.le_of_ble_eq_true rfl) ⟨rfl, rfl⟩ ?_
      refine z_aload_n F dX2_copyFrom_121 rfl rfl ?_
      refine z_aload_n F dX2_copyFrom_122 rfl rfl ?_
      refine z_getfield F fl_X2_61 dX2_copyFrom_123 (zkeep Q2.ob (by omega)) (by decide) rfl ?_
      refine zi_putS F fp_X2_61 dX2_copyFrom_126 (zmut_of F (by omega)) Q1.ob (by decide) (Nat.le_of_ble_eq_true rfl) ⟨rfl, rfl⟩ ?_
      exact z_return F B dX2_copyFrom_129 ⟨rfl, Q1.putO E rfl rfl rfl rfl, A1.set ⟨Nat.le_refl _, by omega⟩⟩
    | succ n ih =>
      intro i hi L h1 hL Q1 A1
      have Q2 := R2.same A1 hS1
      have p1 := Q1.pt.1 i (by omega)
      have p2 := Q2.pt.1 i (by omega)
      refine z_iload_n F dX2_copyFrom_46 rfl rfl ?_
      refine zi_bipush F dX2_copyFrom_47 (by decide) ?_
      refine zi_icmp_ge (tgt := 73) F dX2_copyFrom_49 (by decide) (by omega) (fun c49 => False.elim (by omega)) (fun c49 => ?_)
      refine z_aload_n F dX2_copyFrom_52 rfl rfl ?_
      refine z_getfield F fl_X2_23 dX2_copyFrom_53 Q1.ob (by decide) rfl ?_
      refine z_iload_n F dX2_copyFrom_56 rfl rfl ?_
      refine zi_aaload (i := i) F dX2_copyFrom_57 Q1.sa (by decide) (by decide) rfl rfl (by omega) (zar_get (by omega)) rfl ?_
      refine z_aload_n F dX2_copyFrom_58 rfl rfl ?_
      refine z_getfield F fl_X2_23 dX2_copyFrom_59 Q2.ob (by decide) rfl ?_
      refine z_iload_n F dX2_copyFrom_62 rfl rfl ?_
      refine zi_aaload (i := i) F dX2_copyFrom_63 Q2.sa (by decide) (by decide) rfl rfl (by omega) (zar_get (by omega)) rfl ?_
      refine z_callV F B cal_yX8_copyFrom (m_scopy (by omega) (by omega) (Q1.si (by omega)) (Q2.si (by omega))) dX2_copyFrom_64 rfl rfl (Nat.le_of_ble_eq_true rfl) (by decide) (by decide) (by decide) ml_X2_39 im_yX8_copyFrom se_yX8_copyFrom (Q1.si (by omega)) (by decide) rfl rfl (fun v hX qX => ?_) (fun C h1 q => q.elim)
      obtain ⟨rfl, rfl⟩ := qX
      refine zi_iinc F dX2_copyFrom_67 rfl rfl (hnl _ rfl) ?_
      refine z_goto (tgt := 46) F dX2_copyFrom_70 (by decide) ?_
      exact Z.keys [2, 0, 1] rfl (ih (i + 1) (by omega) _ _ (zup_ext hL) (Q1.putS (by omega) (E.2.2.1 i) rfl) (A1.set ⟨by omega, by omega⟩))
  | succ n ih =>
    intro i hi L h1 hL Q1 A1
    have Q2 := R2.same A1 hS1
    have p1 := Q1.ps.1 i (by omega)
    have p2 := Q2.ps.1 i (by omega)
    refine z_iload_n F dX2_copyFrom_17 rfl rfl ?_
    refine zi_bipush F dX2_copyFrom_18 (by decide) ?_
    refine zi_icmp_ge (tgt := 44) F dX2_copyFrom_20 (by decide) (by omega) (fun c20 => False.elim (by omega)) (fun c20 => ?_)
    refine z_aload_n F dX2_copyFrom_23 rfl rfl ?_
    refine z_getfield F fl_X2_17 dX2_copyFrom_24 Q1.ob (by decide) rfl ?_
    refine z_iload_n F dX2_copyFrom_27 rfl rfl ?_
    refine zi_aaload (i := i) F dX2_copyFrom_28 Q1.la (by decide) (by decide) rfl rfl (by omega) (zar_get (by omega)) rfl ?_
    refine z_aload_n F dX2_copyFrom_29 rfl rfl ?_
    refine z_getfield F fl_X2_17 dX2_copyFrom_30 Q2.ob (by decide) rfl ?_
    refine z_iload_n F dX2_copyFrom_33 rfl rfl ?_
    refine zi_aaload (i := i) F dX2_copyFrom_34 Q2.la (by decide) (by decide) rfl rfl (by omega) (zar_get (by omega)) rfl ?_
    refine z_callV F B cal_yX7_copyFrom (m_lcopy (by omega) (by omega) (Q1.li (by omega)) (Q2.li (by omega))) dX2_copyFrom_35 rfl rfl (Nat.le_of_ble_eq_true rfl) (by decide) (by decide) (by decide) ml_X2_35 im_yX7_copyFrom se_yX7_copyFrom (Q1.li (by omega)) (by decide) rfl rfl (fun v hX qX => ?_) (fun C h1 q => q.elim)
    obtain ⟨rfl, rfl⟩ := qX
    refine zi_iinc F dX2_copyFrom_38 rfl rfl (hnl _ rfl) ?_
    refine z_goto (tgt := 17) F dX2_copyFrom_41 (by decide) ?_
    exact Z.keys [2, 0, 1] rfl (ih (i + 1) (by omega) _ _ (zup_ext hL) (Q1.putL (by omega) (E.2.1 i) rfl) (A1.set ⟨by omega, by omega⟩))
