/-! lengths by rounds, the next cell; groups of cells -/
/-- one direction of one cell in a round -/
def iStep (c d : Nat) (s : (Nat → Option Nat) × Bool) : (Nat → Option Nat) × Bool := match zNb c d with
  | none => s
  | some t => match s.1 t with
    | none => s
    | some k => match s.1 c with
      | none => (zup s.1 c (some (k + 1)), true)
      | some m => if k + 1 < m then (zup s.1 c (some (k + 1)), true) else s
def iIn (c : Nat) : Nat → Nat → (Nat → Option Nat) × Bool → (Nat → Option Nat) × Bool
  | 0, _, s => s
  | n + 1, d, s => iIn c n (d + 1) (iStep c d s)
def iAll (op : Nat → Bool) : Nat → Nat → (Nat → Option Nat) × Bool → (Nat → Option Nat) × Bool
  | 0, _, s => s
  | n + 1, c, s => iAll op n (c + 1) (if op c then iIn c 4 0 s else s)
def iRun (op : Nat → Bool) : Nat → (Nat → Option Nat) → (Nat → Option Nat)
  | 0, ln => ln
  | n + 1, ln => if (iAll op 64 0 (ln, false)).2 then iRun op n (iAll op 64 0 (ln, false)).1 else (iAll op 64 0 (ln, false)).1
def lnLe (M : Nat) (ln : Nat → Option Nat) : Prop := ∀ c, zGo (ln c) ≤ M
theorem lnLe.up {M k c : Nat} {ln : Nat → Option Nat} (h : lnLe M ln) (hk : k ≤ M) : lnLe M (zup ln c (some k)) := by
  intro x
  by_cases e : x = c
  · rw [e, zup_s]; show (k : Int) ≤ M; omega
  · rw [zup_n e]; exact h x
theorem lnLe.mono {M N : Nat} {ln : Nat → Option Nat} (h : lnLe M ln) (hk : M ≤ N) : lnLe N ln := fun x => Int.le_trans (h x) (by omega)
theorem iStep_le {M c d : Nat} {s : (Nat → Option Nat) × Bool} (h : lnLe M s.1) : lnLe (M + 1) (iStep c d s).1 := by
  unfold iStep
  cases hz : zNb c d with
  | none => exact h.mono (by omega)
  | some t =>
    dsimp only
    cases ht : s.1 t with
    | none => exact h.mono (by omega)
    | some k =>
      have hk : (k : Int) ≤ M := by have := h t; rw [ht] at this; exact this
      dsimp only
      cases hc : s.1 c with
      | none => exact (h.mono (Nat.le_succ _)).up (by omega)
      | some m =>
        dsimp only
        split
        · exact (h.mono (Nat.le_succ _)).up (by omega)
        · exact h.mono (by omega)
theorem iIn_le {c : Nat} : ∀ {n d M : Nat} {s : (Nat → Option Nat) × Bool}, lnLe M s.1 → lnLe (M + n) (iIn c n d s).1
  | 0, _, _, _, h => h
  | n + 1, d, M, s, h => by
    have := iIn_le (c := c) (n := n) (d := d + 1) (iStep_le (c := c) (d := d) h)
    exact this.mono (by omega)
theorem iAll_le {op : Nat → Bool} : ∀ {n c M : Nat} {s : (Nat → Option Nat) × Bool}, lnLe M s.1 → lnLe (M + 4 * n) (iAll op n c s).1
  | 0, _, _, _, h => h
  | n + 1, c, M, s, h => by
    unfold iAll
    split
    · exact (iAll_le (n := n) (c := c + 1) (iIn_le (c := c) (n := 4) (d := 0) h)).mono (by omega)
    · exact (iAll_le (n := n) (c := c + 1) h).mono (by omega)
section
variable {w b K : Nat} {op : Nat → Bool} {ln : Nat → Option Nat} {fc qu : Nat → Nat} {σ τ : Nat → Nat} {C : zCo} {h : zH}
theorem m_improveAll {M : Nat} (hw : zNR ≤ w) (hM : lnLe M ln) (hM2 : M < 1000000) (W : zWy w op ln fc qu h) : zMet yX9_improveAll cX9_improveAll 5 (some .boolean) 2 0 0 [.ref w] h (fun v h' => v = some (.int (iI (zBo (iAll op 64 0 (ln, false)).2))) ∧ zWy w op (iAll op 64 0 (ln, false)).1 fc qu h' ∧ zSame (zIn w 5) h h') (fun _ _ => False) := by
  refine zMet.go (by decide +kernel) (Nat.le_of_ble_eq_true rfl) ?_
  intro X F B hnl hR hn
  refine zi_iconst F dX9_improveAll_0 ?_
  refine z_istore_n F dX9_improveAll_1 rfl rfl (hnl _ rfl) ?_
  refine zi_iconst F dX9_improveAll_2 ?_
  refine z_istore_n F dX9_improveAll_3 rfl rfl (hnl _ rfl) ?_
  suffices KK : ∀ n c : Nat, n + c = 64 → ∀ (S : (Nat → Option Nat) × Bool) (h1 : zH), lnLe (M + 4 * c) S.1 → iAll op 64 0 (ln, false) = iAll op n c S → zWy w op S.1 fc qu h1 → zSame (zIn w 5) h h1 → Z X 0 0 4 [(2, .int (iI c)), (1, .int (iI (zBo S.2))), (0, .ref w)] [] h1 from Z.keys [2, 1, 0] rfl (KK 64 0 rfl (ln, false) h hM rfl W zSame.rf)
  intro n
  induction n with
  | zero =>
    intro c hc S h1 hl he W1 s1
    refine z_iload_n F dX9_improveAll_4 rfl rfl ?_
    refine zi_bipush F dX9_improveAll_5 (by decide) ?_
    refine zi_icmp_ge (tgt := 90) F dX9_improveAll_7 (by decide) (by omega) (fun c7 => ?_) (fun c7 => False.elim (by omega))
    refine z_iload_n F dX9_improveAll_90 rfl rfl ?_
    exact z_ireturn F (zBo_nar _) B dX9_improveAll_91 ⟨by rw [he]; rfl, by rw [he]; exact W1, s1⟩
  | succ n ih =>
    intro c hc S h1 hl he W1 s1
    replace he : iAll op 64 0 (ln, false) = iAll op n (c + 1) (if op c then iIn c 4 0 S else S) := he
    refine z_iload_n F dX9_improveAll_4 rfl rfl ?_
    refine zi_bipush F dX9_improveAll_5 (by decide) ?_
    refine zi_icmp_ge (tgt := 90) F dX9_improveAll_7 (by decide) (by omega) (fun c7 => False.elim (by omega)) (fun c7 => ?_)
    refine zi_iconst F dX9_improveAll_10 ?_
    refine z_istore_n F dX9_improveAll_11 rfl rfl (hnl _ rfl) ?_
    suffices KI : ∀ m d : Nat, m + d = 4 → ∀ (S1 : (Nat → Option Nat) × Bool) (h2 : zH), lnLe (M + 4 * c + d) S1.1 → (if op c = true then iIn c 4 0 S else S) = (if op c = true then iIn c m d S1 else S1) → zWy w op S1.1 fc qu h2 → zSame (zIn w 5) h h2 → Z X 0 0 12 [(3, .int (iI d)), (2, .int (iI c)), (1, .int (iI (zBo S1.2))), (0, .ref w)] [] h2 from Z.keys [3, 2, 1, 0] rfl (KI 4 0 rfl S h1 hl rfl W1 s1)
    intro m
    induction m with
    | zero =>
      intro d hd S1 h2 hl1 he1 W2 s2
      refine z_aload_n F dX9_improveAll_12 rfl rfl ?_
      refine z_getfield F fl_X9_9 dX9_improveAll_13 W2.1 (by decide) rfl ?_
      refine z_iload_n F dX9_improveAll_16 rfl rfl ?_
      refine zi_zaload (i := c) F dX9_improveAll_17 W2.2.1 rfl (by omega) (zar_get (by omega)) ?_
      refine zi_if_eq (tgt := 84) F dX9_improveAll_18 (by decide) (zBo_b _) (fun c18 => ?_) (fun c18 => ?_)
      · refine zi_iinc F dX9_improveAll_84 rfl rfl (hnl _ rfl) ?_
        refine z_goto (tgt := 4) F dX9_improveAll_87 (by decide) ?_
        exact Z.keys [2, 1, 0] rfl (ih (c + 1) (by omega) S1 h2 (hl1.mono (by omega)) (by rw [he, he1]; congr 1; split <;> rfl) W2 s2)
      · refine z_iload_n F dX9_improveAll_21 rfl rfl ?_
        refine zi_iconst F dX9_improveAll_22 ?_
        refine zi_icmp_ge (tgt := 84) F dX9_improveAll_23 (by decide) (by omega) (fun c23 => ?_) (fun c23 => False.elim (by omega))
        refine zi_iinc F dX9_improveAll_84 rfl rfl (hnl _ rfl) ?_
        refine z_goto (tgt := 4) F dX9_improveAll_87 (by decide) ?_
        exact Z.keys [2, 1, 0] rfl (ih (c + 1) (by omega) S1 h2 (hl1.mono (by omega)) (by rw [he, he1]; congr 1; split <;> rfl) W2 s2)
    | succ m im =>
      intro d hd S1 h2 hl1 he1 W2 s2
      refine z_aload_n F dX9_improveAll_12 rfl rfl ?_
      refine z_getfield F fl_X9_9 dX9_improveAll_13 W2.1 (by decide) rfl ?_
      refine z_iload_n F dX9_improveAll_16 rfl rfl ?_
      refine zi_zaload (i := c) F dX9_improveAll_17 W2.2.1 rfl (by omega) (zar_get (by omega)) ?_
      refine zi_if_eq (tgt := 84) F dX9_improveAll_18 (by decide) (zBo_b _) (fun c18 => ?_) (fun c18 => ?_)
      · rw [zBo_z] at c18
        refine zi_iinc F dX9_improveAll_84 rfl rfl (hnl _ rfl) ?_
        refine z_goto (tgt := 4) F dX9_improveAll_87 (by decide) ?_
        exact Z.keys [2, 1, 0] rfl (ih (c + 1) (by omega) S1 h2 (hl1.mono (by omega)) (by rw [he, he1]; congr 1; rw [c18]; rfl) W2 s2)
      rw [zBo_n] at c18
      have go : ∀ (S2 : (Nat → Option Nat) × Bool) (h3 : zH), S2 = iStep c d S1 → zWy w op S2.1 fc qu h3 → zSame (zIn w 5) h h3 → Z X 0 0 78 [(3, .int (iI d)), (2, .int (iI c)), (1, .int (iI (zBo S2.2))), (0, .ref w)] [] h3 := by
        intro S2 h3 e2 W3 s3
        refine zi_iinc F dX9_improveAll_78 rfl rfl (hnl _ rfl) ?_
        refine z_goto (tgt := 12) F dX9_improveAll_81 (by decide) ?_
        exact Z.keys [3, 2, 1, 0] rfl (im (d + 1) (by omega) S2 h3 (by rw [e2]; exact iStep_le hl1) (by rw [he1, e2, if_pos c18, if_pos c18]; rfl) W3 s3)
      have st : iStep c d S1 = match zNb c d with
        | none => S1
        | some t => match S1.1 t with
          | none => S1
          | some k => match S1.1 c with
            | none => (zup S1.1 c (some (k + 1)), true)
            | some m => if k + 1 < m then (zup S1.1 c (some (k + 1)), true) else S1 := rfl
      have zb := zGo_b (fun e h => zNb_lt (c := c) (d := d) (by omega) h)
      have lc := hl1 c
      have lg := zGo_ge (S1.1 c)
      have put : ∀ (k : Nat), iStep c d S1 = (zup S1.1 c (some (k + 1)), true) → Z X 0 0 66 [(4, .int (iI k)), (3, .int (iI d)), (2, .int (iI c)), (1, .int (iI (zBo S1.2))), (0, .ref w)] [] h2 := by
        intro k ek
        refine z_aload_n F dX9_improveAll_66 rfl rfl ?_
        refine z_getfield F fl_X9_15 dX9_improveAll_67 W2.1 (by decide) rfl ?_
        refine z_iload_n F dX9_improveAll_70 rfl rfl ?_
        refine z_iload F dX9_improveAll_71 rfl ?_
        refine zi_iconst F dX9_improveAll_73 ?_
        refine zi_iadd F dX9_improveAll_74 ?_
        refine zi_iastore (i := c) F dX9_improveAll_75 (zmut_of F (by omega)) W2.2.2.1 rfl (by rw [zar_len]; omega) ?_
        refine zgen (P := fun h' => zWy w op _ _ _ h' ∧ zSame (zIn w 5) h h') ⟨W2.putL c (some (k + 1)) rfl, s2.set ⟨by omega, by omega⟩⟩ (fun h3 q3 => ?_)
        refine zi_iconst F dX9_improveAll_76 ?_
        refine z_istore_n F dX9_improveAll_77 rfl rfl (hnl _ rfl) ?_
        exact Z.keys [3, 2, 1, 0] rfl (go _ h3 ek.symm q3.1 q3.2)
      cases hz : zNb c d with
      | none =>
        rw [hz] at st
        refine z_iload_n F dX9_improveAll_21 rfl rfl ?_
        refine zi_iconst F dX9_improveAll_22 ?_
        refine zi_icmp_ge (tgt := 84) F dX9_improveAll_23 (by decide) (by omega) (fun c23 => False.elim (by omega)) (fun c23 => ?_)
        refine z_aload_n F dX9_improveAll_26 rfl rfl ?_
        refine z_iload_n F dX9_improveAll_27 rfl rfl ?_
        refine z_iload_n F dX9_improveAll_28 rfl rfl ?_
        refine z_callSN F B cal_yX10_neighbour (m_neighbour (by omega) (by omega) _) dX9_improveAll_29 rfl rfl (Nat.le_of_ble_eq_true rfl) (by decide) (by decide) (by decide) ml_X9_34 st_yX10_neighbour (fun v hX qX => ?_) (fun C h1 q => q.elim)
        obtain ⟨rfl, qX⟩ := qX
        rw [qX]
        clear qX hX
        rw [hz]
        refine z_callV F B cal_yX9_lengthTo (m_lengthTo (by simp only [zGo]; omega) W2) dX9_improveAll_32 rfl rfl (Nat.le_of_ble_eq_true rfl) (by decide) (by decide) (by decide) ml_X9_49 im_yX9_lengthTo se_yX9_lengthTo W2.1 (by decide) rfl rfl (fun v hX qX => ?_) (fun C h1 q => q.elim)
        obtain ⟨rfl, qX⟩ := qX
        rw [qX]
        clear qX hX
        rw [show f_len S1.1 (zGo none) = -1 from rfl]
        refine z_istore F dX9_improveAll_35 rfl (hnl _ rfl) ?_
        refine z_iload F dX9_improveAll_37 rfl ?_
        refine zi_iconst F dX9_improveAll_39 ?_
        refine zi_icmp_eq (tgt := 78) F dX9_improveAll_40 (by decide) (by omega) (fun c40 => ?_) (fun c40 => False.elim (by omega))
        exact Z.keys [3, 2, 1, 0] rfl (go S1 h2 st.symm W2 s2)
      | some t =>
        have ht := zNb_lt (by omega) hz
        rw [hz] at st
        have lt := hl1 t
        have ltg := zGo_ge (S1.1 t)
        have hf : f_len S1.1 (zGo (some t)) = zGo (S1.1 t) := if_pos (show (0 : Int) ≤ (t : Int) ∧ (t : Int) < 64 by omega)
        cases hk : S1.1 t with
        | none =>
          simp only [hk] at st
          refine z_iload_n F dX9_improveAll_21 rfl rfl ?_
          refine zi_iconst F dX9_improveAll_22 ?_
          refine zi_icmp_ge (tgt := 84) F dX9_improveAll_23 (by decide) (by omega) (fun c23 => False.elim (by omega)) (fun c23 => ?_)
          refine z_aload_n F dX9_improveAll_26 rfl rfl ?_
          refine z_iload_n F dX9_improveAll_27 rfl rfl ?_
          refine z_iload_n F dX9_improveAll_28 rfl rfl ?_
          refine z_callSN F B cal_yX10_neighbour (m_neighbour (by omega) (by omega) _) dX9_improveAll_29 rfl rfl (Nat.le_of_ble_eq_true rfl) (by decide) (by decide) (by decide) ml_X9_34 st_yX10_neighbour (fun v hX qX => ?_) (fun C h1 q => q.elim)
          obtain ⟨rfl, qX⟩ := qX
          rw [qX]
          clear qX hX
          rw [hz]
          refine z_callV F B cal_yX9_lengthTo (m_lengthTo (show -2147483648 ≤ (t : Int) ∧ (t : Int) < 2147483648 by omega) W2) dX9_improveAll_32 rfl rfl (Nat.le_of_ble_eq_true rfl) (by decide) (by decide) (by decide) ml_X9_49 im_yX9_lengthTo se_yX9_lengthTo W2.1 (by decide) rfl rfl (fun v hX qX => ?_) (fun C h1 q => q.elim)
          obtain ⟨rfl, qX⟩ := qX
          rw [qX]
          clear qX hX
          rw [show f_len S1.1 (t : Int) = -1 from by rw [show f_len S1.1 (t : Int) = zGo (S1.1 t) from hf, hk]; rfl]
          refine z_istore F dX9_improveAll_35 rfl (hnl _ rfl) ?_
          refine z_iload F dX9_improveAll_37 rfl ?_
          refine zi_iconst F dX9_improveAll_39 ?_
          refine zi_icmp_eq (tgt := 78) F dX9_improveAll_40 (by decide) (by omega) (fun c40 => ?_) (fun c40 => False.elim (by omega))
          exact Z.keys [3, 2, 1, 0] rfl (go S1 h2 st.symm W2 s2)
        | some k =>
          simp only [hk] at st
          have hkM : (k : Int) ≤ M + 4 * c + d := by rw [hk] at lt; exact lt
          refine z_iload_n F dX9_improveAll_21 rfl rfl ?_
          refine zi_iconst F dX9_improveAll_22 ?_
          refine zi_icmp_ge (tgt := 84) F dX9_improveAll_23 (by decide) (by omega) (fun c23 => False.elim (by omega)) (fun c23 => ?_)
          refine z_aload_n F dX9_improveAll_26 rfl rfl ?_
          refine z_iload_n F dX9_improveAll_27 rfl rfl ?_
          refine z_iload_n F dX9_improveAll_28 rfl rfl ?_
          refine z_callSN F B cal_yX10_neighbour (m_neighbour (by omega) (by omega) _) dX9_improveAll_29 rfl rfl (Nat.le_of_ble_eq_true rfl) (by decide) (by decide) (by decide) ml_X9_34 st_yX10_neighbour (fun v hX qX => ?_) (fun C h1 q => q.elim)
          obtain ⟨rfl, qX⟩ := qX
          rw [qX]
          clear qX hX
          rw [hz]
          refine z_callV F B cal_yX9_lengthTo (m_lengthTo (show -2147483648 ≤ (t : Int) ∧ (t : Int) < 2147483648 by omega) W2) dX9_improveAll_32 rfl rfl (Nat.le_of_ble_eq_true rfl) (by decide) (by decide) (by decide) ml_X9_49 im_yX9_lengthTo se_yX9_lengthTo W2.1 (by decide) rfl rfl (fun v hX qX => ?_) (fun C h1 q => q.elim)
          obtain ⟨rfl, qX⟩ := qX
          rw [qX]
          clear qX hX
          rw [show f_len S1.1 (t : Int) = (k : Int) from by rw [show f_len S1.1 (t : Int) = zGo (S1.1 t) from hf, hk]; rfl]
          refine z_istore F dX9_improveAll_35 rfl (hnl _ rfl) ?_
          refine z_iload F dX9_improveAll_37 rfl ?_
          refine zi_iconst F dX9_improveAll_39 ?_
          refine zi_icmp_eq (tgt := 78) F dX9_improveAll_40 (by decide) (by omega) (fun c40 => False.elim (by omega)) (fun c40 => ?_)
          refine z_aload_n F dX9_improveAll_43 rfl rfl ?_
          refine z_getfield F fl_X9_15 dX9_improveAll_44 W2.1 (by decide) rfl ?_
          refine z_iload_n F dX9_improveAll_47 rfl rfl ?_
          refine zi_iaload (i := c) F dX9_improveAll_48 W2.2.2.1 rfl (by omega) (zar_get (by omega)) ?_
          refine zi_iconst F dX9_improveAll_49 ?_
          refine zi_icmp_eq (tgt := 66) F dX9_improveAll_50 (by decide) (by omega) (fun c50 => ?_) (fun c50 => ?_)
          · exact Z.keys [4, 3, 2, 1, 0] rfl (put k (by rw [st]; cases hc : S1.1 c with | none => rfl | some m => first | (exfalso; rw [hc] at c50; exact absurd (show (m : Int) = -1 from c50) (by omega)) | (rw [hc] at c63; exact if_pos (by have c63 : ¬ (m : Int) ≤ k + 1 := c63; omega))))
          · refine z_iload F dX9_improveAll_53 rfl ?_
            refine zi_iconst F dX9_improveAll_55 ?_
            refine zi_iadd F dX9_improveAll_56 ?_
            refine z_aload_n F dX9_improveAll_57 rfl rfl ?_
            refine z_getfield F fl_X9_15 dX9_improveAll_58 W2.1 (by decide) rfl ?_
            refine z_iload_n F dX9_improveAll_61 rfl rfl ?_
            refine zi_iaload (i := c) F dX9_improveAll_62 W2.2.2.1 rfl (by omega) (zar_get (by omega)) ?_
            refine zi_icmp_ge (tgt := 78) F dX9_improveAll_63 (by decide) (by omega) (fun c63 => ?_) (fun c63 => ?_)
            · exact Z.keys [3, 2, 1, 0] rfl (go S1 h2 (by rw [st]; cases hc : S1.1 c with | none => (rw [hc] at c50; exact absurd rfl c50) | some m => (rw [hc] at c63; exact (if_neg (by have c63 : (m : Int) ≤ k + 1 := c63; omega)).symm)) W2 s2)
            · exact Z.keys [4, 3, 2, 1, 0] rfl (put k (by rw [st]; cases hc : S1.1 c with | none => rfl | some m => first | (exfalso; rw [hc] at c50; exact absurd (show (m : Int) = -1 from c50) (by omega)) | (rw [hc] at c63; exact if_pos (by have c63 : ¬ (m : Int) ≤ k + 1 := c63; omega))))
theorem f_bg_le (s : Nat) : lnLe 0 (f_bg s) := fun c => by have := f_bg_b s c; show _ ≤ (0 : Int); omega
theorem m_improveFrom {s : Nat} (hw : zNR ≤ w) (hs : s < 64) (W : zWy w op ln fc qu h) : zMet yX9_improveFrom cX9_improveFrom 4 none 3 0 0 [.ref w, .int (iI s)] h (fun v h' => v = none ∧ zWy w op (iRun op 64 (f_bg s)) fc qu h' ∧ zSame (zIn w 5) h h') (fun _ _ => False) := by
  refine zMet.go (by decide +kernel) (Nat.le_of_ble_eq_true rfl) ?_
  intro X F B hnl hR hn
  refine z_aload_n F dX9_improveFrom_0 rfl rfl ?_
  refine z_iload_n F dX9_improveFrom_1 rfl rfl ?_
  refine z_callV F B cal_yX9_beginAt (m_beginAt hw hs W) dX9_improveFrom_2 rfl rfl (Nat.le_of_ble_eq_true rfl) (by decide) (by decide) (by decide) ml_X9_30 im_yX9_beginAt se_yX9_beginAt W.1 (by decide) rfl rfl (fun v hX qX => ?_) (fun C h1 q => q.elim)
  obtain ⟨rfl, W1, s1⟩ := qX
  refine zi_iconst F dX9_improveFrom_5 ?_
  refine z_istore_n F dX9_improveFrom_6 rfl rfl (hnl _ rfl) ?_
  refine zi_iconst F dX9_improveFrom_7 ?_
  refine z_istore_n F dX9_improveFrom_8 rfl rfl (hnl _ rfl) ?_
  suffices KK : ∀ n r : Nat, n + r = 64 → ∀ (l1 : Nat → Option Nat) (im : Bool) (h1 : zH), lnLe (256 * r) l1 → iRun op 64 (f_bg s) = (if im then iRun op n l1 else l1) → zWy w op l1 fc qu h1 → zSame (zIn w 5) h h1 → Z X 0 0 9 [(3, .int (iI r)), (2, .int (iI (zBo im))), (0, .ref w), (1, .int (iI s))] [] h1 from Z.keys [3, 2, 0, 1] rfl (KK 64 0 rfl (f_bg s) true hX (f_bg_le s) rfl W1 s1)
  intro n
  induction n with
  | zero =>
    intro r hr l1 im h1 hl he W1 s1
    refine z_iload_n F dX9_improveFrom_9 rfl rfl ?_
    refine zi_bipush F dX9_improveFrom_10 (by decide) ?_
    refine zi_icmp_ge (tgt := 30) F dX9_improveFrom_12 (by decide) (by omega) (fun c12 => ?_) (fun c12 => False.elim (by omega))
    exact z_return F B dX9_improveFrom_30 ⟨rfl, by rw [he]; cases im <;> exact W1, s1⟩
  | succ n ih =>
    intro r hr l1 im h1 hl he W1 s1
    refine z_iload_n F dX9_improveFrom_9 rfl rfl ?_
    refine zi_bipush F dX9_improveFrom_10 (by decide) ?_
    refine zi_icmp_ge (tgt := 30) F dX9_improveFrom_12 (by decide) (by omega) (fun c12 => False.elim (by omega)) (fun c12 => ?_)
    refine z_iload_n F dX9_improveFrom_15 rfl rfl ?_
    refine zi_if_eq (tgt := 30) F dX9_improveFrom_16 (by decide) (zBo_b _) (fun c16 => ?_) (fun c16 => ?_)
    · rw [zBo_z] at c16
      exact z_return F B dX9_improveFrom_30 ⟨rfl, by rw [he, c16]; exact W1, s1⟩
    rw [zBo_n] at c16
    rw [if_pos c16] at he
    refine z_aload_n F dX9_improveFrom_19 rfl rfl ?_
    refine z_callV F B cal_yX9_improveAll (m_improveAll hw hl (by omega) W1) dX9_improveFrom_20 rfl rfl (Nat.le_of_ble_eq_true rfl) (by decide) (by decide) (by decide) ml_X9_38 im_yX9_improveAll se_yX9_improveAll W1.1 (by decide) rfl rfl (fun v hX qX => ?_) (fun C h1 q => q.elim)
    obtain ⟨rfl, W2, s2⟩ := qX
    refine z_istore_n F dX9_improveFrom_23 rfl rfl (hnl _ rfl) ?_
    refine zi_iinc F dX9_improveFrom_24 rfl rfl (hnl _ rfl) ?_
    refine z_goto (tgt := 9) F dX9_improveFrom_27 (by decide) ?_
    exact Z.keys [3, 2, 0, 1] rfl (ih (r + 1) (by omega) _ _ _ ((iAll_le hl).mono (by omega)) (by rw [he]; rfl) W2 (s1.tr s2))
def f_nx0 (C : zCo) (t d c g : Nat) (fc qu : Nat → Nat) : Nat := if 0 < zGo ((f_bfs (f_opF C t d) c fc qu).1 g) then (f_bfs (f_opF C t d) c fc qu).2.1 g else c
theorem bOut_inv {op : Nat → Bool} : ∀ {n nx : Nat} {s : zBs}, bInv s → bInv (bOut op n nx s)
  | 0, _, _, h => h
  | n + 1, nx, s, h => by
    unfold bOut
    split
    · rename_i hn
      have go : ∀ (m d : Nat) (s : zBs), bInv s → nx < s.2.2.2 → bInv (bIn op nx m d s) := by
        intro m
        induction m with
        | zero => intro d s h _; exact h
        | succ m im => intro d s h hn; obtain ⟨a, b, -⟩ := bStep_inv (op := op) (d := d) h hn; exact im _ _ a (by omega)
      exact bOut_inv (go 4 0 s h hn)
    · exact h
theorem f_bfs_inv {op : Nat → Bool} {s : Nat} (hs : s < 64) {fc qu : Nat → Nat} : bInv (f_bfs op s fc qu) := bOut_inv ⟨(by omega : 1 ≤ 64), fun i hi => by have hi : i < 1 := hi; rw [show i = 0 by omega]; show zup qu 0 s 0 < 64; rw [zup_s]; exact hs, fun c => f_bg_b s c⟩
theorem m_nextCell {t d c g : Nat} (hw : zNR ≤ w) (hb : b + 16 ≤ w ∨ w + 5 ≤ b) (R : zRepC b σ τ C h) (W : zWy w op ln fc qu h) (hO : zOk K C) (ht : t ≤ 2) (hd : d ≤ 9) (hc : c < 64) (hg : g < 64) : zMet yX9_nextCell cX9_nextCell 6 (some .int) 3 0 0 [.ref w, .ref b, .int (iI t), .int (iI d), .int (iI c), .int (iI g)] h (fun v h' => v = some (.int (iI (f_nx0 C t d c g fc qu))) ∧ (∃ op' ln' fc' qu', zWy w op' ln' fc' qu' h') ∧ zSame (zIn w 5) h h') (fun _ _ => False) := by
  refine zMet.go (by decide +kernel) (Nat.le_of_ble_eq_true rfl) ?_
  intro X F B hnl hR hn
  have BI := f_bfs_inv (op := f_opF C t d) hc (fc := fc) (qu := qu)
  have b1 := BI.1
  have b2 := BI.2.2 g
  refine z_aload_n F dX9_nextCell_0 rfl rfl ?_
  refine z_aload_n F dX9_nextCell_1 rfl rfl ?_
  refine z_iload_n F dX9_nextCell_2 rfl rfl ?_
  refine z_iload_n F dX9_nextCell_3 rfl rfl ?_
  refine z_callV F B cal_yX9_openFor (m_openFor hw hb R W hO ht hd) dX9_nextCell_4 rfl rfl (Nat.le_of_ble_eq_true rfl) (by decide) (by decide) (by decide) ml_X9_42 im_yX9_openFor se_yX9_openFor W.1 (by decide) rfl rfl (fun v hX qX => ?_) (fun C h1 q => q.elim)
  obtain ⟨rfl, W1, s1⟩ := qX
  refine z_aload_n F dX9_nextCell_7 rfl rfl ?_
  refine z_iload F dX9_nextCell_8 rfl ?_
  refine z_callV F B cal_yX9_searchFrom (m_searchFrom hw hc W1) dX9_nextCell_10 rfl rfl (Nat.le_of_ble_eq_true rfl) (by decide) (by decide) (by decide) ml_X9_46 im_yX9_searchFrom se_yX9_searchFrom W1.1 (by decide) rfl rfl (fun v hX qX => ?_) (fun C h1 q => q.elim)
  obtain ⟨rfl, W2, s2⟩ := qX
  refine z_aload_n F dX9_nextCell_13 rfl rfl ?_
  refine z_iload F dX9_nextCell_14 rfl ?_
  refine z_callV F B cal_yX9_lengthTo (m_lengthTo (by omega) W2) dX9_nextCell_16 rfl rfl (Nat.le_of_ble_eq_true rfl) (by decide) (by decide) (by decide) ml_X9_49 im_yX9_lengthTo se_yX9_lengthTo W2.1 (by decide) rfl rfl (fun v hX qX => ?_) (fun C h1 q => q.elim)
  obtain ⟨rfl, qX⟩ := qX
  rw [qX]
  clear qX hX
  rw [show f_len _ (g : Int) = zGo _ from if_pos (by omega)]
  have hz : ((g : Int).toNat) = g := rfl
  rw [hz]
  refine zi_if_le (tgt := 32) F dX9_nextCell_19 (by decide) (by omega) (fun c19 => ?_) (fun c19 => ?_)
  · refine z_iload F dX9_nextCell_32 rfl ?_
    exact z_ireturn F rfl B dX9_nextCell_34 ⟨vInt (by unfold f_nx0; first | (rw [if_pos (by omega)]) | (rw [if_neg (by omega)])), ⟨_, _, _, _, W2⟩, s1.tr s2⟩
  · refine z_aload_n F dX9_nextCell_22 rfl rfl ?_
    refine z_getfield F fl_X9_19 dX9_nextCell_23 W2.1 (by decide) rfl ?_
    refine z_iload F dX9_nextCell_26 rfl ?_
    refine zi_iaload (i := g) F dX9_nextCell_28 W2.2.2.2.1 rfl (by omega) (zar_get (by omega)) ?_
    refine z_goto (tgt := 34) F dX9_nextCell_29 (by decide) ?_
    exact z_ireturn F rfl B dX9_nextCell_34 ⟨vInt (by unfold f_nx0; first | (rw [if_pos (by omega)]) | (rw [if_neg (by omega)])), ⟨_, _, _, _, W2⟩, s1.tr s2⟩
end
