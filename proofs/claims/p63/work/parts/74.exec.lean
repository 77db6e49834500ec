/-! the buffer's text is executed; signs are fed -/
def f_tx (S : zBt) (x : (Nat → Nat) × Nat) : zBt := (S.1, S.2.1, S.2.2.1, x, S.2.2.2.2)
def f_flt (S : zBt) (q : Int) : zBt := (S.1, S.2.1, S.2.2.1, S.2.2.2.1, (q, S.2.2.2.2.2))
/-- the state behind a failed command: the prepared coast, denial 8 -/
def f_back (S : zBt) (i : Nat) (a : Int) : zBt := (S.2.2.1.2.2 8, S.2.1, S.2.2.1, S.2.2.2.1, (S.2.2.2.2.1, 8, (i : Int), if a = -3 then S.2.2.2.2.2.1 else 9))
def f_run : List (Nat × List Nat) → Nat → zBt → zBt × Bool
  | [], _, S => (f_keep S, true)
  | c :: cs, i, S => if (f_perf S.1 c.1 (fun j => c.2.getD j 0)).1 < 0 then (f_back (f_put S (f_perf S.1 c.1 (fun j => c.2.getD j 0))) i (f_perf S.1 c.1 (fun j => c.2.getD j 0)).1, false) else f_run cs (i + 1) (f_put S (f_perf S.1 c.1 (fun j => c.2.getD j 0)))
theorem f_run_cons (c : Nat × List Nat) (cs : List (Nat × List Nat)) (i : Nat) (S : zBt) : f_run (c :: cs) i S = if (f_perf S.1 c.1 (fun j => c.2.getD j 0)).1 < 0 then (f_back (f_put S (f_perf S.1 c.1 (fun j => c.2.getD j 0))) i (f_perf S.1 c.1 (fun j => c.2.getD j 0)).1, false) else f_run cs (i + 1) (f_put S (f_perf S.1 c.1 (fun j => c.2.getD j 0))) := rfl
theorem f_run_tx (x : (Nat → Nat) × Nat) : ∀ (cs : List (Nat × List Nat)) (i : Nat) (S : zBt), f_run cs i (f_tx S x) = (f_tx (f_run cs i S).1 x, (f_run cs i S).2)
  | [], i, S => rfl
  | c :: cs, i, S => by
    unfold f_run
    rw [show (f_tx S x).1 = S.1 from rfl]
    split
    · rfl
    · exact f_run_tx x cs (i + 1) (f_put S (f_perf S.1 c.1 (fun j => c.2.getD j 0)))
/-- what a parsed text's commands are like -/
def zCs (cs : List (Nat × List Nat)) : Prop := cs.length ≤ 10 ∧ ∀ i, i < cs.length → (cs.getD i (0, [])).1 < 8 ∧ (cs.getD i (0, [])).2.length = f_ar (cs.getD i (0, [])).1 ∧ ∀ j, j < (cs.getD i (0, [])).2.length → (cs.getD i (0, [])).2.getD j 0 < 100
theorem zTx.congr {t len cn ps : Nat} {T T' : Nat → Nat} {Kc Kc' : Nat → Nat × (Nat → Nat)} {h : zH} (R : zTx t T len cn ps Kc h) (e1 : ∀ i, i < 60 → T' i = T i) (e2 : ∀ i, i < 10 → (Kc' i).1 = (Kc i).1 ∧ ∀ j, j < 4 → (Kc' i).2 j = (Kc i).2 j) : zTx t T' len cn ps Kc' h := by
  refine ⟨R.1, ?_, R.2.2.1, fun i hi => ?_⟩
  · rw [R.2.1]
    congr 2
    exact zar_congr fun k hk => by rw [e1 k hk]
  · have Ri := R.2.2.2 i hi
    have Ei := e2 i hi
    refine ⟨by rw [Ei.1]; exact Ri.1, ?_, by rw [Ei.1]; exact Ri.2.2⟩
    rw [Ri.2.1]
    congr 2
    exact zar_congr fun k hk => by rw [Ei.2 k hk]
theorem zTt.mk {t len cn ps : Nat} {T : Nat → Nat} {Kc : Nat → Nat × (Nat → Nat)} {h : zH} (R : zTx t T len cn ps Kc h) : ∃ T', zTt t T' len h ∧ T' 60 = cn ∧ (∀ i, i < 60 → T' i = T i) ∧ ∀ i, i < 10 → (zTk T' i).1 = (Kc i).1 ∧ ∀ j, j < 4 → (zTk T' i).2 j = (Kc i).2 j := by
  let T' : Nat → Nat := fun j => if j < 60 then T j else if j = 60 then cn else if j = 61 then ps else if (j - 62) % 5 = 0 then (Kc ((j - 62) / 5)).1 else (Kc ((j - 62) / 5)).2 ((j - 62) % 5 - 1)
  have e0 : T' 60 = cn := rfl
  have e1 : T' 61 = ps := rfl
  have e2 : ∀ i, i < 60 → T' i = T i := fun i hi => if_pos hi
  have e3 : ∀ i, i < 10 → (zTk T' i).1 = (Kc i).1 ∧ ∀ j, j < 4 → (zTk T' i).2 j = (Kc i).2 j := fun i hi => by
    constructor
    · show (if 62 + 5 * i < 60 then T (62 + 5 * i) else if 62 + 5 * i = 60 then cn else if 62 + 5 * i = 61 then ps else if (62 + 5 * i - 62) % 5 = 0 then (Kc ((62 + 5 * i - 62) / 5)).1 else (Kc ((62 + 5 * i - 62) / 5)).2 ((62 + 5 * i - 62) % 5 - 1)) = _
      rw [if_neg (by omega), if_neg (by omega), if_neg (by omega), if_pos (by omega), show (62 + 5 * i - 62) / 5 = i by omega]
    · intro j hj
      show (if 63 + 5 * i + j < 60 then T (63 + 5 * i + j) else if 63 + 5 * i + j = 60 then cn else if 63 + 5 * i + j = 61 then ps else if (63 + 5 * i + j - 62) % 5 = 0 then (Kc ((63 + 5 * i + j - 62) / 5)).1 else (Kc ((63 + 5 * i + j - 62) / 5)).2 ((63 + 5 * i + j - 62) % 5 - 1)) = _
      rw [if_neg (by omega), if_neg (by omega), if_neg (by omega), if_neg (by omega), show (63 + 5 * i + j - 62) / 5 = i by omega, show (63 + 5 * i + j - 62) % 5 - 1 = j by omega]
  refine ⟨T', ?_, e0, e2, e3⟩
  unfold zTt
  rw [e0, e1]
  exact R.congr e2 e3
theorem f_perf_b {K k : Nat} {C : zCo} {V : Nat → Nat} (hO : zOk K C) (hK : K < 1700000) : zI32 (f_perf C k V).1 ∧ ((f_perf C k V).1 < 0 → (f_perf C k V).1 = -1 ∨ (f_perf C k V).1 = -2 ∨ (f_perf C k V).1 = -3) := by
  unfold f_perf
  split
  · exact f_cd_b hO
  · exact f_pl_b hO
  · exact f_cp_b hO
  · exact f_dl_b hO hK
  · exact f_ls_b hO
  · exact f_cg_b hO
  · exact f_sv_b hO
  · exact f_ps_b hO hK
section
variable {o K : Nat} {S : zBt} {h : zH}
/-- bounds of what stands in the state -/
def f_grow (n : Nat) : Nat := 2100 * n
theorem m_execute {tx : List Nat} {r : Int × List (Nat × List Nat)} (hr : f_prs tx 10 0 [] = r) (hcs : zCs r.2) (hq : -1 ≤ r.1 ∧ r.1 < 100) (Bs : zRs h) (I : zIs S.2.2.2.1.1 tx) (htl : S.2.2.2.1.2 = tx.length) (R : zRB o S h) {G : Nat → zCo → Prop} (hO : G K S.1) (hGo : ∀ n C, G n C → zOk n C) (hG : ∀ C k V n, G n C → G (n + 2100) (f_perf C k V).2.1) (hK : K < 1500000) : zMet yX10_execute cX10_execute 5 (some .int) 10 1 6 [.ref o] h (fun v h' => (r.1 = -1 ∧ (f_run r.2 0 (f_prep S)).2 = true ∧ v = some (.int (iI (r.2.length : Int)))) ∧ ∃ T', zRB o (f_tx (f_run r.2 0 (f_prep S)).1 (T', 0)) h') (fun D h' => (¬ r.1 = -1 ∧ D = xA ∧ ∃ T', zRB o (f_tx (f_flt S r.1) (T', 0)) h') ∨ (r.1 = -1 ∧ (f_run r.2 0 (f_prep S)).2 = false ∧ D = xU ∧ ∃ T', zRB o (f_tx (f_run r.2 0 (f_prep S)).1 (T', 0)) h')) := by
  refine zMet.go (by decide +kernel) (Nat.le_of_ble_eq_true rfl) ?_
  intro X F B hnl hR hn
  have z := R.1
  have r0 := R.2.1
  have rt := R.2.2.2.2.2.2.2.2.1
  unfold zTt at rt
  rw [htl] at rt
  have hz : zNR ≤ o + 187 := by omega
  refine z_ro F (fun hro => ?_)
  refine z_aload_n F dX10_execute_0 rfl rfl ?_
  refine z_getfield F fl_X10_47 dX10_execute_1 r0 (by decide) rfl ?_
  refine z_callV F B cal_yX5_parse (m_parse hz Bs rt I hr) dX10_execute_4 rfl rfl (Nat.le_of_ble_eq_true rfl) (by decide) (by decide) (by decide) ml_X10_317 im_yX5_parse se_yX5_parse rt.1 (by decide) rfl rfl (fun v hX qX => ?_) (fun C h1 q => q.elim)
  obtain ⟨rfl, ⟨ps', Kc', R1, hK1⟩, s1⟩ := qX
  have hcell := s1.get r0 (fun q => by have := q.1; omega)
  refine z_istore_n F dX10_execute_7 rfl rfl (hnl _ rfl) ?_
  skip
  refine z_aload_n F dX10_execute_8 rfl rfl ?_
  refine z_getfield F fl_X10_47 dX10_execute_9 hcell (by decide) rfl ?_
  refine zi_iconst F dX10_execute_12 ?_
  refine z_putfield F fp_X10_305 dX10_execute_13 (zmut_of F (by omega)) R1.1 (by decide) (Nat.le_of_ble_eq_true rfl) ⟨rfl, rfl⟩ ?_
  have R2 := R1.obj 0 r.2.length ps'
  have s2 : zSame (zIn (o + 187) 23) h _ := s1.set (c := (7, [.ref (o + 187 + 1), .ref (o + 187 + 2), .int (iI ((0 : Nat) : Int)), .int (iI (r.2.length : Int)), .int (iI (ps' : Int))])) (⟨Nat.le_refl _, by omega⟩ : zIn (o + 187) 23 (o + 187))
  obtain ⟨T', R3, e60, eT, eK⟩ := zTt.mk R2
  refine zgen (P := fun h' => zRB o (f_tx S (T', 0)) h') (R.txt s2 R3) (fun h2 R4 => ?_)
  clear R1 R2 R3 s1 s2 hcell
  refine z_iload_n F dX10_execute_16 rfl rfl ?_
  refine zi_iconst F dX10_execute_17 ?_
  by_cases hf : r.1 = -1
  rotate_left
  · refine zi_icmp_eq (tgt := 37) F dX10_execute_18 (by decide) (by first | omega | (dsimp only at *; omega)) (fun c18 => False.elim (by first | omega | (dsimp only at *; omega))) (fun c18 => ?_)
    have hq0 : 0 ≤ r.1 := by omega
    refine z_aload_n F dX10_execute_21 rfl rfl ?_
    refine z_iload_n F dX10_execute_22 rfl rfl ?_
    refine z_putfield F fp_X10_51 dX10_execute_23 (zmut_of F (by omega)) R4.2.1 (by decide) (Nat.le_of_ble_eq_true rfl) ⟨rfl, rfl⟩ ?_
    exact z_throwSW F B thr_X10_321_323_325 dX10_execute_26 dX10_execute_29 dX10_execute_30 dX10_execute_33 dX10_execute_36 (by decide) (by decide) (by decide) (by decide) (fun j => Or.inl ⟨by omega, rfl, T', (R4.obj (S := f_tx S (T', 0)) (zSame.rf.set (c := (12, (zBf o (f_tx S (T', 0))).set 8 (.int (iI r.1)))) rfl) (B := S.2.1.2) (M := (r.1, S.2.2.2.2.2)) (zset_same R4.2.1)).junkR _⟩)
  refine zi_icmp_eq (tgt := 37) F dX10_execute_18 (by decide) (by first | omega | (dsimp only at *; omega)) (fun c18 => ?_) (fun c18 => False.elim (by first | omega | (dsimp only at *; omega)))
  refine z_aload_n F dX10_execute_37 rfl rfl ?_
  refine z_getfield F fl_X10_22 dX10_execute_38 R4.2.1 (by decide) rfl ?_
  refine z_aload_n F dX10_execute_41 rfl rfl ?_
  refine z_getfield F fl_X10_12 dX10_execute_42 R4.2.1 (by decide) rfl ?_
  refine z_callV F B cal_yX6_prepare (m_prepare R4) dX10_execute_45 rfl rfl (Nat.le_of_ble_eq_true rfl) (by decide) (by decide) (by decide) ml_X10_62 im_yX6_prepare se_yX6_prepare (R4.2.2.2.2.1.choose_spec.1) (by decide) rfl rfl (fun v hX qX => ?_) (fun C h1 q => q.elim)
  obtain ⟨rfl, R5⟩ := qX
  refine zi_iconst F dX10_execute_48 ?_
  refine z_istore_n F dX10_execute_49 rfl rfl (hnl _ rfl) ?_
  skip
  have hlen : r.2.length ≤ 10 := hcs.1
  suffices KK : ∀ (n i : Nat) (S2 : zBt) (h3 : zH), n + i = r.2.length → zRB o S2 h3 → S2.2.2.2.1 = (T', 0) → G (K + 2100 * i) S2.1 → f_run r.2 0 (f_tx (f_prep S) (T', 0)) = f_run (r.2.drop i) i S2 → Z X 0 0 50 [(2, .int (iI (i : Int))), (0, .ref o)] [] h3 from Z.keys [2, 0] rfl (KK r.2.length 0 _ _ rfl R5 rfl hO rfl)
  clear R5
  rw [f_run_tx]
  intro n
  induction n with
  | zero =>
    intro i S2 h3 hi R6 eT2 hO2 hE
    have hi2 : i = r.2.length := by omega
    have ed : r.2.drop i = [] := List.drop_eq_nil_of_le (by omega)
    rw [ed] at hE
    have rt := R6.2.2.2.2.2.2.2.2.1
    rw [eT2] at rt
    unfold zTt at rt
    change zTx (o + 187) T' 0 (T' 60) (T' 61) (zTk T') h3 at rt
    rw [e60] at rt
    have hE1 : f_tx (f_run r.2 0 (f_prep S)).1 (T', 0) = f_keep S2 := congrArg Prod.fst hE
    have hE2 : (f_run r.2 0 (f_prep S)).2 = true := congrArg Prod.snd hE
    refine z_iload_n F dX10_execute_50 rfl rfl ?_
    refine z_aload_n F dX10_execute_51 rfl rfl ?_
    refine z_getfield F fl_X10_47 dX10_execute_52 R6.2.1 (by decide) rfl ?_
    refine z_getfield F fl_X10_326 dX10_execute_55 rt.1 (by decide) rfl ?_
    refine zi_icmp_ge (tgt := 133) F dX10_execute_58 (by decide) (by first | omega | (dsimp only at *; omega)) (fun c58 => ?_) (fun c58 => False.elim (by first | omega | (dsimp only at *; omega)))
    refine z_aload_n F dX10_execute_133 rfl rfl ?_
    refine z_getfield F fl_X10_22 dX10_execute_134 R6.2.1 (by decide) rfl ?_
    refine z_callV F B cal_yX6_keep (m_hkeep (by omega) R6.2.2.2.2.1) dX10_execute_137 rfl rfl (Nat.le_of_ble_eq_true rfl) (by decide) (by decide) (by decide) ml_X10_352 im_yX6_keep se_yX6_keep (R6.2.2.2.2.1.choose_spec.1) (by decide) rfl rfl (fun v hX qX => ?_) (fun C h1 q => q.elim)
    obtain ⟨rfl, H7, s7⟩ := qX
    have R7 : zRB o (f_keep S2) hX := R6.hist2 s7 H7
    have rt7 := R7.2.2.2.2.2.2.2.2.1
    rw [show (f_keep S2).2.2.2.1 = (T', 0) from eT2] at rt7
    unfold zTt at rt7
    change zTx (o + 187) T' 0 (T' 60) (T' 61) (zTk T') hX at rt7
    rw [e60] at rt7
    refine z_aload_n F dX10_execute_140 rfl rfl ?_
    refine z_getfield F fl_X10_47 dX10_execute_141 R7.2.1 (by decide) rfl ?_
    refine z_getfield F fl_X10_326 dX10_execute_144 rt7.1 (by decide) rfl ?_
    exact Z.widen (by decide) (by decide) (z_ireturn F rfl B dX10_execute_147 ⟨⟨by omega, hE2, rfl⟩, T', by rw [hE1]; exact R7⟩)
  | succ n ih =>
    intro i S2 h3 hi R6 eT2 hO2 hE
    have hil : i < r.2.length := by omega
    have hi10 : i < 10 := by omega
    rw [List.drop_eq_getElem_cons hil, show r.2[i] = r.2.getD i (0, []) by rw [List.getD_eq_getElem?_getD, List.getElem?_eq_getElem hil]; rfl] at hE
    have hci := hcs.2 i hil
    have hKi := hK1 i hil
    generalize hce : r.2.getD i (0, []) = c at hE hci hKi
    have rt := R6.2.2.2.2.2.2.2.2.1
    rw [eT2] at rt
    unfold zTt at rt
    change zTx (o + 187) T' 0 (T' 60) (T' 61) (zTk T') h3 at rt
    rw [e60] at rt
    have ek1 : (zTk S2.2.2.2.1.1 i).1 = c.1 := by rw [eT2]; exact (eK i hi10).1.trans hKi.1
    have har : f_ar c.1 ≤ 4 := (show ∀ k, k < 8 → f_ar k ≤ 4 by decide +kernel) c.1 hci.1
    have ekV : ∀ j, j < f_ar c.1 → (zTk S2.2.2.2.1.1 i).2 j = c.2.getD j 0 := fun j hj => by rw [eT2]; exact ((eK i hi10).2 j (by omega)).trans (hKi.2 j (by omega))
    have ep := f_perf_congr (C := S2.1) ekV
    have hpb := f_perf_b (k := c.1) (V := fun j => c.2.getD j 0) (hGo _ _ hO2) (by omega)
    have hO3 := hG S2.1 c.1 (fun j => c.2.getD j 0) _ hO2
    rw [f_run_cons] at hE
    have Bs3 : zRs h3 → zRs h3 := fun q => q
    refine z_ro F (fun hro3 => ?_)
    have Bs3 : zRs h3 := Bs.cong (fun a ha => by rw [hro3 a ha, hro a ha])
    refine z_iload_n F dX10_execute_50 rfl rfl ?_
    refine z_aload_n F dX10_execute_51 rfl rfl ?_
    refine z_getfield F fl_X10_47 dX10_execute_52 R6.2.1 (by decide) rfl ?_
    refine z_getfield F fl_X10_326 dX10_execute_55 rt.1 (by decide) rfl ?_
    refine zi_icmp_ge (tgt := 133) F dX10_execute_58 (by decide) (by first | omega | (dsimp only at *; omega)) (fun c58 => False.elim (by first | omega | (dsimp only at *; omega))) (fun c58 => ?_)
    refine z_aload_n F dX10_execute_61 rfl rfl ?_
    refine z_aload_n F dX10_execute_62 rfl rfl ?_
    refine z_getfield F fl_X10_47 dX10_execute_63 R6.2.1 (by decide) rfl ?_
    refine z_getfield F fl_X10_329 dX10_execute_66 rt.1 (by decide) rfl ?_
    refine z_iload_n F dX10_execute_69 rfl rfl ?_
    refine zi_aaload (i := i) F dX10_execute_70 rt.2.2.1 (by decide) (by decide) rfl rfl (by omega) (zar_get (by omega)) rfl ?_
    rw [show o + 187 + 3 + 2 * i = o + 190 + 2 * i by omega]
    refine z_callV F B cal_yX10_perform (m_perform hi10 ek1 rfl (fun j hj => by rw [ekV j hj]; have := hci.2.2 j (by omega); unfold zI32; omega) Bs3 R6 (hGo _ _ hO2) (by omega)) dX10_execute_71 rfl rfl (Nat.le_of_ble_eq_true rfl) (by decide) (by decide) (by decide) ml_X10_333 im_yX10_perform se_yX10_perform R6.2.1 (by decide) rfl rfl (fun v hX qX => ?_) (fun C h1 q => q.elim)
    obtain ⟨rfl, R7⟩ := qX
    rw [ep] at R7 ⊢
    generalize hpe : f_perf S2.1 c.1 (fun j => c.2.getD j 0) = pr at hE hpb R7 hO3 ⊢
    refine z_istore_n F dX10_execute_74 rfl rfl (hnl _ rfl) ?_
    refine z_iload_n F dX10_execute_75 rfl rfl ?_
    refine zi_if_ge (tgt := 127) F dX10_execute_76 (by decide) (by have := hpb.1.1; have := hpb.1.2; omega) (fun c76 => ?_) (fun c76 => ?_)
    · rw [if_neg (by omega)] at hE
      refine zi_iinc F dX10_execute_127 rfl rfl (hnl _ rfl) ?_
      refine z_goto (tgt := 50) F dX10_execute_130 (by decide) ?_
      exact Z.keys [2, 0] rfl (ih (i + 1) (f_put S2 pr) _ (by omega) R7 eT2 (by rw [show K + 2100 * (i + 1) = K + 2100 * i + 2100 by omega]; exact hO3) hE)
    · rw [if_pos (by omega)] at hE
      have hE1 : f_tx (f_run r.2 0 (f_prep S)).1 (T', 0) = f_back (f_put S2 pr) i pr.1 := congrArg Prod.fst hE
      have hE2 : (f_run r.2 0 (f_prep S)).2 = false := congrArg Prod.snd hE
      refine z_aload_n F dX10_execute_79 rfl rfl ?_
      refine z_getfield F fl_X10_22 dX10_execute_80 R7.2.1 (by decide) rfl ?_
      refine z_aload_n F dX10_execute_83 rfl rfl ?_
      refine z_getfield F fl_X10_12 dX10_execute_84 R7.2.1 (by decide) rfl ?_
      refine z_callV F B cal_yX6_rollBack (m_hroll (by omega) (by omega) (by omega) R7.2.2.2.2.1 R7.2.2.1) dX10_execute_87 rfl rfl (Nat.le_of_ble_eq_true rfl) (by decide) (by decide) (by decide) ml_X10_337 im_yX6_rollBack se_yX6_rollBack (R7.2.2.2.2.1.choose_spec.1) (by decide) rfl rfl (fun v hX qX => ?_) (fun C h1 q => q.elim)
      obtain ⟨rfl, K8, s8⟩ := qX
      have R8 := R7.coast s8 K8
      refine z_iload_n F dX10_execute_90 rfl rfl ?_
      refine zi_bipush F dX10_execute_91 (by decide) ?_
      refine zi_icmp_ne (tgt := 103) F dX10_execute_93 (by decide) (by first | omega | (dsimp only at *; omega)) (fun c93 => ?_) (fun c93 => ?_)
      · refine zi_bipush F dX10_execute_103 (by decide) ?_
        refine z_istore F dX10_execute_105 rfl (hnl _ rfl) ?_
        refine z_aload_n F dX10_execute_107 rfl rfl ?_
        refine zi_bipush F dX10_execute_108 (by decide) ?_
        refine z_iload_n F dX10_execute_110 rfl rfl ?_
        refine z_iload F dX10_execute_111 rfl ?_
        refine z_callV F B cal_yX10_keepDenial (m_keepDenial R8) dX10_execute_113 rfl rfl (Nat.le_of_ble_eq_true rfl) (by decide) (by decide) (by decide) ml_X10_343 im_yX10_keepDenial se_yX10_keepDenial R8.2.1 (by decide) rfl rfl (fun v hX qX => ?_) (fun C h1 q => q.elim)
        obtain ⟨rfl, R9⟩ := qX
        exact z_throwSW F B thr_X10_347_349_351 dX10_execute_116 dX10_execute_119 dX10_execute_120 dX10_execute_123 dX10_execute_126 (by decide) (by decide) (by decide) (by decide) (fun j => Or.inr ⟨by omega, hE2, rfl, T', by rw [hE1]; unfold f_back; first | (rw [if_pos c93]; exact R9.junkR _) | (rw [if_neg c93]; exact R9.junkR _)⟩)
      · refine z_aload_n F dX10_execute_96 rfl rfl ?_
        refine z_getfield F fl_X10_340 dX10_execute_97 R8.2.1 (by decide) rfl ?_
        refine z_goto (tgt := 105) F dX10_execute_100 (by decide) ?_
        refine z_istore F dX10_execute_105 rfl (hnl _ rfl) ?_
        refine z_aload_n F dX10_execute_107 rfl rfl ?_
        refine zi_bipush F dX10_execute_108 (by decide) ?_
        refine z_iload_n F dX10_execute_110 rfl rfl ?_
        refine z_iload F dX10_execute_111 rfl ?_
        refine z_callV F B cal_yX10_keepDenial (m_keepDenial R8) dX10_execute_113 rfl rfl (Nat.le_of_ble_eq_true rfl) (by decide) (by decide) (by decide) ml_X10_343 im_yX10_keepDenial se_yX10_keepDenial R8.2.1 (by decide) rfl rfl (fun v hX qX => ?_) (fun C h1 q => q.elim)
        obtain ⟨rfl, R9⟩ := qX
        exact z_throwSW F B thr_X10_347_349_351 dX10_execute_116 dX10_execute_119 dX10_execute_120 dX10_execute_123 dX10_execute_126 (by decide) (by decide) (by decide) (by decide) (fun j => Or.inr ⟨by omega, hE2, rfl, T', by rw [hE1]; unfold f_back; first | (rw [if_pos c93]; exact R9.junkR _) | (rw [if_neg c93]; exact R9.junkR _)⟩)
end
