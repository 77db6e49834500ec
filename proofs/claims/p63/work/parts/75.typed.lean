/-! signs are fed; a text is typed; the law's execute -/
def f_feed (S : zBt) (c : Nat) : zBt := f_tx S (zup S.2.2.2.1.1 S.2.2.2.1.2 c, S.2.2.2.1.2 + 1)
def f_ty (l : List Nat) (S : zBt) : zBt := l.foldl f_feed S
theorem f_ty_snoc (l : List Nat) (c : Nat) (S : zBt) : f_ty (l ++ [c]) S = f_feed (f_ty l S) c := by
  unfold f_ty
  rw [List.foldl_append]
  rfl
theorem f_ty_len : ∀ (l : List Nat) (S : zBt), (f_ty l S).2.2.2.1.2 = S.2.2.2.1.2 + l.length
  | [], S => rfl
  | c :: l, S => by
    show (f_ty l (f_feed S c)).2.2.2.1.2 = _
    rw [f_ty_len l (f_feed S c)]
    show S.2.2.2.1.2 + 1 + l.length = S.2.2.2.1.2 + (l.length + 1)
    omega
theorem f_ty_low : ∀ (l : List Nat) (S : zBt) (j : Nat), j < S.2.2.2.1.2 → (f_ty l S).2.2.2.1.1 j = S.2.2.2.1.1 j
  | [], S, j, _ => rfl
  | c :: l, S, j, h => by
    show (f_ty l (f_feed S c)).2.2.2.1.1 j = _
    rw [f_ty_low l (f_feed S c) j (Nat.lt_succ_of_lt h)]
    exact zup_n (Nat.ne_of_lt h)
theorem f_ty_get : ∀ (l : List Nat) (S : zBt) (j : Nat), j < l.length → (f_ty l S).2.2.2.1.1 (S.2.2.2.1.2 + j) = l.getD j 0
  | [], S, j, h => absurd h (Nat.not_lt_zero _)
  | c :: l, S, 0, h => by
    show (f_ty l (f_feed S c)).2.2.2.1.1 (S.2.2.2.1.2 + 0) = c
    rw [Nat.add_zero, f_ty_low l (f_feed S c) _ (Nat.lt_succ_self _)]
    exact zup_s _ _ _
  | c :: l, S, j + 1, h => by
    show (f_ty l (f_feed S c)).2.2.2.1.1 (S.2.2.2.1.2 + (j + 1)) = l.getD j 0
    rw [← f_ty_get l (f_feed S c) j (Nat.lt_of_succ_lt_succ h)]
    exact congrArg (f_ty l (f_feed S c)).2.2.2.1.1 (by show S.2.2.2.1.2 + (j + 1) = S.2.2.2.1.2 + 1 + j; omega)
theorem f_ty_tx : ∀ (l : List Nat) (S : zBt), f_ty l S = f_tx S (f_ty l S).2.2.2.1
  | [], S => rfl
  | c :: l, S => by
    show f_ty l (f_feed S c) = f_tx S (f_ty l (f_feed S c)).2.2.2.1
    have := f_ty_tx l (f_feed S c)
    generalize (f_ty l (f_feed S c)).2.2.2.1 = x at this
    rw [this]
    rfl
theorem f_ty_is {l : List Nat} {S : zBt} (h0 : S.2.2.2.1.2 = 0) (h1 : l.length ≤ 60) (h2 : ∀ i, i < l.length → l.getD i 0 < 128) : zIs (f_ty l S).2.2.2.1.1 l := ⟨h1, fun i hi => by
  have := f_ty_get l S i hi
  rw [h0, Nat.zero_add] at this
  exact ⟨this, h2 i hi⟩⟩
theorem zTx.sign {t len cn ps i c : Nat} {T : Nat → Nat} {Kc : Nat → Nat × (Nat → Nat)} {h : zH} (R : zTx t T len cn ps Kc h) : zTx t (zup T i c) len cn ps Kc (h.set (t + 1) (103, (zar 60 (fun i => .int (iI (T i)))).set i (.int (iI (c : Int))))) := by
  refine ⟨zkeep R.1 (by omega), ?_, zkeep R.2.2.1 (by omega), fun i hi => ⟨zkeep (R.2.2.2 i hi).1 (by omega), zkeep (R.2.2.2 i hi).2.1 (by omega), (R.2.2.2 i hi).2.2⟩⟩
  rw [zset_same R.2.1, zar_set]
  congr 3
  funext q
  by_cases e : q = i
  · subst e; simp [zup]
  · simp [zup, e]
theorem zTt.sg {t len c : Nat} {T : Nat → Nat} {h : zH} (hl : len < 60) (r2 : zTx t (zup T len c) (len + 1) (T 60) (T 61) (zTk T) h) : zTt t (zup T len c) (len + 1) h := by
  unfold zTt
  rw [zup_n (by omega), zup_n (by omega)]
  refine r2.congr (fun _ _ => rfl) (fun i hi => ⟨?_, fun j hj => ?_⟩)
  · show zup T len c (62 + 5 * i) = _
    rw [zup_n (by omega)]
    rfl
  · show zup T len c (63 + 5 * i + j) = _
    rw [zup_n (by omega)]
    rfl
theorem zSr.cong {s : Nat} {l : List Nat} {h h' : zH} (R : zSr s l h) (e : ∀ a, a < zNR → h'[a]? = h[a]?) : zSr s l h' := by
  obtain ⟨h0, b, hb, h1, h2, h3⟩ := R
  exact ⟨h0, b, hb, (e _ h0).trans h1, (e _ hb).trans h2, h3⟩
theorem roTxt_128 : ∀ k, k < 24 → (roTxt.getD k []).length ≤ 60 ∧ ∀ i, i < (roTxt.getD k []).length → (roTxt.getD k []).getD i 0 < 128 := by decide +kernel
theorem zRs.text {h : zH} (B : zRs h) {k : Nat} (hk : k < 24) : zSr (29 + k) (roTxt.getD k []) h := ⟨by unfold zNR; omega, 53 + k, by unfold zNR; omega, (B.2.2.2.2.2.2 k hk).1, (B.2.2.2.2.2.2 k hk).2, (roTxt_128 k hk).2, by have := (roTxt_128 k hk).1; omega⟩
def f_exe (S : zBt) (r : Int × List (Nat × List Nat)) : zBt × Int := if r.1 = -1 then ((f_run r.2 0 (f_prep S)).1, if (f_run r.2 0 (f_prep S)).2 = true then (r.2.length : Int) else -100000000) else (f_flt S r.1, -100000000)
section
variable {o K : Nat} {S : zBt} {h : zH}
theorem m_feed {c : Nat} (hc : c < 128) (hl : S.2.2.2.1.2 < 60) (R : zRB o S h) : zMet yX10_feed cX10_feed 2 (some .int) 1 0 0 [.ref o, .int (iI (c : Int))] h (fun v h' => v = some (.int (iI ((S.2.2.2.1.2 + 1 : Nat) : Int))) ∧ zRB o (f_feed S c) h') (fun _ _ => False) := by
  refine zMet.go (by decide +kernel) (Nat.le_of_ble_eq_true rfl) ?_
  intro X F B hnl hR hn
  have z := R.1
  have r0 := R.2.1
  have rt : zTx (o + 187) S.2.2.2.1.1 S.2.2.2.1.2 (S.2.2.2.1.1 60) (S.2.2.2.1.1 61) (zTk S.2.2.2.1.1) h := R.2.2.2.2.2.2.2.2.1
  have r1 := rt.sign (i := S.2.2.2.1.2) (c := c)
  have r2 := r1.obj (S.2.2.2.1.2 + 1) (S.2.2.2.1.1 60) (S.2.2.2.1.1 61)
  have r3 := zTt.sg hl r2
  refine z_aload_n F dX10_feed_0 rfl rfl ?_
  refine z_getfield F fl_X10_47 dX10_feed_1 r0 (by decide) rfl ?_
  refine z_getfield F fl_X10_305 dX10_feed_4 rt.1 (by decide) rfl ?_
  refine zi_bipush F dX10_feed_7 (by decide) ?_
  refine zi_icmp_lt (tgt := 23) F dX10_feed_9 (by decide) (by first | omega | (dsimp only at *; omega)) (fun c9 => ?_) (fun c9 => False.elim (by first | omega | (dsimp only at *; omega)))
  refine z_aload_n F dX10_feed_23 rfl rfl ?_
  refine z_getfield F fl_X10_47 dX10_feed_24 r0 (by decide) rfl ?_
  refine z_getfield F fl_X10_313 dX10_feed_27 rt.1 (by decide) rfl ?_
  refine z_aload_n F dX10_feed_30 rfl rfl ?_
  refine z_getfield F fl_X10_47 dX10_feed_31 r0 (by decide) rfl ?_
  refine z_getfield F fl_X10_305 dX10_feed_34 rt.1 (by decide) rfl ?_
  refine z_iload_n F dX10_feed_37 rfl rfl ?_
  refine zi_castore (i := S.2.2.2.1.2) F dX10_feed_38 (zmut_of F (by omega)) rt.2.1 rfl (by rw [zar_len]; omega) ?_
  rw [ch_nar0 c hc]
  refine z_aload_n F dX10_feed_39 rfl rfl ?_
  refine z_getfield F fl_X10_47 dX10_feed_40 (zkeep r0 (by omega)) (by decide) rfl ?_
  refine z_dup F dX10_feed_43 rfl ?_
  refine z_getfield F fl_X10_305 dX10_feed_44 r1.1 (by decide) rfl ?_
  refine zi_iconst F dX10_feed_47 ?_
  refine zi_iadd F dX10_feed_48 ?_
  refine z_putfield F fp_X10_305 dX10_feed_49 (zmut_of F (by omega)) r1.1 (by decide) (Nat.le_of_ble_eq_true rfl) ⟨rfl, rfl⟩ ?_
  refine z_aload_n F dX10_feed_52 rfl rfl ?_
  refine z_getfield F fl_X10_47 dX10_feed_53 (zkeep (zkeep r0 (by omega)) (by omega)) (by decide) rfl ?_
  refine z_getfield F fl_X10_305 dX10_feed_56 r2.1 (by decide) rfl ?_
  exact Z.widen (by decide) (by decide) (z_ireturn F rfl B dX10_feed_59 ⟨rfl, R.txt ((zSame.rf.set ⟨by omega, by omega⟩).set ⟨by omega, by omega⟩) r3⟩)
theorem w_put {c : Nat} (hc : c < 128) (hl : S.2.2.2.1.2 < 60) (R : zRB o S h) : zMetH yL_put cL_put 3 (some .boolean) [(0, 6, 9, 99)] 2 0 0 [.ref o, .int (iI (c : Int))] h (fun v h' => v = some (.int (iI 1)) ∧ zRB o (f_feed S c) h') (fun _ _ => False) := by
  refine zMetH.go (by decide +kernel) (Nat.le_of_ble_eq_true rfl) ?_
  intro X F B hnl hR hn
  have r0 := R.2.1
  refine z_aload_n F dL_put_0 rfl rfl ?_
  refine z_iload_n F dL_put_1 rfl rfl ?_
  skip
  refine z_callVH F B cal_yX10_feed (m_feed hc hl R) dL_put_2 rfl rfl (Nat.le_of_ble_eq_true rfl) (by decide) (by decide) (by decide) ml_L_104 im_yX10_feed se_yX10_feed r0 (by decide) rfl rfl (fun v hX qX => ?_) (fun D hX qX => qX.elim)
  obtain ⟨rfl, R1⟩ := qX
  refine z_pop F dL_put_5 rfl ?_
  refine z_goto (tgt := 12) F dL_put_6 (by decide) ?_
  refine zi_iconst F dL_put_12 ?_
  exact Z.widen (by decide) (by decide) (z_ireturnH F rfl B dL_put_13 ⟨rfl, R1⟩)
theorem m_typed {s : Nat} {l : List Nat} (G : zSr s l h) (hl : S.2.2.2.1.2 + l.length ≤ 60) (R : zRB o S h) : zMet yL_typed cL_typed 3 (some (.object "BeamChart")) 5 0 0 [.ref o, .ref s] h (fun v h' => v = some (.ref o) ∧ zRB o (f_ty l S) h') (fun _ _ => False) := by
  refine zMet.go (by decide +kernel) (Nat.le_of_ble_eq_true rfl) ?_
  intro X F B hnl hR hn
  have hl128 : ∀ i, i < l.length → l.getD i 0 < 128 := by obtain ⟨_, b, _, _, _, q, _⟩ := G; exact q
  refine z_ro F (fun hro => ?_)
  suffices KK : ∀ (n i : Nat) (h1 : zH), n + i = l.length → zRB o (f_ty (l.take i) S) h1 → Z X 0 0 2 [(2, .int (iI (i : Int))), (0, .ref o), (1, .ref s)] [] h1 by
    refine zi_iconst F dL_typed_0 ?_
    refine z_istore_n F dL_typed_1 rfl rfl (hnl _ rfl) ?_
    exact Z.keys [2, 0, 1] rfl (KK l.length 0 h rfl R)
  intro n
  induction n with
  | zero =>
    intro i h1 hi R1
    refine z_ro F (fun hro1 => ?_)
    have G1 := G.cong (fun a ha => (hro1 a ha).trans (hro a ha).symm)
    have hil : i = l.length := by omega
    subst hil
    rw [List.take_length] at R1
    refine z_iload_n F dL_typed_2 rfl rfl ?_
    refine z_aload_n F dL_typed_3 rfl rfl ?_
    refine z_callV F B cal_yJ0_length_8abf5 (m_strlen G1.g) dL_typed_4 rfl rfl (Nat.le_of_ble_eq_true rfl) (by decide) (by decide) (by decide) ml_L_108 im_yJ0_length_8abf5 se_yJ0_length_8abf5 G1.g.choose_spec.1 (by decide) rfl rfl (fun v hX qX => ?_) (fun C h1 q => q.elim)
    obtain ⟨rfl, qX⟩ := qX
    rw [qX]
    clear qX hX
    refine zi_icmp_ge (tgt := 26) F dL_typed_7 (by decide) (by first | omega | (dsimp only at *; omega)) (fun c7 => ?_) (fun c7 => False.elim (by first | omega | (dsimp only at *; omega)))
    refine z_aload_n F dL_typed_26 rfl rfl ?_
    exact Z.widen (by decide) (by decide) (z_areturn F (Or.inl ⟨_, rfl⟩) B dL_typed_27 ⟨rfl, R1⟩)
  | succ n ih =>
    intro i h1 hi R1
    refine z_ro F (fun hro1 => ?_)
    have G1 := G.cong (fun a ha => (hro1 a ha).trans (hro a ha).symm)
    have hil : i < l.length := by omega
    have ht : (l.take i).length = i := by rw [List.length_take]; omega
    have hlen := f_ty_len (l.take i) S
    rw [ht] at hlen
    refine z_iload_n F dL_typed_2 rfl rfl ?_
    refine z_aload_n F dL_typed_3 rfl rfl ?_
    refine z_callV F B cal_yJ0_length_8abf5 (m_strlen G1.g) dL_typed_4 rfl rfl (Nat.le_of_ble_eq_true rfl) (by decide) (by decide) (by decide) ml_L_108 im_yJ0_length_8abf5 se_yJ0_length_8abf5 G1.g.choose_spec.1 (by decide) rfl rfl (fun v hX qX => ?_) (fun C h1 q => q.elim)
    obtain ⟨rfl, qX⟩ := qX
    rw [qX]
    clear qX hX
    refine zi_icmp_ge (tgt := 26) F dL_typed_7 (by decide) (by first | omega | (dsimp only at *; omega)) (fun c7 => False.elim (by first | omega | (dsimp only at *; omega))) (fun c7 => ?_)
    refine z_aload_n F dL_typed_10 rfl rfl ?_
    refine z_aload_n F dL_typed_11 rfl rfl ?_
    refine z_iload_n F dL_typed_12 rfl rfl ?_
    refine z_callV F B cal_yJ0_charAt_5068e (m_charAt G1.g hil) dL_typed_13 rfl rfl (Nat.le_of_ble_eq_true rfl) (by decide) (by decide) (by decide) ml_L_113 im_yJ0_charAt_5068e se_yJ0_charAt_5068e G1.g.choose_spec.1 (by decide) rfl rfl (fun v hX qX => ?_) (fun C h1 q => q.elim)
    obtain ⟨rfl, qX⟩ := qX
    rw [qX]
    clear qX hX
    refine z_callSH F B calH_yL_put (w_put (hl128 i hil) (by omega) R1) dL_typed_16 rfl rfl (Nat.le_of_ble_eq_true rfl) (by decide) (by decide) (by decide) ml_L_117 st_yL_put (fun v hX qX => ?_) (fun C h1 q => q.elim)
    obtain ⟨rfl, R2⟩ := qX
    refine z_pop F dL_typed_19 rfl ?_
    refine zi_iinc F dL_typed_20 rfl rfl (hnl _ rfl) ?_
    refine z_goto (tgt := 2) F dL_typed_23 (by decide) ?_
    exact Z.keys [2, 0, 1] rfl (ih (i + 1) _ (by omega) (by rw [show l.take (i + 1) = l.take i ++ [l.getD i 0] by rw [List.take_succ, List.getD_eq_getElem?_getD, List.getElem?_eq_getElem hil]; rfl, f_ty_snoc]; exact R2))
theorem w_execute {tx : List Nat} {r : Int × List (Nat × List Nat)} (hr : f_prs tx 10 0 [] = r) (hcs : zCs r.2) (hq : -1 ≤ r.1 ∧ r.1 < 100) (Bs : zRs h) (I : zIs S.2.2.2.1.1 tx) (htl : S.2.2.2.1.2 = tx.length) (R : zRB o S h) {G : Nat → zCo → Prop} (hO : G K S.1) (hGo : ∀ n C, G n C → zOk n C) (hG : ∀ C k V n, G n C → G (n + 2100) (f_perf C k V).2.1) (hK : K < 1500000) : zMetH yL_execute cL_execute 3 (some .int) [(3, 8, 11, 19), (3, 8, 15, 21)] 11 1 6 [.ref o] h (fun v h' => v = some (.int (iI (f_exe S r).2)) ∧ ∃ T', zRB o (f_tx (f_exe S r).1 (T', 0)) h') (fun _ _ => False) := by
  refine zMetH.go (by decide +kernel) (Nat.le_of_ble_eq_true rfl) ?_
  intro X F B hnl hR hn
  have r0 := R.2.1
  refine z_ldc F dL_execute_0 zw_den ?_
  refine z_istore_n F dL_execute_2 rfl rfl (hnl _ rfl) ?_
  refine z_aload_n F dL_execute_3 rfl rfl ?_
  skip
  refine z_callVH F B cal_yX10_execute (m_execute hr hcs hq Bs I htl R hO hGo hG hK) dL_execute_4 rfl rfl (Nat.le_of_ble_eq_true rfl) (by decide) (by decide) (by decide) ml_L_86 im_yX10_execute se_yX10_execute r0 (by decide) rfl rfl (fun v hX qX => ?_) (fun D hX qX => ?_)
  · obtain ⟨⟨q1, q2, rfl⟩, T', R1⟩ := qX
    refine z_istore_n F dL_execute_7 rfl rfl (hnl _ rfl) ?_
    refine z_goto (tgt := 19) F dL_execute_8 (by decide) ?_
    refine z_iload_n F dL_execute_19 rfl rfl ?_
    exact Z.widen (by decide) (by decide) (z_ireturnH F rfl B dL_execute_20 ⟨by unfold f_exe; rw [if_pos q1]; dsimp only; rw [if_pos q2], T', by unfold f_exe; rw [if_pos q1]; exact R1⟩)
  · rcases qX with ⟨q1, rfl, T', R1⟩ | ⟨q1, q2, rfl, T', R1⟩
    · refine ⟨[], [(3, 8, 15, 21)], 3, 8, 11, 19, 2, 1, rfl, rfl, by decide, (fun q hq => absurd hq List.not_mem_nil), zw_cl_19, zw_in_xA, Or.inl ⟨2, rfl, rfl, dL_execute_11⟩, rfl, rfl, hnl _ rfl, ?_⟩
      refine z_ldc F dL_execute_12 zw_den ?_
      exact Z.widen (by decide) (by decide) (z_ireturnH F rfl B dL_execute_14 ⟨by unfold f_exe; rw [if_neg q1], T', by unfold f_exe; rw [if_neg q1]; exact R1⟩)
    · refine ⟨[(3, 8, 11, 19)], [], 3, 8, 15, 21, 2, 1, rfl, rfl, by decide, (by intro q hq; simp only [List.mem_cons, List.not_mem_nil, or_false] at hq; subst hq; exact ⟨by decide, _, zw_cl_19, by decide +kernel⟩), zw_cl_21, zw_in_xU, Or.inl ⟨2, rfl, rfl, dL_execute_15⟩, rfl, rfl, hnl _ rfl, ?_⟩
      refine z_ldc F dL_execute_16 zw_den ?_
      exact Z.widen (by decide) (by decide) (z_ireturnH F rfl B dL_execute_18 ⟨by unfold f_exe; rw [if_pos q1]; dsimp only; rw [if_neg (by rw [q2]; decide)], T', by unfold f_exe; rw [if_pos q1]; exact R1⟩)
end
