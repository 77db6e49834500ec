/-! the law's look at an arrival -/
/-- the same state but for the history, which holds no coast that is new -/
def zSh (S S' : zBt) : Prop := S'.1 = S.1 ∧ S'.2.1 = S.2.1 ∧ S'.2.2.2 = S.2.2.2 ∧ ∀ i, S'.2.2.1.2.2 i = S.1 ∨ ∃ j, S'.2.2.1.2.2 i = S.2.2.1.2.2 j
theorem zSh.rf (S : zBt) : zSh S S := ⟨rfl, rfl, rfl, fun i => Or.inr ⟨i, rfl⟩⟩
theorem zSh.tr {S S' S'' : zBt} (a : zSh S S') (b : zSh S' S'') : zSh S S'' := ⟨b.1.trans a.1, b.2.1.trans a.2.1, b.2.2.1.trans a.2.2.1, fun i => by
  rcases b.2.2.2 i with h | ⟨j, h⟩
  · exact Or.inl (h.trans a.1)
  · rcases a.2.2.2 j with h2 | ⟨j2, h2⟩
    · exact Or.inl (h.trans h2)
    · exact Or.inr ⟨j2, h.trans h2⟩⟩
theorem zSh.gs {K : Nat} {S S' : zBt} (a : zSh S S') (h : zGS K S) : zGS K S' := ⟨by rw [a.1]; exact h.1, by rw [a.2.1]; exact h.2.1, fun i => by
  rcases a.2.2.2 i with e | ⟨j, e⟩
  · rw [e]; exact h.1
  · rw [e]; exact h.2.2 j⟩
/-- a change and its undoing -/
theorem zSh_undo {S : zBt} {r : zCh} (hf : S.2.2.1.1 < 8) (hc : S.2.2.1.2.1 ≤ 8) (hd : r.2.2 = none) : zSh S (f_undo (f_keep (f_put (f_prep S) r))) := by
  have hH : ∀ i, (zsw (zup S.2.2.1.2.2 8 S.1) ((S.2.2.1.1 + S.2.2.1.2.1) % 8)) i = S.1 ∨ ∃ j, (zsw (zup S.2.2.1.2.2 8 S.1) ((S.2.2.1.1 + S.2.2.1.2.1) % 8)) i = S.2.2.1.2.2 j := fun i => by
    have hz : ∀ j, zup S.2.2.1.2.2 8 S.1 j = S.1 ∨ ∃ k, zup S.2.2.1.2.2 8 S.1 j = S.2.2.1.2.2 k := fun j => by
      unfold zup
      split
      · exact Or.inl rfl
      · exact Or.inr ⟨j, rfl⟩
    unfold zsw
    (repeat' split) <;> exact hz _
  refine ⟨?_, rfl, ?_, hH⟩
  · show zsw (zup S.2.2.1.2.2 8 S.1) ((S.2.2.1.1 + S.2.2.1.2.1) % 8) ((f_kf S.2.2.1.1 S.2.2.1.2.1 + (f_kc S.2.2.1.2.1 - 1)) % 8) = S.1
    have e : (f_kf S.2.2.1.1 S.2.2.1.2.1 + (f_kc S.2.2.1.2.1 - 1)) % 8 = (S.2.2.1.1 + S.2.2.1.2.1) % 8 := by
      unfold f_kf f_kc
      (repeat' split) <;> omega
    rw [e]
    unfold zsw
    rw [if_pos rfl]
    exact zup_s _ _ _
  · show (S.2.2.2.1, f_den S.2.2.2.2 r.2.2) = S.2.2.2
    rw [hd]
    rfl
theorem zMetH.mono {y : MethodName} {cc : ByteArray} {maxL : Nat} {ret : Option FieldType} {hh : List (Nat × Nat × Nat × Nat)} {d mc ms : Nat} {as : List Value} {h : zH} {P P' : Option Value → zH → Prop} {E E' : String → zH → Prop} (M : zMetH y cc maxL ret hh d mc ms as h P E) (h1 : ∀ v h, P v h → P' v h) (h2 : ∀ C h, E C h → E' C h) : zMetH y cc maxL ret hh d mc ms as h P' E' := by
  intro l g hl
  exact vx_Met_mono (M l g hl) (fun a s o t ⟨⟨v, h', q1, q2, q3⟩, q4⟩ => ⟨⟨v, h', q1, h1 _ _ q2, q3⟩, q4⟩) (fun C s t ⟨h', q1, q2⟩ => ⟨h', h2 _ _ q1, q2⟩)
theorem f_kc_pos (c : Nat) : 0 < f_kc c := by unfold f_kc; split <;> omega
theorem f_mins_cnt : ∀ (n : Nat) (C : zCo), (f_mins n C).2.2.2.1 = C.2.2.2.1
  | 0, _ => rfl
  | n + 1, C => f_mins_cnt n (f_min C)
theorem f_ps_in {C : zCo} {m : Nat} (h : 1 ≤ m ∧ m ≤ 48) : f_ps C m = (((f_mins m C).2.2.2.2.2.1 : Int) - C.2.2.2.2.2.1, f_mins m C, none) := by
  unfold f_ps
  rw [if_pos (by omega)]
  rfl
theorem f_ps_pos {C : zCo} {m : Nat} (h : 1 ≤ m ∧ m ≤ 48) : 0 ≤ (f_ps C m).1 := by
  rw [f_ps_in h]
  have := f_mins_sg m C
  dsimp only
  omega
theorem f_fin_pos {S : zBt} {r : zCh} (h : 0 ≤ r.1) : f_fin S r = f_keep (f_put (f_prep S) r) := by
  unfold f_fin
  rw [if_neg (by omega)]
theorem f_an_pos {a : Int} (h : 0 ≤ a) : f_an a = a := by
  unfold f_an
  rw [if_neg (by omega)]
theorem lcmp_self (x : Int64) : lg_cmp x x = iI 0 := by
  unfold lg_cmp
  simp
  rfl
/-- what isArrived asks -/
def hArr (C : zCo) (i : Nat) : Prop := g_arr C i = -1000 ∨ ∃ m g : Nat, g_arr C i = m ∧ (1 ≤ m ∧ m ≤ 48) ∧ (C.2.2.1 i).2.2.1 = some g ∧ ((f_mins m C).2.2.1 i).1 = g ∧ ((f_mins m C).2.2.1 i).2.2.1 = none ∧ (1 < m → ((f_mins (m - 1) C).2.2.1 i).1 ≠ g)
section
variable {o K : Nat} {S : zBt} {h : zH}
theorem zRB.hb (R : zRB o S h) : S.2.2.1.1 < 8 ∧ S.2.2.1.2.1 ≤ 8 := by
  obtain ⟨π, _, _, _, _, q1, q2⟩ := R.2.2.2.2.1
  exact ⟨q1, q2⟩
/-- minutes pass: the law's pass in range -/
theorem v_pass {m : Nat} (hm : 1 ≤ m ∧ m ≤ 48) (R : zRB o S h) (hO : zOk K S.1) (hK : K < 1700000) : zMetH yL_pass cL_pass 4 (some .int) [(3, 9, 12, 19)] 11 1 6 [.ref o, .int (iI (m : Int))] h (fun v h' => v = some (.int (iI (((f_mins m S.1).2.2.2.2.2.1 : Int) - S.1.2.2.2.2.2.1))) ∧ zRB o (f_keep (f_put (f_prep S) (f_ps S.1 m))) h') (fun _ _ => False) := by
  have M := w_pass (m := (m : Int)) ⟨by omega, by omega⟩ R hO hK
  rw [f_an_pos (f_ps_pos hm), f_fin_pos (f_ps_pos hm)] at M
  have e : (f_ps S.1 (m : Int)).1 = ((f_mins m S.1).2.2.2.2.2.1 : Int) - S.1.2.2.2.2.2.1 := by rw [f_ps_in hm]
  rw [e] at M
  exact M
/-- it is undone -/
theorem v_undo {r : zCh} (hr : r.2.2 = none) (hb : S.2.2.1.1 < 8 ∧ S.2.2.1.2.1 ≤ 8) (R : zRB o (f_keep (f_put (f_prep S) r)) h) (hO : zOk K r.2.1) (hK : K < 1700000) : zMetH yL_undo cL_undo 3 (some .int) [(3, 8, 11, 99)] 10 1 6 [.ref o] h (fun v h' => (∃ a : Nat, a < 8 ∧ v = some (.int (iI (a : Int)))) ∧ ∃ S', zSh S S' ∧ zRB o S' h') (fun _ _ => False) := by
  refine zMetH.mono (w_undo R hO hK) (fun v h' q => ?_) (fun _ _ q => q)
  rcases q with ⟨q1, q2, q3⟩ | ⟨q1, _⟩
  · exact ⟨⟨_, by
      show f_kc S.2.2.1.2.1 - 1 < 8
      unfold f_kc
      split <;> omega, q2⟩, _, zSh_undo hb.1 hb.2 hr, q3⟩
  · have q1 : f_kc S.2.2.1.2.1 = 0 := q1
    have := f_kc_pos S.2.2.1.2.1
    omega
theorem w_isArrived {i : Nat} (hi : i < S.1.2.2.2.1.2) (hA : hArr S.1 i) (R : zRB o S h) (hO : zOk K S.1) (hK : K < 1600000) : zMet yL_isArrived cL_isArrived 8 (some .boolean) 14 100 600 [.ref o, .int (iI (i : Int))] h (fun v h' => v = some (.int (iI 1)) ∧ ∃ S', zSh S S' ∧ zRB o S' h') (fun _ _ => False) := by
  refine zMet.go (by decide +kernel) (Nat.le_of_ble_eq_true rfl) ?_
  intro X F B hnl hR hn
  have hn6 := hO.2.2.2.2.1
  have hb := R.hb
  refine z_aload_n F dL_isArrived_0 rfl rfl ?_
  refine z_callS F B cal_yL_digest (w_digest R hO (by omega)) dL_isArrived_1 rfl rfl (Nat.le_of_ble_eq_true rfl) (by decide) (by omega) (by omega) ml_L_300 st_yL_digest (fun v hX qX => ?_) (fun C h1 q => q.elim)
  obtain ⟨rfl, R1⟩ := qX
  refine z_lstore_n F dL_isArrived_4 rfl rfl rfl (hnl _ rfl) ?_
  refine z_aload_n F dL_isArrived_5 rfl rfl ?_
  refine z_iload_n F dL_isArrived_6 rfl rfl ?_
  refine z_callSH F B calH_yL_minutesUntilArrival (w_minutesUntilArrival (z := (i : Int)) ⟨by omega, by omega⟩ R1 hO (by omega)) dL_isArrived_7 rfl rfl (Nat.le_of_ble_eq_true rfl) (by decide) (by omega) (by omega) ml_L_304 st_yL_minutesUntilArrival (fun v hX qX => ?_) (fun C h1 q => q.elim)
  obtain ⟨rfl, R2⟩ := qX
  refine z_istore F dL_isArrived_10 rfl (hnl _ rfl) ?_
  refine z_aload_n F dL_isArrived_12 rfl rfl ?_
  refine z_iload_n F dL_isArrived_13 rfl rfl ?_
  refine z_callSH F B calH_yL_goalColumn (w_goalColumn (z := (i : Int)) ⟨by omega, by omega⟩ R2 hO (by omega)) dL_isArrived_14 rfl rfl (Nat.le_of_ble_eq_true rfl) (by decide) (by omega) (by omega) ml_L_208 st_yL_goalColumn (fun v hX qX => ?_) (fun C h1 q => q.elim)
  obtain ⟨rfl, R3⟩ := qX
  refine z_istore F dL_isArrived_17 rfl (hnl _ rfl) ?_
  refine z_aload_n F dL_isArrived_19 rfl rfl ?_
  refine z_iload_n F dL_isArrived_20 rfl rfl ?_
  refine z_callSH F B calH_yL_goalRow (w_goalRow (z := (i : Int)) ⟨by omega, by omega⟩ R3 hO (by omega)) dL_isArrived_21 rfl rfl (Nat.le_of_ble_eq_true rfl) (by decide) (by omega) (by omega) ml_L_210 st_yL_goalRow (fun v hX qX => ?_) (fun C h1 q => q.elim)
  obtain ⟨rfl, R4⟩ := qX
  refine z_istore F dL_isArrived_24 rfl (hnl _ rfl) ?_
  rcases hA with hA | ⟨m, g, hm, hmr, hg, hA1, hA2, hA3⟩
  · rw [hA]
    refine z_iload F dL_isArrived_26 rfl ?_
    refine zi_sipush F dL_isArrived_28 (by decide) ?_
    refine zi_icmp_ne (tgt := 49) F dL_isArrived_31 (by decide) (by first | omega | (dsimp only at *; omega)) (fun c31 => False.elim (by first | omega | (dsimp only at *; omega))) (fun c31 => ?_)
    refine z_aload_n F dL_isArrived_34 rfl rfl ?_
    refine z_callS F B cal_yL_digest (w_digest R4 hO (by omega)) dL_isArrived_35 rfl rfl (Nat.le_of_ble_eq_true rfl) (by decide) (by omega) (by omega) ml_L_300 st_yL_digest (fun v hX qX => ?_) (fun C h1 q => q.elim)
    obtain ⟨rfl, R5⟩ := qX
    refine z_lload_n F dL_isArrived_38 rfl rfl ?_
    refine z_lcmp F dL_isArrived_39 ?_
    rw [lcmp_self]
    refine zi_if_ne (tgt := 47) F dL_isArrived_40 (by decide) (by first | omega | (dsimp only at *; omega)) (fun c40 => False.elim (by first | omega | (dsimp only at *; omega))) (fun c40 => ?_)
    refine zi_iconst F dL_isArrived_43 ?_
    refine z_goto (tgt := 48) F dL_isArrived_44 (by decide) ?_
    exact Z.widen (by omega) (by omega) (z_ireturn F rfl B dL_isArrived_48 ⟨rfl, S, zSh.rf S, R5⟩)
  · have hg64 := (hO.2.2.1 i).2.2.1 g hg
    have egc : g_gc S.1 (i : Int) = (g : Int) % 8 := by unfold g_gc; rw [if_pos (by omega), Int.toNat_natCast, hg]
    have egr : g_gr S.1 (i : Int) = (g : Int) / 8 := by unfold g_gr; rw [if_pos (by omega), Int.toNat_natCast, hg]
    rw [hm, egc, egr]
    have hO2 : zOk (K + 43 * m) (f_mins m S.1) := f_mins_ok hO
    -- behind the first look
    have k133 : ∀ (S2 : zBt) (k2 n2 : Nat) (h2 : zH) (ls : zL), k2 ≤ 60 → n2 ≤ 360 → zSh S S2 → zRB o S2 h2 → zpick ls [7, 4, 5, 6, 2, 0, 1] = [(7, .int (iI 1)), (4, .int (iI (m : Int))), (5, .int (iI ((g : Int) % 8))), (6, .int (iI ((g : Int) / 8))), (2, .long (f_dig S.1)), (0, .ref o), (1, .int (iI (i : Int)))] → Z X k2 n2 133 ls [] h2 := by
      intro S2 k2 n2 h2 ls hk2 hn2 s2 R5 el
      refine Z.keys [7, 4, 5, 6, 2, 0, 1] el ?_
      have e1 := s2.1
      have hb2 := R5.hb
      have hsc : (f_mins m S.1).2.2.2.1.2 = S.1.2.2.2.1.2 := by rw [f_mins_cnt]
      refine z_iload F dL_isArrived_133 rfl ?_
      refine zi_if_eq (tgt := 189) F dL_isArrived_135 (by decide) (by first | omega | (dsimp only at *; omega)) (fun c135 => False.elim (by first | omega | (dsimp only at *; omega))) (fun c135 => ?_)
      refine z_aload_n F dL_isArrived_138 rfl rfl ?_
      refine z_iload F dL_isArrived_139 rfl ?_
      refine z_callSH F B calH_yL_pass (v_pass hmr R5 (by rw [e1]; exact hO) (by omega)) dL_isArrived_141 rfl rfl (Nat.le_of_ble_eq_true rfl) (by decide) (by omega) (by omega) ml_L_137 st_yL_pass (fun v hX qX => ?_) (fun C h1 q => q.elim)
      obtain ⟨rfl, R6⟩ := qX
      have hsg := f_mins_sg m S.1
      have hsg2 := hO2.2.2.2.2.2.2.1
      rw [e1] at R6 ⊢
      refine zi_if_lt (tgt := 189) F dL_isArrived_144 (by decide) (by first | omega | (dsimp only at *; omega)) (fun c144 => False.elim (by first | omega | (dsimp only at *; omega))) (fun c144 => ?_)
      have ec : (f_keep (f_put (f_prep S2) (f_ps S.1 (m : Int)))).1 = f_mins m S.1 := by rw [f_ps_in hmr]; rfl
      have R6b := R6
      have r0 := R6.2.1
      obtain ⟨σ, τ, r1⟩ := R6.2.2.1
      rw [ec] at r1
      refine z_aload_n F dL_isArrived_147 rfl rfl ?_
      refine z_iload_n F dL_isArrived_148 rfl rfl ?_
      refine z_callV F B cal_yX10_columnOf (n_columnOf (i := i) (by omega) r0 r1 hO2 (by omega)) dL_isArrived_149 rfl rfl (Nat.le_of_ble_eq_true rfl) (by decide) (by omega) (by omega) ml_L_205 im_yX10_columnOf se_yX10_columnOf r0 (by decide) rfl rfl (fun v hX qX => ?_) (fun C h1 q => q.elim)
      obtain ⟨rfl, qX⟩ := qX
      rw [qX]
      clear qX hX
      refine z_iload F dL_isArrived_152 rfl ?_
      rw [hA1]
      refine zi_icmp_ne (tgt := 189) F dL_isArrived_154 (by decide) (by first | omega | (dsimp only at *; omega)) (fun c154 => False.elim (by first | omega | (dsimp only at *; omega))) (fun c154 => ?_)
      refine z_aload_n F dL_isArrived_157 rfl rfl ?_
      refine z_iload_n F dL_isArrived_158 rfl rfl ?_
      refine z_callV F B cal_yX10_rowOf (n_rowOf (i := i) (by omega) r0 r1 hO2 (by omega)) dL_isArrived_159 rfl rfl (Nat.le_of_ble_eq_true rfl) (by decide) (by omega) (by omega) ml_L_202 im_yX10_rowOf se_yX10_rowOf r0 (by decide) rfl rfl (fun v hX qX => ?_) (fun C h1 q => q.elim)
      obtain ⟨rfl, qX⟩ := qX
      rw [qX]
      clear qX hX
      refine z_iload F dL_isArrived_162 rfl ?_
      rw [hA1]
      refine zi_icmp_ne (tgt := 189) F dL_isArrived_164 (by decide) (by first | omega | (dsimp only at *; omega)) (fun c164 => False.elim (by first | omega | (dsimp only at *; omega))) (fun c164 => ?_)
      refine z_aload_n F dL_isArrived_167 rfl rfl ?_
      refine z_iload_n F dL_isArrived_168 rfl rfl ?_
      refine z_callSH F B calH_yL_goalRow (w_goalRow (z := (i : Int)) (K := K + 43 * m) ⟨by omega, by omega⟩ R6 (by rw [ec]; exact hO2) (by omega)) dL_isArrived_169 rfl rfl (Nat.le_of_ble_eq_true rfl) (by decide) (by omega) (by omega) ml_L_210 st_yL_goalRow (fun v hX qX => ?_) (fun C h1 q => q.elim)
      obtain ⟨rfl, R7⟩ := qX
      have egr2 : g_gr (f_keep (f_put (f_prep S2) (f_ps S.1 (m : Int)))).1 (i : Int) = -1000 := by rw [ec]; unfold g_gr; rw [if_pos (by omega), Int.toNat_natCast, hA2]
      rw [egr2]
      refine zi_sipush F dL_isArrived_172 (by decide) ?_
      refine zi_icmp_ne (tgt := 189) F dL_isArrived_175 (by decide) (by first | omega | (dsimp only at *; omega)) (fun c175 => False.elim (by first | omega | (dsimp only at *; omega))) (fun c175 => ?_)
      refine z_aload_n F dL_isArrived_178 rfl rfl ?_
      refine z_callSH F B calH_yL_undo (v_undo (K := K + 43 * m) (r := f_ps S.1 (m : Int)) (by rw [f_ps_in hmr]) hb2 R7 (by rw [f_ps_in hmr]; exact hO2) (by omega)) dL_isArrived_179 rfl rfl (Nat.le_of_ble_eq_true rfl) (by decide) (by omega) (by omega) ml_L_158 st_yL_undo (fun v hX qX => ?_) (fun C h1 q => q.elim)
      obtain ⟨⟨a, ha, rfl⟩, S3, s3, R8⟩ := qX
      have s3 := s2.tr s3
      refine zi_if_lt (tgt := 189) F dL_isArrived_182 (by decide) (by first | omega | (dsimp only at *; omega)) (fun c182 => False.elim (by first | omega | (dsimp only at *; omega))) (fun c182 => ?_)
      refine zi_iconst F dL_isArrived_185 ?_
      refine z_goto (tgt := 190) F dL_isArrived_186 (by decide) ?_
      refine z_istore F dL_isArrived_190 rfl (hnl _ rfl) ?_
      refine z_iload F dL_isArrived_192 rfl ?_
      refine zi_if_eq (tgt := 210) F dL_isArrived_194 (by decide) (by first | omega | (dsimp only at *; omega)) (fun c194 => False.elim (by first | omega | (dsimp only at *; omega))) (fun c194 => ?_)
      refine z_aload_n F dL_isArrived_197 rfl rfl ?_
      refine z_callS F B cal_yL_digest (w_digest R8 (by rw [s3.1]; exact hO) (by omega)) dL_isArrived_198 rfl rfl (Nat.le_of_ble_eq_true rfl) (by decide) (by omega) (by omega) ml_L_300 st_yL_digest (fun v hX qX => ?_) (fun C h1 q => q.elim)
      obtain ⟨rfl, R9⟩ := qX
      rw [s3.1]
      refine z_lload_n F dL_isArrived_201 rfl rfl ?_
      refine z_lcmp F dL_isArrived_202 ?_
      rw [lcmp_self]
      refine zi_if_ne (tgt := 210) F dL_isArrived_203 (by decide) (by first | omega | (dsimp only at *; omega)) (fun c203 => False.elim (by first | omega | (dsimp only at *; omega))) (fun c203 => ?_)
      refine zi_iconst F dL_isArrived_206 ?_
      refine z_goto (tgt := 211) F dL_isArrived_207 (by decide) ?_
      exact Z.widen (by omega) (by omega) (z_ireturn F rfl B dL_isArrived_211 ⟨rfl, S3, s3, R9⟩)
    by_cases hm1 : 1 < m
    · have hA3 := hA3 hm1
      have hmr2 : 1 ≤ m - 1 ∧ m - 1 ≤ 48 := by omega
      have hO3 : zOk (K + 43 * (m - 1)) (f_mins (m - 1) S.1) := f_mins_ok hO
      have hsc : (f_mins (m - 1) S.1).2.2.2.1.2 = S.1.2.2.2.1.2 := by rw [f_mins_cnt]
      have ec : (f_keep (f_put (f_prep S) (f_ps S.1 ((m - 1 : Nat) : Int)))).1 = f_mins (m - 1) S.1 := by rw [f_ps_in hmr2]; rfl
      have hc3 := (hO3.2.2.1 i).1
      refine z_iload F dL_isArrived_26 rfl ?_
      refine zi_sipush F dL_isArrived_28 (by decide) ?_
      refine zi_icmp_ne (tgt := 49) F dL_isArrived_31 (by decide) (by first | omega | (dsimp only at *; omega)) (fun c31 => ?_) (fun c31 => False.elim (by first | omega | (dsimp only at *; omega)))
      refine z_iload F dL_isArrived_49 rfl ?_
      refine zi_if_le (tgt := 74) F dL_isArrived_51 (by decide) (by first | omega | (dsimp only at *; omega)) (fun c51 => False.elim (by first | omega | (dsimp only at *; omega))) (fun c51 => ?_)
      refine z_iload F dL_isArrived_54 rfl ?_
      refine zi_bipush F dL_isArrived_56 (by decide) ?_
      refine zi_icmp_gt (tgt := 74) F dL_isArrived_58 (by decide) (by first | omega | (dsimp only at *; omega)) (fun c58 => False.elim (by first | omega | (dsimp only at *; omega))) (fun c58 => ?_)
      refine z_aload_n F dL_isArrived_61 rfl rfl ?_
      refine z_callS F B cal_yL_digest (w_digest R4 hO (by omega)) dL_isArrived_62 rfl rfl (Nat.le_of_ble_eq_true rfl) (by decide) (by omega) (by omega) ml_L_300 st_yL_digest (fun v hX qX => ?_) (fun C h1 q => q.elim)
      obtain ⟨rfl, R5⟩ := qX
      refine z_lload_n F dL_isArrived_65 rfl rfl ?_
      refine z_lcmp F dL_isArrived_66 ?_
      rw [lcmp_self]
      refine zi_if_ne (tgt := 74) F dL_isArrived_67 (by decide) (by first | omega | (dsimp only at *; omega)) (fun c67 => False.elim (by first | omega | (dsimp only at *; omega))) (fun c67 => ?_)
      refine zi_iconst F dL_isArrived_70 ?_
      refine z_goto (tgt := 75) F dL_isArrived_71 (by decide) ?_
      refine z_istore F dL_isArrived_75 rfl (hnl _ rfl) ?_
      refine z_iload F dL_isArrived_77 rfl ?_
      refine zi_iconst F dL_isArrived_79 ?_
      refine zi_icmp_le (tgt := 133) F dL_isArrived_80 (by decide) (by first | omega | (dsimp only at *; omega)) (fun c80 => False.elim (by first | omega | (dsimp only at *; omega))) (fun c80 => ?_)
      refine z_iload F dL_isArrived_83 rfl ?_
      refine zi_if_eq (tgt := 130) F dL_isArrived_85 (by decide) (by first | omega | (dsimp only at *; omega)) (fun c85 => False.elim (by first | omega | (dsimp only at *; omega))) (fun c85 => ?_)
      refine z_aload_n F dL_isArrived_88 rfl rfl ?_
      refine z_iload F dL_isArrived_89 rfl ?_
      refine zi_iconst F dL_isArrived_91 ?_
      refine zi_isub F dL_isArrived_92 ?_
      rw [show ((m : Int) - 1) = ((m - 1 : Nat) : Int) by omega]
      refine z_callSH F B calH_yL_pass (v_pass hmr2 R5 hO (by omega)) dL_isArrived_93 rfl rfl (Nat.le_of_ble_eq_true rfl) (by decide) (by omega) (by omega) ml_L_137 st_yL_pass (fun v hX qX => ?_) (fun C h1 q => q.elim)
      obtain ⟨rfl, R6⟩ := qX
      have hsg := f_mins_sg (m - 1) S.1
      have hsg2 := hO3.2.2.2.2.2.2.1
      refine zi_if_lt (tgt := 130) F dL_isArrived_96 (by decide) (by first | omega | (dsimp only at *; omega)) (fun c96 => False.elim (by first | omega | (dsimp only at *; omega))) (fun c96 => ?_)
      have r0 := R6.2.1
      obtain ⟨σ, τ, r1⟩ := R6.2.2.1
      rw [ec] at r1
      refine z_aload_n F dL_isArrived_99 rfl rfl ?_
      refine z_iload_n F dL_isArrived_100 rfl rfl ?_
      refine z_callV F B cal_yX10_columnOf (n_columnOf (i := i) (by omega) r0 r1 hO3 (by omega)) dL_isArrived_101 rfl rfl (Nat.le_of_ble_eq_true rfl) (by decide) (by omega) (by omega) ml_L_205 im_yX10_columnOf se_yX10_columnOf r0 (by decide) rfl rfl (fun v hX qX => ?_) (fun C h1 q => q.elim)
      obtain ⟨rfl, qX⟩ := qX
      rw [qX]
      clear qX hX
      refine z_iload F dL_isArrived_104 rfl ?_
      by_cases hcol : (((f_mins (m - 1) S.1).2.2.1 i).1 : Int) % 8 = (g : Int) % 8
      · refine zi_icmp_ne (tgt := 119) F dL_isArrived_106 (by decide) (by first | omega | (dsimp only at *; omega)) (fun c106 => False.elim (by first | omega | (dsimp only at *; omega))) (fun c106 => ?_)
        refine z_aload_n F dL_isArrived_109 rfl rfl ?_
        refine z_iload_n F dL_isArrived_110 rfl rfl ?_
        refine z_callV F B cal_yX10_rowOf (n_rowOf (i := i) (by omega) r0 r1 hO3 (by omega)) dL_isArrived_111 rfl rfl (Nat.le_of_ble_eq_true rfl) (by decide) (by omega) (by omega) ml_L_202 im_yX10_rowOf se_yX10_rowOf r0 (by decide) rfl rfl (fun v hX qX => ?_) (fun C h1 q => q.elim)
        obtain ⟨rfl, qX⟩ := qX
        rw [qX]
        clear qX hX
        refine z_iload F dL_isArrived_114 rfl ?_
        refine zi_icmp_eq (tgt := 130) F dL_isArrived_116 (by decide) (by first | omega | (dsimp only at *; omega)) (fun c116 => False.elim (by first | omega | (dsimp only at *; omega))) (fun c116 => ?_)
        refine z_aload_n F dL_isArrived_119 rfl rfl ?_
        refine z_callSH F B calH_yL_undo (v_undo (K := K + 43 * (m - 1)) (r := f_ps S.1 ((m - 1 : Nat) : Int)) (by rw [f_ps_in hmr2]) hb R6 (by rw [f_ps_in hmr2]; exact hO3) (by omega)) dL_isArrived_120 rfl rfl (Nat.le_of_ble_eq_true rfl) (by decide) (by omega) (by omega) ml_L_158 st_yL_undo (fun v hX qX => ?_) (fun C h1 q => q.elim)
        obtain ⟨⟨a, ha, rfl⟩, S3, s3, R8⟩ := qX
        refine zi_if_lt (tgt := 130) F dL_isArrived_123 (by decide) (by first | omega | (dsimp only at *; omega)) (fun c123 => False.elim (by first | omega | (dsimp only at *; omega))) (fun c123 => ?_)
        refine zi_iconst F dL_isArrived_126 ?_
        refine z_goto (tgt := 131) F dL_isArrived_127 (by decide) ?_
        refine z_istore F dL_isArrived_131 rfl (hnl _ rfl) ?_
        exact k133 S3 _ _ _ _ (by omega) (by omega) s3 R8 rfl
      · refine zi_icmp_ne (tgt := 119) F dL_isArrived_106 (by decide) (by first | omega | (dsimp only at *; omega)) (fun c106 => ?_) (fun c106 => False.elim (by first | omega | (dsimp only at *; omega)))
        refine z_aload_n F dL_isArrived_119 rfl rfl ?_
        refine z_callSH F B calH_yL_undo (v_undo (K := K + 43 * (m - 1)) (r := f_ps S.1 ((m - 1 : Nat) : Int)) (by rw [f_ps_in hmr2]) hb R6 (by rw [f_ps_in hmr2]; exact hO3) (by omega)) dL_isArrived_120 rfl rfl (Nat.le_of_ble_eq_true rfl) (by decide) (by omega) (by omega) ml_L_158 st_yL_undo (fun v hX qX => ?_) (fun C h1 q => q.elim)
        obtain ⟨⟨a, ha, rfl⟩, S3, s3, R8⟩ := qX
        refine zi_if_lt (tgt := 130) F dL_isArrived_123 (by decide) (by first | omega | (dsimp only at *; omega)) (fun c123 => False.elim (by first | omega | (dsimp only at *; omega))) (fun c123 => ?_)
        refine zi_iconst F dL_isArrived_126 ?_
        refine z_goto (tgt := 131) F dL_isArrived_127 (by decide) ?_
        refine z_istore F dL_isArrived_131 rfl (hnl _ rfl) ?_
        exact k133 S3 _ _ _ _ (by omega) (by omega) s3 R8 rfl
    · refine z_iload F dL_isArrived_26 rfl ?_
      refine zi_sipush F dL_isArrived_28 (by decide) ?_
      refine zi_icmp_ne (tgt := 49) F dL_isArrived_31 (by decide) (by first | omega | (dsimp only at *; omega)) (fun c31 => ?_) (fun c31 => False.elim (by first | omega | (dsimp only at *; omega)))
      refine z_iload F dL_isArrived_49 rfl ?_
      refine zi_if_le (tgt := 74) F dL_isArrived_51 (by decide) (by first | omega | (dsimp only at *; omega)) (fun c51 => False.elim (by first | omega | (dsimp only at *; omega))) (fun c51 => ?_)
      refine z_iload F dL_isArrived_54 rfl ?_
      refine zi_bipush F dL_isArrived_56 (by decide) ?_
      refine zi_icmp_gt (tgt := 74) F dL_isArrived_58 (by decide) (by first | omega | (dsimp only at *; omega)) (fun c58 => False.elim (by first | omega | (dsimp only at *; omega))) (fun c58 => ?_)
      refine z_aload_n F dL_isArrived_61 rfl rfl ?_
      refine z_callS F B cal_yL_digest (w_digest R4 hO (by omega)) dL_isArrived_62 rfl rfl (Nat.le_of_ble_eq_true rfl) (by decide) (by omega) (by omega) ml_L_300 st_yL_digest (fun v hX qX => ?_) (fun C h1 q => q.elim)
      obtain ⟨rfl, R5⟩ := qX
      refine z_lload_n F dL_isArrived_65 rfl rfl ?_
      refine z_lcmp F dL_isArrived_66 ?_
      rw [lcmp_self]
      refine zi_if_ne (tgt := 74) F dL_isArrived_67 (by decide) (by first | omega | (dsimp only at *; omega)) (fun c67 => False.elim (by first | omega | (dsimp only at *; omega))) (fun c67 => ?_)
      refine zi_iconst F dL_isArrived_70 ?_
      refine z_goto (tgt := 75) F dL_isArrived_71 (by decide) ?_
      refine z_istore F dL_isArrived_75 rfl (hnl _ rfl) ?_
      refine z_iload F dL_isArrived_77 rfl ?_
      refine zi_iconst F dL_isArrived_79 ?_
      refine zi_icmp_le (tgt := 133) F dL_isArrived_80 (by decide) (by first | omega | (dsimp only at *; omega)) (fun c80 => ?_) (fun c80 => False.elim (by first | omega | (dsimp only at *; omega)))
      exact k133 S _ _ _ _ (by omega) (by omega) (zSh.rf S) R5 rfl
end
