/-! the law's look at a minute; isFit -/
theorem iand11 : (iI 1 &&& iI 1 : Int32) = iI 1 := by decide
section
variable {o K : Nat} {S : zBt} {h : zH}
theorem w_isMinute (hD : hDep (f_min S.1)) (R : zRB o S h) (hO : zOk K S.1) (hK : K < 1600000) : zMet yL_isMinute cL_isMinute 11 (some .boolean) 14 60 360 [.ref o] h (fun v h' => v = some (.int (iI 1)) ∧ ∃ S', zSh S S' ∧ zRB o S' h') (fun _ _ => False) := by
  refine zMet.go (by decide +kernel) (Nat.le_of_ble_eq_true rfl) ?_
  intro X F B hnl hR hn
  have hKK : K < 2000000 := by omega
  have hn6 := hO.2.2.2.2.1
  have hb := R.hb
  have hO1 : zOk (K + 43) (f_min S.1) := f_min_ok hO
  have esg := min_sg S.1
  have ewk := min_wk S.1
  have hsgb := hO1.2.2.2.2.2.2.1
  have hsb := hO.2.2.2.2.2.2.1
  have hwb := hO.2.2.2.2.2.2.2.2.1
  have hwb1 := hO1.2.2.2.2.2.2.2.2.1
  have hcM : (f_min S.1).2.2.2.1.2 = S.1.2.2.2.1.2 := rfl
  have hsn6 : ∀ i, f_sgn (f_min S.1) i ≤ 6 := fun i => by
    unfold f_sgn f_lsw
    split
    · omega
    · exact Nat.le_trans (zcnt_le _ _) hO1.2.2.2.1
  have hzb := zsum_le hsn6
  have ec : (f_keep (f_put (f_prep S) (f_ps S.1 ((1 : Nat) : Int)))).1 = f_min S.1 := by rw [f_ps_in (by decide)]; rfl
  generalize hM : S.1.2.2.2.1.2 = M at *
  have hc0 := zcnt_le (fun i => (S.1.2.2.1 i).2.2.2.1) M
  have hc1 := zcnt_le (fun i => ((f_min S.1).2.2.1 i).2.2.2.1) M
  -- the end
  have k183 : ∀ (h1 : zH) (ls : zL) (k2 n2 : Nat), k2 ≤ 30 → n2 ≤ 180 → zRB o (f_keep (f_put (f_prep S) (f_ps S.1 ((1 : Nat) : Int)))) h1 → zpick ls [9, 8, 7, 6, 5, 4, 3, 1, 0] = [(9, .int (iI 1)), (8, .int (iI ((zcnt (fun i => ((f_min S.1).2.2.1 i).2.2.2.1) M : Nat) : Int))), (7, .int (iI ((zsum (f_sgn (f_min S.1)) M : Nat) : Int))), (6, .int (iI ((zsum (f_sgn (f_min S.1)) M : Nat) : Int))), (5, .int (iI ((zcnt (fun i => (S.1.2.2.1 i).2.2.2.1) M : Nat) : Int))), (4, .int (iI (S.1.2.2.2.2.2.2.2.1 : Int))), (3, .int (iI (S.1.2.2.2.2.2.1 : Int))), (1, .long (f_dig S.1)), (0, .ref o)] → Z X k2 n2 183 ls [] h1 := by
    intro h1 ls k2 n2 hk2 hn2 R1 el
    refine Z.keys [9, 8, 7, 6, 5, 4, 3, 1, 0] el ?_
    have hzM := hzb M
    have r0 := R1.2.1
    obtain ⟨σ, τ, r1⟩ := R1.2.2.1
    rw [ec] at r1
    refine z_iload F dL_isMinute_183 rfl ?_
    refine zi_if_eq (tgt := 239) F dL_isMinute_185 (by decide) (by first | omega | (dsimp only at *; omega)) (fun c185 => False.elim (by first | omega | (dsimp only at *; omega))) (fun c185 => ?_)
    refine z_iload F dL_isMinute_188 rfl ?_
    refine z_iload F dL_isMinute_190 rfl ?_
    refine zi_icmp_ne (tgt := 239) F dL_isMinute_192 (by decide) (by first | omega | (dsimp only at *; omega)) (fun c192 => False.elim (by first | omega | (dsimp only at *; omega))) (fun c192 => ?_)
    refine z_aload_n F dL_isMinute_195 rfl rfl ?_
    refine z_callV F B cal_yX10_sightings (m_sightings r0 r1) dL_isMinute_196 rfl rfl (Nat.le_of_ble_eq_true rfl) (by decide) (by omega) (by omega) ml_L_167 im_yX10_sightings se_yX10_sightings r0 (by decide) rfl rfl (fun v hX qX => ?_) (fun C h1 q => q.elim)
    obtain ⟨rfl, qX⟩ := qX
    rw [qX]
    clear qX hX
    refine z_iload_n F dL_isMinute_199 rfl rfl ?_
    refine z_iload F dL_isMinute_200 rfl ?_
    refine zi_iadd F dL_isMinute_202 ?_
    refine zi_icmp_ne (tgt := 239) F dL_isMinute_203 (by decide) (by first | omega | (dsimp only at *; omega)) (fun c203 => False.elim (by first | omega | (dsimp only at *; omega))) (fun c203 => ?_)
    refine z_aload_n F dL_isMinute_206 rfl rfl ?_
    refine z_callV F B cal_yX10_wrecks (m_wrecks r0 r1) dL_isMinute_207 rfl rfl (Nat.le_of_ble_eq_true rfl) (by decide) (by omega) (by omega) ml_L_172 im_yX10_wrecks se_yX10_wrecks r0 (by decide) rfl rfl (fun v hX qX => ?_) (fun C h1 q => q.elim)
    obtain ⟨rfl, qX⟩ := qX
    rw [qX]
    clear qX hX
    refine z_iload F dL_isMinute_210 rfl ?_
    refine z_iload F dL_isMinute_212 rfl ?_
    refine zi_iadd F dL_isMinute_214 ?_
    refine z_iload F dL_isMinute_215 rfl ?_
    refine zi_isub F dL_isMinute_217 ?_
    refine zi_icmp_ne (tgt := 239) F dL_isMinute_218 (by decide) (by first | omega | (dsimp only at *; omega)) (fun c218 => False.elim (by first | omega | (dsimp only at *; omega))) (fun c218 => ?_)
    refine z_aload_n F dL_isMinute_221 rfl rfl ?_
    refine z_callS F B cal_yL_areDepths (w_areDepths (K := K + 43) R1 (by rw [ec]; exact hO1) (by omega) (by rw [ec]; exact hD)) dL_isMinute_222 rfl rfl (Nat.le_of_ble_eq_true rfl) (by decide) (by omega) (by omega) ml_L_306 st_yL_areDepths (fun v hX qX => ?_) (fun C h1 q => q.elim)
    clear r0 r1
    obtain ⟨rfl, R2⟩ := qX
    refine zi_if_eq (tgt := 239) F dL_isMinute_225 (by decide) (by first | omega | (dsimp only at *; omega)) (fun c225 => False.elim (by first | omega | (dsimp only at *; omega))) (fun c225 => ?_)
    refine z_aload_n F dL_isMinute_228 rfl rfl ?_
    refine z_callSH F B calH_yL_undo (v_undo (K := K + 43) (r := f_ps S.1 ((1 : Nat) : Int)) (by rw [f_ps_in (by decide)]) hb R2 (by rw [f_ps_in (by decide)]; exact hO1) (by omega)) dL_isMinute_229 rfl rfl (Nat.le_of_ble_eq_true rfl) (by decide) (by omega) (by omega) ml_L_158 st_yL_undo (fun v hX qX => ?_) (fun C h1 q => q.elim)
    obtain ⟨⟨a, ha, rfl⟩, S3, s3, R3⟩ := qX
    refine zi_if_lt (tgt := 239) F dL_isMinute_232 (by decide) (by first | omega | (dsimp only at *; omega)) (fun c232 => False.elim (by first | omega | (dsimp only at *; omega))) (fun c232 => ?_)
    refine zi_iconst F dL_isMinute_235 ?_
    refine z_goto (tgt := 240) F dL_isMinute_236 (by decide) ?_
    refine z_istore F dL_isMinute_240 rfl (hnl _ rfl) ?_
    refine z_iload F dL_isMinute_242 rfl ?_
    refine zi_if_eq (tgt := 260) F dL_isMinute_244 (by decide) (by first | omega | (dsimp only at *; omega)) (fun c244 => False.elim (by first | omega | (dsimp only at *; omega))) (fun c244 => ?_)
    refine z_aload_n F dL_isMinute_247 rfl rfl ?_
    refine z_callS F B cal_yL_digest (w_digest R3 (by rw [s3.1]; exact hO) (by omega)) dL_isMinute_248 rfl rfl (Nat.le_of_ble_eq_true rfl) (by decide) (by omega) (by omega) ml_L_300 st_yL_digest (fun v hX qX => ?_) (fun C h1 q => q.elim)
    obtain ⟨rfl, R4⟩ := qX
    rw [s3.1]
    refine z_lload_n F dL_isMinute_251 rfl rfl ?_
    refine z_lcmp F dL_isMinute_252 ?_
    rw [lcmp_self]
    refine zi_if_ne (tgt := 260) F dL_isMinute_253 (by decide) (by first | omega | (dsimp only at *; omega)) (fun c253 => False.elim (by first | omega | (dsimp only at *; omega))) (fun c253 => ?_)
    refine zi_iconst F dL_isMinute_256 ?_
    refine z_goto (tgt := 261) F dL_isMinute_257 (by decide) ?_
    exact Z.widen (by omega) (by omega) (z_ireturn F rfl B dL_isMinute_261 ⟨rfl, S3, s3, R4⟩)
  -- ship by ship, behind the minute
  have k75 : ∀ n i : Nat, n + i = M → ∀ (h1 : zH) (ls : zL), zRB o (f_keep (f_put (f_prep S) (f_ps S.1 ((1 : Nat) : Int)))) h1 → zpick ls [10, 9, 8, 7, 6, 5, 4, 3, 1, 0] = [(10, .int (iI (i : Int))), (9, .int (iI 1)), (8, .int (iI ((zcnt (fun i => ((f_min S.1).2.2.1 i).2.2.2.1) i : Nat) : Int))), (7, .int (iI ((zsum (f_sgn (f_min S.1)) i : Nat) : Int))), (6, .int (iI ((zsum (f_sgn (f_min S.1)) M : Nat) : Int))), (5, .int (iI ((zcnt (fun i => (S.1.2.2.1 i).2.2.2.1) M : Nat) : Int))), (4, .int (iI (S.1.2.2.2.2.2.2.2.1 : Int))), (3, .int (iI (S.1.2.2.2.2.2.1 : Int))), (1, .long (f_dig S.1)), (0, .ref o)] → Z X 25 150 75 ls [] h1 := by
    intro n
    induction n with
    | zero =>
      intro i hi h1 ls R1 el
      have ei : i = M := by omega
      subst ei
      refine Z.keys [10, 9, 8, 7, 6, 5, 4, 3, 1, 0] el ?_
      have r0 := R1.2.1
      obtain ⟨σ, τ, r1⟩ := R1.2.2.1
      rw [ec] at r1
      refine z_iload F dL_isMinute_75 rfl ?_
      refine z_aload_n F dL_isMinute_77 rfl rfl ?_
      refine z_callV F B cal_yX10_shipCount (m_shipCount r0 r1) dL_isMinute_78 rfl rfl (Nat.le_of_ble_eq_true rfl) (by decide) (by omega) (by omega) ml_L_182 im_yX10_shipCount se_yX10_shipCount r0 (by decide) rfl rfl (fun v hX qX => ?_) (fun C h1 q => q.elim)
      obtain ⟨rfl, qX⟩ := qX
      rw [qX]
      clear qX hX
      rw [hcM]
      refine zi_icmp_ge (tgt := 183) F dL_isMinute_81 (by decide) (by first | omega | (dsimp only at *; omega)) (fun c81 => ?_) (fun c81 => False.elim (by first | omega | (dsimp only at *; omega)))
      exact k183 _ _ _ _ (by omega) (by omega) R1 rfl
    | succ n ih =>
      intro i hi h1 ls R1 el
      refine Z.keys [10, 9, 8, 7, 6, 5, 4, 3, 1, 0] el ?_
      have r0 := R1.2.1
      obtain ⟨σ, τ, r1⟩ := R1.2.2.1
      rw [ec] at r1
      have hiM : i < (f_min S.1).2.2.2.1.2 := by omega
      have hdk := min_dark S.1 (i := i) (by omega)
      have hdb := (hO1.2.2.1 i).2.2.2
      have hl6 : f_lsw (f_min S.1) ((f_min S.1).2.2.1 i).1 ≤ 6 := Nat.le_trans (zcnt_le _ _) hO1.2.2.2.1
      have hci := zcnt_le (fun i => ((f_min S.1).2.2.1 i).2.2.2.1) i
      have hzi := hzb i
      rcases hw : ((f_min S.1).2.2.1 i).2.2.2.1 with _ | _
      · have hdk := hdk hw
        have ez : zcnt (fun i => ((f_min S.1).2.2.1 i).2.2.2.1) (i + 1) = zcnt (fun i => ((f_min S.1).2.2.1 i).2.2.2.1) i + 0 := by show _ + (if ((f_min S.1).2.2.1 i).2.2.2.1 then 1 else 0) = _; rw [hw]; rfl
        have es : zsum (f_sgn (f_min S.1)) (i + 1) = zsum (f_sgn (f_min S.1)) i + f_lsw (f_min S.1) ((f_min S.1).2.2.1 i).1 := by show _ + f_sgn (f_min S.1) i = _; unfold f_sgn; rw [hw]; rfl
        refine z_iload F dL_isMinute_75 rfl ?_
        refine z_aload_n F dL_isMinute_77 rfl rfl ?_
        refine z_callV F B cal_yX10_shipCount (m_shipCount r0 r1) dL_isMinute_78 rfl rfl (Nat.le_of_ble_eq_true rfl) (by decide) (by omega) (by omega) ml_L_182 im_yX10_shipCount se_yX10_shipCount r0 (by decide) rfl rfl (fun v hX qX => ?_) (fun C h1 q => q.elim)
        obtain ⟨rfl, qX⟩ := qX
        rw [qX]
        clear qX hX
        rw [hcM]
        refine zi_icmp_ge (tgt := 183) F dL_isMinute_81 (by decide) (by first | omega | (dsimp only at *; omega)) (fun c81 => False.elim (by first | omega | (dsimp only at *; omega))) (fun c81 => ?_)
        refine z_iload F dL_isMinute_84 rfl ?_
        refine z_aload_n F dL_isMinute_86 rfl rfl ?_
        refine z_iload F dL_isMinute_87 rfl ?_
        refine z_callV F B cal_yX10_isWrecked (n_isWrecked (i := i) hiM r0 r1 hO1 (by omega)) dL_isMinute_89 rfl rfl (Nat.le_of_ble_eq_true rfl) (by decide) (by omega) (by omega) ml_L_215 im_yX10_isWrecked se_yX10_isWrecked r0 (by decide) rfl rfl (fun v hX qX => ?_) (fun C h1 q => q.elim)
        obtain ⟨rfl, qX⟩ := qX
        rw [qX]
        clear qX hX
        rw [hw, show zBo false = 0 from rfl]
        refine zi_if_eq (tgt := 99) F dL_isMinute_92 (by decide) (by first | omega | (dsimp only at *; omega)) (fun c92 => ?_) (fun c92 => False.elim (by first | omega | (dsimp only at *; omega)))
        refine zi_iconst F dL_isMinute_99 ?_
        refine zi_iadd F dL_isMinute_100 ?_
        refine z_istore F dL_isMinute_101 rfl (hnl _ rfl) ?_
        refine z_iload F dL_isMinute_103 rfl ?_
        refine z_aload_n F dL_isMinute_105 rfl rfl ?_
        refine z_iload F dL_isMinute_106 rfl ?_
        refine z_callV F B cal_yX10_isWrecked (n_isWrecked (i := i) hiM r0 r1 hO1 (by omega)) dL_isMinute_108 rfl rfl (Nat.le_of_ble_eq_true rfl) (by decide) (by omega) (by omega) ml_L_215 im_yX10_isWrecked se_yX10_isWrecked r0 (by decide) rfl rfl (fun v hX qX => ?_) (fun C h1 q => q.elim)
        obtain ⟨rfl, qX⟩ := qX
        rw [qX]
        clear qX hX
        rw [hw, show zBo false = 0 from rfl]
        refine zi_if_eq (tgt := 118) F dL_isMinute_111 (by decide) (by first | omega | (dsimp only at *; omega)) (fun c111 => ?_) (fun c111 => False.elim (by first | omega | (dsimp only at *; omega)))
        refine z_aload_n F dL_isMinute_118 rfl rfl ?_
        refine z_iload F dL_isMinute_119 rfl ?_
        refine z_callV F B cal_yX10_seenBy (n_seenBy (i := i) hiM r0 r1 hO1 (by omega)) dL_isMinute_121 rfl rfl (Nat.le_of_ble_eq_true rfl) (by decide) (by omega) (by omega) ml_L_270 im_yX10_seenBy se_yX10_seenBy r0 (by decide) rfl rfl (fun v hX qX => ?_) (fun C h1 q => q.elim)
        obtain ⟨rfl, qX⟩ := qX
        rw [qX]
        clear qX hX
        refine zi_iadd F dL_isMinute_124 ?_
        refine z_istore F dL_isMinute_125 rfl (hnl _ rfl) ?_
        refine z_iload F dL_isMinute_127 rfl ?_
        refine z_aload_n F dL_isMinute_129 rfl rfl ?_
        refine z_iload F dL_isMinute_130 rfl ?_
        refine z_callV F B cal_yX10_isWrecked (n_isWrecked (i := i) hiM r0 r1 hO1 (by omega)) dL_isMinute_132 rfl rfl (Nat.le_of_ble_eq_true rfl) (by decide) (by omega) (by omega) ml_L_215 im_yX10_isWrecked se_yX10_isWrecked r0 (by decide) rfl rfl (fun v hX qX => ?_) (fun C h1 q => q.elim)
        obtain ⟨rfl, qX⟩ := qX
        rw [qX]
        clear qX hX
        rw [hw, show zBo false = 0 from rfl]
        refine zi_if_ne (tgt := 169) F dL_isMinute_135 (by decide) (by first | omega | (dsimp only at *; omega)) (fun c135 => False.elim (by first | omega | (dsimp only at *; omega))) (fun c135 => ?_)
        refine z_aload_n F dL_isMinute_138 rfl rfl ?_
        refine z_iload F dL_isMinute_139 rfl ?_
        refine z_callV F B cal_yX10_darkMinutes (n_darkMinutes (i := i) hiM r0 r1 hO1 (by omega)) dL_isMinute_141 rfl rfl (Nat.le_of_ble_eq_true rfl) (by decide) (by omega) (by omega) ml_L_212 im_yX10_darkMinutes se_yX10_darkMinutes r0 (by decide) rfl rfl (fun v hX qX => ?_) (fun C h1 q => q.elim)
        obtain ⟨rfl, qX⟩ := qX
        rw [qX]
        clear qX hX
        by_cases hd0 : ((f_min S.1).2.2.1 i).2.2.2.2 = 0
        · have hd1 := hdk.mp hd0
          refine zi_if_ne (tgt := 151) F dL_isMinute_144 (by decide) (by first | omega | (dsimp only at *; omega)) (fun c144 => False.elim (by first | omega | (dsimp only at *; omega))) (fun c144 => ?_)
          refine zi_iconst F dL_isMinute_147 ?_
          refine z_goto (tgt := 152) F dL_isMinute_148 (by decide) ?_
          refine z_aload_n F dL_isMinute_152 rfl rfl ?_
          refine z_iload F dL_isMinute_153 rfl ?_
          refine z_callV F B cal_yX10_seenBy (n_seenBy (i := i) hiM r0 r1 hO1 (by omega)) dL_isMinute_155 rfl rfl (Nat.le_of_ble_eq_true rfl) (by decide) (by omega) (by omega) ml_L_270 im_yX10_seenBy se_yX10_seenBy r0 (by decide) rfl rfl (fun v hX qX => ?_) (fun C h1 q => q.elim)
          obtain ⟨rfl, qX⟩ := qX
          rw [qX]
          clear qX hX
          refine zi_if_le (tgt := 165) F dL_isMinute_158 (by decide) (by first | omega | (dsimp only at *; omega)) (fun c158 => False.elim (by first | omega | (dsimp only at *; omega))) (fun c158 => ?_)
          refine zi_iconst F dL_isMinute_161 ?_
          refine z_goto (tgt := 166) F dL_isMinute_162 (by decide) ?_
          refine zi_icmp_ne (tgt := 173) F dL_isMinute_166 (by decide) (by first | omega | (dsimp only at *; omega)) (fun c166 => False.elim (by first | omega | (dsimp only at *; omega))) (fun c166 => ?_)
          refine zi_iconst F dL_isMinute_169 ?_
          refine z_goto (tgt := 174) F dL_isMinute_170 (by decide) ?_
          refine z_iand F dL_isMinute_174 ?_
          rw [iand11]
          refine z_istore F dL_isMinute_175 rfl (hnl _ rfl) ?_
          refine zi_iinc F dL_isMinute_177 rfl rfl (hnl _ rfl) ?_
          refine z_goto (tgt := 75) F dL_isMinute_180 (by decide) ?_
          exact ih (i + 1) (by omega) _ _ R1 (by rw [ez, es]; rfl)
        · have hd1 : ¬ 0 < f_lsw (f_min S.1) ((f_min S.1).2.2.1 i).1 := fun q => hd0 (hdk.mpr q)
          refine zi_if_ne (tgt := 151) F dL_isMinute_144 (by decide) (by first | omega | (dsimp only at *; omega)) (fun c144 => ?_) (fun c144 => False.elim (by first | omega | (dsimp only at *; omega)))
          refine zi_iconst F dL_isMinute_151 ?_
          refine z_aload_n F dL_isMinute_152 rfl rfl ?_
          refine z_iload F dL_isMinute_153 rfl ?_
          refine z_callV F B cal_yX10_seenBy (n_seenBy (i := i) hiM r0 r1 hO1 (by omega)) dL_isMinute_155 rfl rfl (Nat.le_of_ble_eq_true rfl) (by decide) (by omega) (by omega) ml_L_270 im_yX10_seenBy se_yX10_seenBy r0 (by decide) rfl rfl (fun v hX qX => ?_) (fun C h1 q => q.elim)
          obtain ⟨rfl, qX⟩ := qX
          rw [qX]
          clear qX hX
          refine zi_if_le (tgt := 165) F dL_isMinute_158 (by decide) (by first | omega | (dsimp only at *; omega)) (fun c158 => ?_) (fun c158 => False.elim (by first | omega | (dsimp only at *; omega)))
          refine zi_iconst F dL_isMinute_165 ?_
          refine zi_icmp_ne (tgt := 173) F dL_isMinute_166 (by decide) (by first | omega | (dsimp only at *; omega)) (fun c166 => False.elim (by first | omega | (dsimp only at *; omega))) (fun c166 => ?_)
          refine zi_iconst F dL_isMinute_169 ?_
          refine z_goto (tgt := 174) F dL_isMinute_170 (by decide) ?_
          refine z_iand F dL_isMinute_174 ?_
          rw [iand11]
          refine z_istore F dL_isMinute_175 rfl (hnl _ rfl) ?_
          refine zi_iinc F dL_isMinute_177 rfl rfl (hnl _ rfl) ?_
          refine z_goto (tgt := 75) F dL_isMinute_180 (by decide) ?_
          exact ih (i + 1) (by omega) _ _ R1 (by rw [ez, es]; rfl)
      · have ez : zcnt (fun i => ((f_min S.1).2.2.1 i).2.2.2.1) (i + 1) = zcnt (fun i => ((f_min S.1).2.2.1 i).2.2.2.1) i + 1 := by show _ + (if ((f_min S.1).2.2.1 i).2.2.2.1 then 1 else 0) = _; rw [hw]; rfl
        have es : zsum (f_sgn (f_min S.1)) (i + 1) = zsum (f_sgn (f_min S.1)) i + 0 := by show _ + f_sgn (f_min S.1) i = _; unfold f_sgn; rw [hw]; rfl
        refine z_iload F dL_isMinute_75 rfl ?_
        refine z_aload_n F dL_isMinute_77 rfl rfl ?_
        refine z_callV F B cal_yX10_shipCount (m_shipCount r0 r1) dL_isMinute_78 rfl rfl (Nat.le_of_ble_eq_true rfl) (by decide) (by omega) (by omega) ml_L_182 im_yX10_shipCount se_yX10_shipCount r0 (by decide) rfl rfl (fun v hX qX => ?_) (fun C h1 q => q.elim)
        obtain ⟨rfl, qX⟩ := qX
        rw [qX]
        clear qX hX
        rw [hcM]
        refine zi_icmp_ge (tgt := 183) F dL_isMinute_81 (by decide) (by first | omega | (dsimp only at *; omega)) (fun c81 => False.elim (by first | omega | (dsimp only at *; omega))) (fun c81 => ?_)
        refine z_iload F dL_isMinute_84 rfl ?_
        refine z_aload_n F dL_isMinute_86 rfl rfl ?_
        refine z_iload F dL_isMinute_87 rfl ?_
        refine z_callV F B cal_yX10_isWrecked (n_isWrecked (i := i) hiM r0 r1 hO1 (by omega)) dL_isMinute_89 rfl rfl (Nat.le_of_ble_eq_true rfl) (by decide) (by omega) (by omega) ml_L_215 im_yX10_isWrecked se_yX10_isWrecked r0 (by decide) rfl rfl (fun v hX qX => ?_) (fun C h1 q => q.elim)
        obtain ⟨rfl, qX⟩ := qX
        rw [qX]
        clear qX hX
        rw [hw, show zBo true = 1 from rfl]
        refine zi_if_eq (tgt := 99) F dL_isMinute_92 (by decide) (by first | omega | (dsimp only at *; omega)) (fun c92 => False.elim (by first | omega | (dsimp only at *; omega))) (fun c92 => ?_)
        refine zi_iconst F dL_isMinute_95 ?_
        refine z_goto (tgt := 100) F dL_isMinute_96 (by decide) ?_
        refine zi_iadd F dL_isMinute_100 ?_
        refine z_istore F dL_isMinute_101 rfl (hnl _ rfl) ?_
        refine z_iload F dL_isMinute_103 rfl ?_
        refine z_aload_n F dL_isMinute_105 rfl rfl ?_
        refine z_iload F dL_isMinute_106 rfl ?_
        refine z_callV F B cal_yX10_isWrecked (n_isWrecked (i := i) hiM r0 r1 hO1 (by omega)) dL_isMinute_108 rfl rfl (Nat.le_of_ble_eq_true rfl) (by decide) (by omega) (by omega) ml_L_215 im_yX10_isWrecked se_yX10_isWrecked r0 (by decide) rfl rfl (fun v hX qX => ?_) (fun C h1 q => q.elim)
        obtain ⟨rfl, qX⟩ := qX
        rw [qX]
        clear qX hX
        rw [hw, show zBo true = 1 from rfl]
        refine zi_if_eq (tgt := 118) F dL_isMinute_111 (by decide) (by first | omega | (dsimp only at *; omega)) (fun c111 => False.elim (by first | omega | (dsimp only at *; omega))) (fun c111 => ?_)
        refine zi_iconst F dL_isMinute_114 ?_
        refine z_goto (tgt := 124) F dL_isMinute_115 (by decide) ?_
        refine zi_iadd F dL_isMinute_124 ?_
        refine z_istore F dL_isMinute_125 rfl (hnl _ rfl) ?_
        refine z_iload F dL_isMinute_127 rfl ?_
        refine z_aload_n F dL_isMinute_129 rfl rfl ?_
        refine z_iload F dL_isMinute_130 rfl ?_
        refine z_callV F B cal_yX10_isWrecked (n_isWrecked (i := i) hiM r0 r1 hO1 (by omega)) dL_isMinute_132 rfl rfl (Nat.le_of_ble_eq_true rfl) (by decide) (by omega) (by omega) ml_L_215 im_yX10_isWrecked se_yX10_isWrecked r0 (by decide) rfl rfl (fun v hX qX => ?_) (fun C h1 q => q.elim)
        obtain ⟨rfl, qX⟩ := qX
        rw [qX]
        clear qX hX
        rw [hw, show zBo true = 1 from rfl]
        refine zi_if_ne (tgt := 169) F dL_isMinute_135 (by decide) (by first | omega | (dsimp only at *; omega)) (fun c135 => ?_) (fun c135 => False.elim (by first | omega | (dsimp only at *; omega)))
        refine zi_iconst F dL_isMinute_169 ?_
        refine z_goto (tgt := 174) F dL_isMinute_170 (by decide) ?_
        refine z_iand F dL_isMinute_174 ?_
        rw [iand11]
        refine z_istore F dL_isMinute_175 rfl (hnl _ rfl) ?_
        refine zi_iinc F dL_isMinute_177 rfl rfl (hnl _ rfl) ?_
        refine z_goto (tgt := 75) F dL_isMinute_180 (by decide) ?_
        exact ih (i + 1) (by omega) _ _ R1 (by rw [ez, es]; rfl)
  -- ship by ship, ahead of it
  have k22 : ∀ n i : Nat, n + i = M → ∀ (h1 : zH) (ls : zL), zRB o S h1 → zpick ls [6, 5, 4, 3, 1, 0] = [(6, .int (iI (i : Int))), (5, .int (iI ((zcnt (fun i => (S.1.2.2.1 i).2.2.2.1) i : Nat) : Int))), (4, .int (iI (S.1.2.2.2.2.2.2.2.1 : Int))), (3, .int (iI (S.1.2.2.2.2.2.1 : Int))), (1, .long (f_dig S.1)), (0, .ref o)] → Z X 24 144 22 ls [] h1 := by
    intro n
    induction n with
    | zero =>
      intro i hi h1 ls R1 el
      have ei : i = M := by omega
      subst ei
      refine Z.keys [6, 5, 4, 3, 1, 0] el ?_
      have r0 := R1.2.1
      obtain ⟨σ, τ, r1⟩ := R1.2.2.1
      refine z_iload F dL_isMinute_22 rfl ?_
      refine z_aload_n F dL_isMinute_24 rfl rfl ?_
      refine z_callV F B cal_yX10_shipCount (m_shipCount r0 r1) dL_isMinute_25 rfl rfl (Nat.le_of_ble_eq_true rfl) (by decide) (by omega) (by omega) ml_L_182 im_yX10_shipCount se_yX10_shipCount r0 (by decide) rfl rfl (fun v hX qX => ?_) (fun C h1 q => q.elim)
      obtain ⟨rfl, qX⟩ := qX
      rw [qX]
      clear qX hX
      rw [hM]
      refine zi_icmp_ge (tgt := 56) F dL_isMinute_28 (by decide) (by first | omega | (dsimp only at *; omega)) (fun c28 => ?_) (fun c28 => False.elim (by first | omega | (dsimp only at *; omega)))
      refine z_aload_n F dL_isMinute_56 rfl rfl ?_
      refine zi_iconst F dL_isMinute_57 ?_
      refine z_callSH F B calH_yL_pass (v_pass (m := 1) ⟨by omega, by omega⟩ R1 hO (by omega)) dL_isMinute_58 rfl rfl (Nat.le_of_ble_eq_true rfl) (by decide) (by omega) (by omega) ml_L_137 st_yL_pass (fun v hX qX => ?_) (fun C h1 q => q.elim)
      clear r0 r1
      obtain ⟨rfl, R2⟩ := qX
      rw [show (((f_mins 1 S.1).2.2.2.2.2.1 : Int) - S.1.2.2.2.2.2.1) = ((zsum (f_sgn (f_min S.1)) i : Nat) : Int) by show ((f_min S.1).2.2.2.2.2.1 : Int) - _ = _; omega]
      refine z_istore F dL_isMinute_61 rfl (hnl _ rfl) ?_
      refine zi_iconst F dL_isMinute_63 ?_
      refine z_istore F dL_isMinute_64 rfl (hnl _ rfl) ?_
      refine zi_iconst F dL_isMinute_66 ?_
      refine z_istore F dL_isMinute_67 rfl (hnl _ rfl) ?_
      refine zi_iconst F dL_isMinute_69 ?_
      refine z_istore F dL_isMinute_70 rfl (hnl _ rfl) ?_
      refine zi_iconst F dL_isMinute_72 ?_
      refine z_istore F dL_isMinute_73 rfl (hnl _ rfl) ?_
      exact k75 i 0 rfl _ _ R2 rfl
    | succ n ih =>
      intro i hi h1 ls R1 el
      refine Z.keys [6, 5, 4, 3, 1, 0] el ?_
      have r0 := R1.2.1
      obtain ⟨σ, τ, r1⟩ := R1.2.2.1
      have hci := zcnt_le (fun i => (S.1.2.2.1 i).2.2.2.1) i
      rcases hw : (S.1.2.2.1 i).2.2.2.1 with _ | _
      · have ez : zcnt (fun i => (S.1.2.2.1 i).2.2.2.1) (i + 1) = zcnt (fun i => (S.1.2.2.1 i).2.2.2.1) i + 0 := by show _ + (if (S.1.2.2.1 i).2.2.2.1 then 1 else 0) = _; rw [hw]; rfl
        refine z_iload F dL_isMinute_22 rfl ?_
        refine z_aload_n F dL_isMinute_24 rfl rfl ?_
        refine z_callV F B cal_yX10_shipCount (m_shipCount r0 r1) dL_isMinute_25 rfl rfl (Nat.le_of_ble_eq_true rfl) (by decide) (by omega) (by omega) ml_L_182 im_yX10_shipCount se_yX10_shipCount r0 (by decide) rfl rfl (fun v hX qX => ?_) (fun C h1 q => q.elim)
        obtain ⟨rfl, qX⟩ := qX
        rw [qX]
        clear qX hX
        rw [hM]
        refine zi_icmp_ge (tgt := 56) F dL_isMinute_28 (by decide) (by first | omega | (dsimp only at *; omega)) (fun c28 => False.elim (by first | omega | (dsimp only at *; omega))) (fun c28 => ?_)
        refine z_iload F dL_isMinute_31 rfl ?_
        refine z_aload_n F dL_isMinute_33 rfl rfl ?_
        refine z_iload F dL_isMinute_34 rfl ?_
        refine z_callV F B cal_yX10_isWrecked (n_isWrecked (i := i) (by omega) r0 r1 hO hKK) dL_isMinute_36 rfl rfl (Nat.le_of_ble_eq_true rfl) (by decide) (by omega) (by omega) ml_L_215 im_yX10_isWrecked se_yX10_isWrecked r0 (by decide) rfl rfl (fun v hX qX => ?_) (fun C h1 q => q.elim)
        obtain ⟨rfl, qX⟩ := qX
        rw [qX]
        clear qX hX
        rw [hw, show zBo false = 0 from rfl]
        refine zi_if_eq (tgt := 46) F dL_isMinute_39 (by decide) (by first | omega | (dsimp only at *; omega)) (fun c39 => ?_) (fun c39 => False.elim (by first | omega | (dsimp only at *; omega)))
        refine zi_iconst F dL_isMinute_46 ?_
        refine zi_iadd F dL_isMinute_47 ?_
        refine z_istore F dL_isMinute_48 rfl (hnl _ rfl) ?_
        refine zi_iinc F dL_isMinute_50 rfl rfl (hnl _ rfl) ?_
        refine z_goto (tgt := 22) F dL_isMinute_53 (by decide) ?_
        exact ih (i + 1) (by omega) _ _ R1 (by rw [ez]; rfl)
      · have ez : zcnt (fun i => (S.1.2.2.1 i).2.2.2.1) (i + 1) = zcnt (fun i => (S.1.2.2.1 i).2.2.2.1) i + 1 := by show _ + (if (S.1.2.2.1 i).2.2.2.1 then 1 else 0) = _; rw [hw]; rfl
        refine z_iload F dL_isMinute_22 rfl ?_
        refine z_aload_n F dL_isMinute_24 rfl rfl ?_
        refine z_callV F B cal_yX10_shipCount (m_shipCount r0 r1) dL_isMinute_25 rfl rfl (Nat.le_of_ble_eq_true rfl) (by decide) (by omega) (by omega) ml_L_182 im_yX10_shipCount se_yX10_shipCount r0 (by decide) rfl rfl (fun v hX qX => ?_) (fun C h1 q => q.elim)
        obtain ⟨rfl, qX⟩ := qX
        rw [qX]
        clear qX hX
        rw [hM]
        refine zi_icmp_ge (tgt := 56) F dL_isMinute_28 (by decide) (by first | omega | (dsimp only at *; omega)) (fun c28 => False.elim (by first | omega | (dsimp only at *; omega))) (fun c28 => ?_)
        refine z_iload F dL_isMinute_31 rfl ?_
        refine z_aload_n F dL_isMinute_33 rfl rfl ?_
        refine z_iload F dL_isMinute_34 rfl ?_
        refine z_callV F B cal_yX10_isWrecked (n_isWrecked (i := i) (by omega) r0 r1 hO hKK) dL_isMinute_36 rfl rfl (Nat.le_of_ble_eq_true rfl) (by decide) (by omega) (by omega) ml_L_215 im_yX10_isWrecked se_yX10_isWrecked r0 (by decide) rfl rfl (fun v hX qX => ?_) (fun C h1 q => q.elim)
        obtain ⟨rfl, qX⟩ := qX
        rw [qX]
        clear qX hX
        rw [hw, show zBo true = 1 from rfl]
        refine zi_if_eq (tgt := 46) F dL_isMinute_39 (by decide) (by first | omega | (dsimp only at *; omega)) (fun c39 => False.elim (by first | omega | (dsimp only at *; omega))) (fun c39 => ?_)
        refine zi_iconst F dL_isMinute_42 ?_
        refine z_goto (tgt := 47) F dL_isMinute_43 (by decide) ?_
        refine zi_iadd F dL_isMinute_47 ?_
        refine z_istore F dL_isMinute_48 rfl (hnl _ rfl) ?_
        refine zi_iinc F dL_isMinute_50 rfl rfl (hnl _ rfl) ?_
        refine z_goto (tgt := 22) F dL_isMinute_53 (by decide) ?_
        exact ih (i + 1) (by omega) _ _ R1 (by rw [ez]; rfl)
  refine z_aload_n F dL_isMinute_0 rfl rfl ?_
  refine z_callS F B cal_yL_digest (w_digest R hO (by omega)) dL_isMinute_1 rfl rfl (Nat.le_of_ble_eq_true rfl) (by decide) (by omega) (by omega) ml_L_300 st_yL_digest (fun v hX qX => ?_) (fun C h1 q => q.elim)
  obtain ⟨rfl, R1⟩ := qX
  have r0 := R1.2.1
  obtain ⟨σ, τ, r1⟩ := R1.2.2.1
  refine z_lstore_n F dL_isMinute_4 rfl rfl rfl (hnl _ rfl) ?_
  refine z_aload_n F dL_isMinute_5 rfl rfl ?_
  refine z_callV F B cal_yX10_sightings (m_sightings r0 r1) dL_isMinute_6 rfl rfl (Nat.le_of_ble_eq_true rfl) (by decide) (by omega) (by omega) ml_L_167 im_yX10_sightings se_yX10_sightings r0 (by decide) rfl rfl (fun v hX qX => ?_) (fun C h1 q => q.elim)
  obtain ⟨rfl, qX⟩ := qX
  rw [qX]
  clear qX hX
  refine z_istore_n F dL_isMinute_9 rfl rfl (hnl _ rfl) ?_
  refine z_aload_n F dL_isMinute_10 rfl rfl ?_
  refine z_callV F B cal_yX10_wrecks (m_wrecks r0 r1) dL_isMinute_11 rfl rfl (Nat.le_of_ble_eq_true rfl) (by decide) (by omega) (by omega) ml_L_172 im_yX10_wrecks se_yX10_wrecks r0 (by decide) rfl rfl (fun v hX qX => ?_) (fun C h1 q => q.elim)
  obtain ⟨rfl, qX⟩ := qX
  rw [qX]
  clear qX hX
  refine z_istore F dL_isMinute_14 rfl (hnl _ rfl) ?_
  refine zi_iconst F dL_isMinute_16 ?_
  refine z_istore F dL_isMinute_17 rfl (hnl _ rfl) ?_
  refine zi_iconst F dL_isMinute_19 ?_
  refine z_istore F dL_isMinute_20 rfl (hnl _ rfl) ?_
  exact k22 M 0 rfl _ _ R1 rfl
/-- what isFit asks of a coast -/
def hFit (C : zCo) : Prop := hDep C ∧ hDep (f_min C) ∧ hFew C ∧ ∀ i, i < C.2.2.2.1.2 → hArr C i
theorem w_isFit (hF : hFit S.1) (Bs : zRs h) (R : zRB o S h) (hG : zGd K S.1) (hK : K < 1500000) : zMet yL_isFit cL_isFit 1 (some .boolean) 16 7200 42300 [.ref o] h (fun v h' => v = some (.int (iI 1)) ∧ ∃ S', zSh S S' ∧ zRB o S' h') (fun _ _ => False) := by
  refine zMet.go (by decide +kernel) (Nat.le_of_ble_eq_true rfl) ?_
  intro X F B hnl hR hn
  have hO := hG.1
  refine z_ro F (fun hro => ?_)
  refine z_aload_n F dL_isFit_0 rfl rfl ?_
  refine z_callS F B cal_yL_areDepths (w_areDepths R hO (by omega) hF.1) dL_isFit_1 rfl rfl (Nat.le_of_ble_eq_true rfl) (by decide) (by omega) (by omega) ml_L_306 st_yL_areDepths (fun v hX qX => ?_) (fun C h1 q => q.elim)
  obtain ⟨rfl, R1⟩ := qX
  refine zi_if_eq (tgt := 32) F dL_isFit_4 (by decide) (by first | omega | (dsimp only at *; omega)) (fun c4 => False.elim (by first | omega | (dsimp only at *; omega))) (fun c4 => ?_)
  refine z_aload_n F dL_isFit_7 rfl rfl ?_
  refine z_callS F B cal_yL_areLights (w_areLights hG.2.1 hG.2.2.2 hF.2.2.1 R1 hO (by omega)) dL_isFit_8 rfl rfl (Nat.le_of_ble_eq_true rfl) (by decide) (by omega) (by omega) ml_L_310 st_yL_areLights (fun v hX qX => ?_) (fun C h1 q => q.elim)
  obtain ⟨rfl, R2⟩ := qX
  refine zi_if_eq (tgt := 32) F dL_isFit_11 (by decide) (by first | omega | (dsimp only at *; omega)) (fun c11 => False.elim (by first | omega | (dsimp only at *; omega))) (fun c11 => ?_)
  refine z_ro F (fun hro2 => ?_)
  refine z_aload_n F dL_isFit_14 rfl rfl ?_
  refine z_callS F B cal_yL_areShips (w_areShips hG.2.2.1 hF.2.2.2 (Bs.cong (fun a ha => by rw [hro2 a ha, hro a ha])) R2 hO (by omega)) dL_isFit_15 rfl rfl (Nat.le_of_ble_eq_true rfl) (by decide) (by omega) (by omega) ml_L_313 st_yL_areShips (fun v hX qX => ?_) (fun C h1 q => q.elim)
  obtain ⟨rfl, S3, s3, R3⟩ := qX
  refine zi_if_eq (tgt := 32) F dL_isFit_18 (by decide) (by first | omega | (dsimp only at *; omega)) (fun c18 => False.elim (by first | omega | (dsimp only at *; omega))) (fun c18 => ?_)
  refine z_aload_n F dL_isFit_21 rfl rfl ?_
  refine z_callS F B cal_yL_isMinute (w_isMinute (by rw [s3.1]; exact hF.2.1) R3 (by rw [s3.1]; exact hO) (by omega)) dL_isFit_22 rfl rfl (Nat.le_of_ble_eq_true rfl) (by decide) (by omega) (by omega) ml_L_316 st_yL_isMinute (fun v hX qX => ?_) (fun C h1 q => q.elim)
  obtain ⟨rfl, S4, s4, R4⟩ := qX
  refine zi_if_eq (tgt := 32) F dL_isFit_25 (by decide) (by first | omega | (dsimp only at *; omega)) (fun c25 => False.elim (by first | omega | (dsimp only at *; omega))) (fun c25 => ?_)
  refine zi_iconst F dL_isFit_28 ?_
  refine z_goto (tgt := 33) F dL_isFit_29 (by decide) ?_
  exact Z.widen (by omega) (by omega) (z_ireturn F rfl B dL_isFit_33 ⟨rfl, S4, s3.tr s4, R4⟩)
end
