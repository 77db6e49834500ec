/-! the law's digest of the chart -/
def l64 (z : Int) : Int64 := (iI z).toInt64
def dg1 (C : zCo) : Nat → Int64
  | 0 => 7 * l64 C.2.2.2.2.1 + 11 * l64 C.2.2.2.2.2.1 + 13 * l64 C.2.2.2.2.2.2.2.1 + 17 * l64 C.2.2.2.2.2.2.2.2 + 19 * l64 C.2.2.2.1.2 + l64 C.2.2.2.1.1
  | i + 1 => 31 * dg1 C i + l64 (C.1 i)
def dg2 (C : zCo) : Nat → Int64
  | 0 => dg1 C 64
  | i + 1 => 31 * (31 * (31 * dg2 C i + l64 (zBeam (C.2.1 i) C.2.2.2.2.1)) + (bc64 (f_rm C (C.2.1 i))).toInt64) + l64 (C.2.1 i).2.2.2.2
def dg3 (C : zCo) : Nat → Int64
  | 0 => dg2 C C.2.2.2.1.1
  | i + 1 => 31 * (31 * (31 * (31 * dg3 C i + l64 (8 * (((C.2.2.1 i).1 : Int) / 8)) + l64 (((C.2.2.1 i).1 : Int) % 8)) + l64 (g_gc C i)) + l64 (g_gr C i)) + l64 (C.2.2.1 i).2.2.2.2 + l64 (if (C.2.2.1 i).2.2.2.1 then 1000 else 0)
def f_dig (C : zCo) : Int64 := dg3 C C.2.2.2.1.2
section
variable {o K : Nat} {S : zBt} {h : zH}
theorem w_digest (R : zRB o S h) (hO : zOk K S.1) (hK : K < 1700000) : zMet yL_digest cL_digest 4 (some .long) 13 24 144 [.ref o] h (fun v h' => v = some (.long (f_dig S.1)) ∧ zRB o S h') (fun _ _ => False) := by
  refine zMet.go (by decide +kernel) (Nat.le_of_ble_eq_true rfl) ?_
  intro X F B hnl hR hn
  have r0 := R.2.1
  have hl6 := hO.2.2.2.1
  have hn6 := hO.2.2.2.2.1
  obtain ⟨σ, τ, r1⟩ := R.2.2.1
  refine z_ldc2 F dL_digest_0 zw_L_160 ?_
  refine z_aload_n F dL_digest_3 rfl rfl ?_
  refine z_callV F B cal_yX10_minute (m_minute r0 r1) dL_digest_4 rfl rfl (Nat.le_of_ble_eq_true rfl) (by decide) (by decide) (by decide) ml_L_162 im_yX10_minute se_yX10_minute r0 (by decide) rfl rfl (fun v hX qX => ?_) (fun C h1 q => q.elim)
  obtain ⟨rfl, qX⟩ := qX
  rw [qX]
  clear qX hX
  refine z_i2l F dL_digest_7 rfl ?_
  refine z_lmul F dL_digest_8 ?_
  refine z_ldc2 F dL_digest_9 zw_L_165 ?_
  refine z_aload_n F dL_digest_12 rfl rfl ?_
  refine z_callV F B cal_yX10_sightings (m_sightings r0 r1) dL_digest_13 rfl rfl (Nat.le_of_ble_eq_true rfl) (by decide) (by decide) (by decide) ml_L_167 im_yX10_sightings se_yX10_sightings r0 (by decide) rfl rfl (fun v hX qX => ?_) (fun C h1 q => q.elim)
  obtain ⟨rfl, qX⟩ := qX
  rw [qX]
  clear qX hX
  refine z_i2l F dL_digest_16 rfl ?_
  refine z_lmul F dL_digest_17 ?_
  refine z_ladd F dL_digest_18 ?_
  refine z_ldc2 F dL_digest_19 zw_L_170 ?_
  refine z_aload_n F dL_digest_22 rfl rfl ?_
  refine z_callV F B cal_yX10_wrecks (m_wrecks r0 r1) dL_digest_23 rfl rfl (Nat.le_of_ble_eq_true rfl) (by decide) (by decide) (by decide) ml_L_172 im_yX10_wrecks se_yX10_wrecks r0 (by decide) rfl rfl (fun v hX qX => ?_) (fun C h1 q => q.elim)
  obtain ⟨rfl, qX⟩ := qX
  rw [qX]
  clear qX hX
  refine z_i2l F dL_digest_26 rfl ?_
  refine z_lmul F dL_digest_27 ?_
  refine z_ladd F dL_digest_28 ?_
  refine z_ldc2 F dL_digest_29 zw_L_175 ?_
  refine z_aload_n F dL_digest_32 rfl rfl ?_
  refine z_callV F B cal_yX10_salvaged (m_salvaged r0 r1) dL_digest_33 rfl rfl (Nat.le_of_ble_eq_true rfl) (by decide) (by decide) (by decide) ml_L_177 im_yX10_salvaged se_yX10_salvaged r0 (by decide) rfl rfl (fun v hX qX => ?_) (fun C h1 q => q.elim)
  obtain ⟨rfl, qX⟩ := qX
  rw [qX]
  clear qX hX
  refine z_i2l F dL_digest_36 rfl ?_
  refine z_lmul F dL_digest_37 ?_
  refine z_ladd F dL_digest_38 ?_
  refine z_ldc2 F dL_digest_39 zw_L_180 ?_
  refine z_aload_n F dL_digest_42 rfl rfl ?_
  refine z_callV F B cal_yX10_shipCount (m_shipCount r0 r1) dL_digest_43 rfl rfl (Nat.le_of_ble_eq_true rfl) (by decide) (by decide) (by decide) ml_L_182 im_yX10_shipCount se_yX10_shipCount r0 (by decide) rfl rfl (fun v hX qX => ?_) (fun C h1 q => q.elim)
  obtain ⟨rfl, qX⟩ := qX
  rw [qX]
  clear qX hX
  refine z_i2l F dL_digest_46 rfl ?_
  refine z_lmul F dL_digest_47 ?_
  refine z_ladd F dL_digest_48 ?_
  refine z_aload_n F dL_digest_49 rfl rfl ?_
  refine z_callV F B cal_yX10_lightCount (m_lightCount r0 r1) dL_digest_50 rfl rfl (Nat.le_of_ble_eq_true rfl) (by decide) (by decide) (by decide) ml_L_185 im_yX10_lightCount se_yX10_lightCount r0 (by decide) rfl rfl (fun v hX qX => ?_) (fun C h1 q => q.elim)
  obtain ⟨rfl, qX⟩ := qX
  rw [qX]
  clear qX hX
  refine z_i2l F dL_digest_53 rfl ?_
  refine z_ladd F dL_digest_54 ?_
  refine z_lstore_n F dL_digest_55 rfl rfl rfl (hnl _ rfl) ?_
  refine zi_iconst F dL_digest_56 ?_
  refine z_istore_n F dL_digest_57 rfl rfl (hnl _ rfl) ?_
  suffices KK : ∀ n i : Nat, n + i = 64 → Z X 0 0 58 [(3, .int (iI i)), (1, .long (dg1 S.1 i)), (0, .ref o)] [] h from Z.keys [3, 1, 0] rfl (KK 64 0 rfl)
  intro n
  induction n with
  | succ n ih =>
    intro i hi
    refine z_iload_n F dL_digest_58 rfl rfl ?_
    refine zi_bipush F dL_digest_59 (by decide) ?_
    refine zi_icmp_ge (tgt := 90) F dL_digest_61 (by decide) (by first | omega | (dsimp only at *; omega)) (fun c61 => False.elim (by first | omega | (dsimp only at *; omega))) (fun c61 => ?_)
    refine z_ldc2 F dL_digest_64 zw_L_188 ?_
    refine z_lload_n F dL_digest_67 rfl rfl ?_
    refine z_lmul F dL_digest_68 ?_
    refine z_aload_n F dL_digest_69 rfl rfl ?_
    refine z_iload_n F dL_digest_70 rfl rfl ?_
    refine zi_bipush F dL_digest_71 (by decide) ?_
    refine zi_irem F dL_digest_73 (by omega) ?_
    refine z_iload_n F dL_digest_74 rfl rfl ?_
    refine zi_bipush F dL_digest_75 (by decide) ?_
    refine zi_idiv F dL_digest_77 (by omega) ?_
    refine z_callV F B cal_yX10_depth (n_depth (by omega) r0 r1 hO (by omega)) dL_digest_78 rfl rfl (Nat.le_of_ble_eq_true rfl) (by decide) (by decide) (by decide) ml_L_190 im_yX10_depth se_yX10_depth r0 (by decide) rfl rfl (fun v hX qX => ?_) (fun C h1 q => q.elim)
    obtain ⟨rfl, qX⟩ := qX
    rw [qX]
    clear qX hX
    rw [show (8 * ((i : Int) / 8) + (i : Int) % 8).toNat = i by omega]
    refine z_i2l F dL_digest_81 rfl ?_
    refine z_ladd F dL_digest_82 ?_
    refine z_lstore_n F dL_digest_83 rfl rfl rfl (hnl _ rfl) ?_
    refine zi_iinc F dL_digest_84 rfl rfl (hnl _ rfl) ?_
    refine z_goto (tgt := 58) F dL_digest_87 (by decide) ?_
    exact Z.keys [3, 1, 0] rfl (ih (i + 1) (by omega))
  | zero =>
    intro i hi
    have hi64 : i = 64 := by omega
    subst hi64
    refine z_iload_n F dL_digest_58 rfl rfl ?_
    refine zi_bipush F dL_digest_59 (by decide) ?_
    refine zi_icmp_ge (tgt := 90) F dL_digest_61 (by decide) (by first | omega | (dsimp only at *; omega)) (fun c61 => ?_) (fun c61 => False.elim (by first | omega | (dsimp only at *; omega)))
    refine zi_iconst F dL_digest_90 ?_
    refine z_istore_n F dL_digest_91 rfl rfl (hnl _ rfl) ?_
    suffices KK : ∀ n i : Nat, n + i = S.1.2.2.2.1.1 → Z X 0 0 92 [(3, .int (iI i)), (1, .long (dg2 S.1 i)), (0, .ref o)] [] h from Z.keys [3, 1, 0] rfl (KK S.1.2.2.2.1.1 0 rfl)
    intro n
    induction n with
    | succ n ih =>
      intro i hi
      refine z_iload_n F dL_digest_92 rfl rfl ?_
      refine z_aload_n F dL_digest_93 rfl rfl ?_
      refine z_callV F B cal_yX10_lightCount (m_lightCount r0 r1) dL_digest_94 rfl rfl (Nat.le_of_ble_eq_true rfl) (by decide) (by decide) (by decide) ml_L_185 im_yX10_lightCount se_yX10_lightCount r0 (by decide) rfl rfl (fun v hX qX => ?_) (fun C h1 q => q.elim)
      obtain ⟨rfl, qX⟩ := qX
      rw [qX]
      clear qX hX
      refine zi_icmp_ge (tgt := 141) F dL_digest_97 (by decide) (by first | omega | (dsimp only at *; omega)) (fun c97 => False.elim (by first | omega | (dsimp only at *; omega))) (fun c97 => ?_)
      refine z_ldc2 F dL_digest_100 zw_L_188 ?_
      refine z_ldc2 F dL_digest_103 zw_L_188 ?_
      refine z_ldc2 F dL_digest_106 zw_L_188 ?_
      refine z_lload_n F dL_digest_109 rfl rfl ?_
      refine z_lmul F dL_digest_110 ?_
      refine z_aload_n F dL_digest_111 rfl rfl ?_
      refine z_iload_n F dL_digest_112 rfl rfl ?_
      refine z_callV F B cal_yX10_beam (n_beam (i := i) (by omega) r0 r1 hO (by omega)) dL_digest_113 rfl rfl (Nat.le_of_ble_eq_true rfl) (by decide) (by decide) (by decide) ml_L_193 im_yX10_beam se_yX10_beam r0 (by decide) rfl rfl (fun v hX qX => ?_) (fun C h1 q => q.elim)
      obtain ⟨rfl, qX⟩ := qX
      rw [qX]
      clear qX hX
      refine z_i2l F dL_digest_116 rfl ?_
      refine z_ladd F dL_digest_117 ?_
      refine z_lmul F dL_digest_118 ?_
      refine z_aload_n F dL_digest_119 rfl rfl ?_
      refine z_iload_n F dL_digest_120 rfl rfl ?_
      refine z_callV F B cal_yX10_reachedCells (n_reachedCells (i := i) (by omega) r0 r1 hO (by omega)) dL_digest_121 rfl rfl (Nat.le_of_ble_eq_true rfl) (by decide) (by decide) (by decide) ml_L_196 im_yX10_reachedCells se_yX10_reachedCells r0 (by decide) rfl rfl (fun v hX qX => ?_) (fun C h1 q => q.elim)
      obtain ⟨rfl, qX⟩ := qX
      rw [qX]
      clear qX hX
      refine z_i2l F dL_digest_124 rfl ?_
      refine z_ladd F dL_digest_125 ?_
      refine z_lmul F dL_digest_126 ?_
      refine z_aload_n F dL_digest_127 rfl rfl ?_
      refine z_iload_n F dL_digest_128 rfl rfl ?_
      refine z_callV F B cal_yX10_sightingsOf (n_sightingsOf (i := i) (by omega) r0 r1 hO (by omega)) dL_digest_129 rfl rfl (Nat.le_of_ble_eq_true rfl) (by decide) (by decide) (by decide) ml_L_199 im_yX10_sightingsOf se_yX10_sightingsOf r0 (by decide) rfl rfl (fun v hX qX => ?_) (fun C h1 q => q.elim)
      obtain ⟨rfl, qX⟩ := qX
      rw [qX]
      clear qX hX
      refine z_i2l F dL_digest_132 rfl ?_
      refine z_ladd F dL_digest_133 ?_
      refine z_lstore_n F dL_digest_134 rfl rfl rfl (hnl _ rfl) ?_
      refine zi_iinc F dL_digest_135 rfl rfl (hnl _ rfl) ?_
      refine z_goto (tgt := 92) F dL_digest_138 (by decide) ?_
      exact Z.keys [3, 1, 0] rfl (ih (i + 1) (by omega))
    | zero =>
      intro i hi
      have hin : i = S.1.2.2.2.1.1 := by omega
      subst hin
      refine z_iload_n F dL_digest_92 rfl rfl ?_
      refine z_aload_n F dL_digest_93 rfl rfl ?_
      refine z_callV F B cal_yX10_lightCount (m_lightCount r0 r1) dL_digest_94 rfl rfl (Nat.le_of_ble_eq_true rfl) (by decide) (by decide) (by decide) ml_L_185 im_yX10_lightCount se_yX10_lightCount r0 (by decide) rfl rfl (fun v hX qX => ?_) (fun C h1 q => q.elim)
      obtain ⟨rfl, qX⟩ := qX
      rw [qX]
      clear qX hX
      refine zi_icmp_ge (tgt := 141) F dL_digest_97 (by decide) (by first | omega | (dsimp only at *; omega)) (fun c97 => ?_) (fun c97 => False.elim (by first | omega | (dsimp only at *; omega)))
      refine zi_iconst F dL_digest_141 ?_
      refine z_istore_n F dL_digest_142 rfl rfl (hnl _ rfl) ?_
      suffices KK : ∀ n i : Nat, n + i = S.1.2.2.2.1.2 → ∀ h1 : zH, zRB o S h1 → Z X (4 * i) (24 * i) 143 [(3, .int (iI i)), (1, .long (dg3 S.1 i)), (0, .ref o)] [] h1 from Z.keys [3, 1, 0] rfl (KK S.1.2.2.2.1.2 0 rfl h R)
      clear r0 r1
      intro n
      induction n with
      | zero =>
        intro i hi h1 R1
        have r0 := R1.2.1
        obtain ⟨σ, τ, r1⟩ := R1.2.2.1
        have hin : i = S.1.2.2.2.1.2 := by omega
        subst hin
        refine z_iload_n F dL_digest_143 rfl rfl ?_
        refine z_aload_n F dL_digest_144 rfl rfl ?_
        refine z_callV F B cal_yX10_shipCount (m_shipCount r0 r1) dL_digest_145 rfl rfl (Nat.le_of_ble_eq_true rfl) (by decide) (by omega) (by omega) ml_L_182 im_yX10_shipCount se_yX10_shipCount r0 (by decide) rfl rfl (fun v hX qX => ?_) (fun C h1 q => q.elim)
        obtain ⟨rfl, qX⟩ := qX
        rw [qX]
        clear qX hX
        refine zi_icmp_ge (tgt := 230) F dL_digest_148 (by decide) (by first | omega | (dsimp only at *; omega)) (fun c148 => ?_) (fun c148 => False.elim (by first | omega | (dsimp only at *; omega)))
        refine z_lload_n F dL_digest_230 rfl rfl ?_
        exact Z.widen (by omega) (by omega) (z_lreturn F B dL_digest_231 ⟨rfl, R1⟩)
      | succ n ih =>
        intro i hi h1 R1
        have r0 := R1.2.1
        obtain ⟨σ, τ, r1⟩ := R1.2.2.1
        refine z_iload_n F dL_digest_143 rfl rfl ?_
        refine z_aload_n F dL_digest_144 rfl rfl ?_
        refine z_callV F B cal_yX10_shipCount (m_shipCount r0 r1) dL_digest_145 rfl rfl (Nat.le_of_ble_eq_true rfl) (by decide) (by omega) (by omega) ml_L_182 im_yX10_shipCount se_yX10_shipCount r0 (by decide) rfl rfl (fun v hX qX => ?_) (fun C h1 q => q.elim)
        obtain ⟨rfl, qX⟩ := qX
        rw [qX]
        clear qX hX
        refine zi_icmp_ge (tgt := 230) F dL_digest_148 (by decide) (by first | omega | (dsimp only at *; omega)) (fun c148 => False.elim (by first | omega | (dsimp only at *; omega))) (fun c148 => ?_)
        refine z_ldc2 F dL_digest_151 zw_L_188 ?_
        refine z_ldc2 F dL_digest_154 zw_L_188 ?_
        refine z_ldc2 F dL_digest_157 zw_L_188 ?_
        refine z_ldc2 F dL_digest_160 zw_L_188 ?_
        refine z_lload_n F dL_digest_163 rfl rfl ?_
        refine z_lmul F dL_digest_164 ?_
        refine zi_bipush F dL_digest_165 (by decide) ?_
        refine z_aload_n F dL_digest_167 rfl rfl ?_
        refine z_iload_n F dL_digest_168 rfl rfl ?_
        refine z_callVw F B cal_yX10_rowOf (n_rowOf (i := i) (by omega) r0 r1 hO (by omega)) dL_digest_169 rfl rfl (Nat.le_of_ble_eq_true rfl) (by decide) (by decide) (by omega) (by omega) ml_L_202 im_yX10_rowOf se_yX10_rowOf r0 (by decide) rfl rfl (fun v hX qX => ?_) (fun C h1 q => q.elim)
        obtain ⟨rfl, qX⟩ := qX
        rw [qX]
        clear qX hX
        refine zi_imul F dL_digest_172 ?_
        refine z_i2l F dL_digest_173 rfl ?_
        refine z_ladd F dL_digest_174 ?_
        refine z_aload_n F dL_digest_175 rfl rfl ?_
        refine z_iload_n F dL_digest_176 rfl rfl ?_
        refine z_callV F B cal_yX10_columnOf (n_columnOf (i := i) (by omega) r0 r1 hO (by omega)) dL_digest_177 rfl rfl (Nat.le_of_ble_eq_true rfl) (by decide) (by omega) (by omega) ml_L_205 im_yX10_columnOf se_yX10_columnOf r0 (by decide) rfl rfl (fun v hX qX => ?_) (fun C h1 q => q.elim)
        obtain ⟨rfl, qX⟩ := qX
        rw [qX]
        clear qX hX
        refine z_i2l F dL_digest_180 rfl ?_
        refine z_ladd F dL_digest_181 ?_
        refine z_lmul F dL_digest_182 ?_
        refine z_aload_n F dL_digest_183 rfl rfl ?_
        refine z_iload_n F dL_digest_184 rfl rfl ?_
        refine z_callSH F B calH_yL_goalColumn (w_goalColumn (z := (i : Int)) ⟨by omega, by omega⟩ R1 hO hK) dL_digest_185 rfl rfl (Nat.le_of_ble_eq_true rfl) (by decide) (by omega) (by omega) ml_L_208 st_yL_goalColumn (fun v hX qX => ?_) (fun C h1 q => q.elim)
        obtain ⟨rfl, R2⟩ := qX
        refine z_i2l F dL_digest_188 rfl ?_
        refine z_ladd F dL_digest_189 ?_
        refine z_lmul F dL_digest_190 ?_
        refine z_aload_n F dL_digest_191 rfl rfl ?_
        refine z_iload_n F dL_digest_192 rfl rfl ?_
        refine z_callSH F B calH_yL_goalRow (w_goalRow (z := (i : Int)) ⟨by omega, by omega⟩ R2 hO hK) dL_digest_193 rfl rfl (Nat.le_of_ble_eq_true rfl) (by decide) (by omega) (by omega) ml_L_210 st_yL_goalRow (fun v hX qX => ?_) (fun C h1 q => q.elim)
        obtain ⟨rfl, R3⟩ := qX
        have r03 := R3.2.1
        obtain ⟨σ3, τ3, r13⟩ := R3.2.2.1
        refine z_i2l F dL_digest_196 rfl ?_
        refine z_ladd F dL_digest_197 ?_
        refine z_lmul F dL_digest_198 ?_
        refine z_aload_n F dL_digest_199 rfl rfl ?_
        refine z_iload_n F dL_digest_200 rfl rfl ?_
        refine z_callV F B cal_yX10_darkMinutes (n_darkMinutes (i := i) (by omega) r03 r13 hO (by omega)) dL_digest_201 rfl rfl (Nat.le_of_ble_eq_true rfl) (by decide) (by omega) (by omega) ml_L_212 im_yX10_darkMinutes se_yX10_darkMinutes r03 (by decide) rfl rfl (fun v hX qX => ?_) (fun C h1 q => q.elim)
        obtain ⟨rfl, qX⟩ := qX
        rw [qX]
        clear qX hX
        refine z_i2l F dL_digest_204 rfl ?_
        refine z_ladd F dL_digest_205 ?_
        refine z_aload_n F dL_digest_206 rfl rfl ?_
        refine z_iload_n F dL_digest_207 rfl rfl ?_
        refine z_callV F B cal_yX10_isWrecked (n_isWrecked (i := i) (by omega) r03 r13 hO (by omega)) dL_digest_208 rfl rfl (Nat.le_of_ble_eq_true rfl) (by decide) (by omega) (by omega) ml_L_215 im_yX10_isWrecked se_yX10_isWrecked r03 (by decide) rfl rfl (fun v hX qX => ?_) (fun C h1 q => q.elim)
        obtain ⟨rfl, qX⟩ := qX
        rw [qX]
        clear qX hX
        refine zi_if_eq (tgt := 220) F dL_digest_211 (by decide) (zBo_b _) (fun c211 => ?_) (fun c211 => ?_)
        · refine zi_iconst F dL_digest_220 ?_
          refine z_i2l F dL_digest_221 rfl ?_
          refine z_ladd F dL_digest_222 ?_
          refine z_lstore_n F dL_digest_223 rfl rfl rfl (hnl _ rfl) ?_
          refine zi_iinc F dL_digest_224 rfl rfl (hnl _ rfl) ?_
          refine z_goto (tgt := 143) F dL_digest_227 (by decide) ?_
          first | exact Z.widen (by omega) (by omega) (Z.keys [3, 1, 0] (by simp only [dg3]; rw [zBo_z] at c211; rw [c211]; rfl) (ih (i + 1) (by omega) _ R3)) | exact Z.widen (by omega) (by omega) (Z.keys [3, 1, 0] (by simp only [dg3]; rw [zBo_n] at c211; rw [c211]; rfl) (ih (i + 1) (by omega) _ R3))
        · refine zi_sipush F dL_digest_214 (by decide) ?_
          refine z_goto (tgt := 221) F dL_digest_217 (by decide) ?_
          refine z_i2l F dL_digest_221 rfl ?_
          refine z_ladd F dL_digest_222 ?_
          refine z_lstore_n F dL_digest_223 rfl rfl rfl (hnl _ rfl) ?_
          refine zi_iinc F dL_digest_224 rfl rfl (hnl _ rfl) ?_
          refine z_goto (tgt := 143) F dL_digest_227 (by decide) ?_
          first | exact Z.widen (by omega) (by omega) (Z.keys [3, 1, 0] (by simp only [dg3]; rw [zBo_z] at c211; rw [c211]; rfl) (ih (i + 1) (by omega) _ R3)) | exact Z.widen (by omega) (by omega) (Z.keys [3, 1, 0] (by simp only [dg3]; rw [zBo_n] at c211; rw [c211]; rfl) (ih (i + 1) (by omega) _ R3))
end
