/-! the law's look at all lights -/
def zany (p : Nat → Bool) : Nat → Bool
  | 0 => false
  | n + 1 => zany p n || p n
theorem zBo_or (a b : Bool) : iI (zBo a) ||| iI (zBo b) = iI (zBo (a || b)) := by cases a <;> cases b <;> decide
theorem mv_no : ∀ n, mv (fun _ => false) n = 0
  | 0 => rfl
  | n + 1 => by
    unfold mv
    rw [mv_no n]
    rfl
/-- cell c is reached by one of the first n lights -/
def f_any (C : zCo) (n c : Nat) : Bool := zany (fun l => f_rch C (C.2.1 l) c) n
theorem mAll_mv (C : zCo) : ∀ n, mAll C n = lN (mv (f_any C n) 64)
  | 0 => by
    show (0 : Int64) = lN (mv (fun _ => false) 64)
    rw [mv_no]
    rfl
  | n + 1 => by
    show mAll C n ||| f_rm C (C.2.1 n) = _
    rw [mAll_mv C n]
    unfold f_rm
    rw [mk_mv _ 64 (Nat.le_refl _), mv_orL]
    rfl
/-- what areLights asks of the covers -/
def hFew (C : zCo) : Prop := f_ft C C.2.2.2.1.1 C.2.2.2.1.1 (mAll C C.2.2.2.1.1) = f_fw C ∧ f_fw C ≤ C.2.2.2.1.1 ∧ (0 < f_fw C ↔ 0 < zcnt (f_any C C.2.2.2.1.1) 64)
theorem f_m1_e : Op.cmpValue (FP.fcmp 3212836864 3212836864) CmpOp.l = iI 0 := by decide +kernel
theorem f_shr_e : ∀ a : Nat, a < 7 → ∀ b : Nat, b < 7 → 0 < b → Op.cmpValue (FP.fcmp (f_shr a b) (f_shr a b)) CmpOp.l = iI 0 := by decide +kernel
section
variable {o K : Nat} {S : zBt} {h : zH}
theorem w_areLights (hd : hDis S.1) (hs : hSgt S.1) (hF : hFew S.1) (R : zRB o S h) (hO : zOk K S.1) (hK : K < 1700000) : zMet yL_areLights cL_areLights 7 (some .boolean) 14 5377 32262 [.ref o] h (fun v h' => v = some (.int (iI 1)) ∧ zRB o S h') (fun _ _ => False) := by
  refine zMet.go (by decide +kernel) (Nat.le_of_ble_eq_true rfl) ?_
  intro X F B hnl hR hn
  have hKK : K < 2000000 := by omega
  have hl6 := hO.2.2.2.1
  have hn6 := hO.2.2.2.2.1
  have hsg := hO.2.2.2.2.2.2.1
  have hfw : f_fw S.1 ≤ 6 := Nat.le_trans hF.2.1 hl6
  have hlit := zcnt_le (f_any S.1 S.1.2.2.2.1.1) 64
  unfold hSgt at hs
  unfold hFew at hF
  generalize hN : S.1.2.2.2.1.1 = N at *
  generalize hM : S.1.2.2.2.1.2 = M at *
  -- the numbers
  have k214 : ∀ (h1 : zH) (ls : zL), zRB o S h1 → zpick ls [1, 2, 3, 0] = [(1, .int (iI ((zcnt (f_any S.1 N) 64 : Nat) : Int))), (2, .int (iI ((f_seen S.1 : Nat) : Int))), (3, .int (iI 1)), (0, .ref o)] → Z X (896 * N) (5376 * N) 214 ls [] h1 := by
    intro h1 ls R1 el
    refine Z.keys [1, 2, 3, 0] el ?_
    have hsn : f_seen S.1 ≤ 6 := Nat.le_trans (zcnt_le _ _) (by omega)
    have k272 : ∀ (h2 : zH) (ls : zL), zRB o S h2 → zpick ls [2, 0] = [(2, .int (iI ((f_seen S.1 : Nat) : Int))), (0, .ref o)] → Z X (896 * N) (5376 * N) 272 ls [] h2 := by
      intro h2 ls R2 el
      refine Z.keys [2, 0] el ?_
      have r0 := R2.2.1
      obtain ⟨σ, τ, r1⟩ := R2.2.2.1
      refine z_aload_n F dL_areLights_272 rfl rfl ?_
      refine z_callV F B cal_yX10_sightingsByLights (m_sightingsByLights r0 r1 hO hKK) dL_areLights_273 rfl rfl (Nat.le_of_ble_eq_true rfl) (by decide) (by omega) (by omega) ml_L_282 im_yX10_sightingsByLights se_yX10_sightingsByLights r0 (by decide) rfl rfl (fun v hX qX => ?_) (fun C h1 q => q.elim)
      obtain ⟨rfl, qX⟩ := qX
      rw [qX]
      clear qX hX
      refine z_aload_n F dL_areLights_276 rfl rfl ?_
      refine z_callV F B cal_yX10_sightings (m_sightings r0 r1) dL_areLights_277 rfl rfl (Nat.le_of_ble_eq_true rfl) (by decide) (by omega) (by omega) ml_L_167 im_yX10_sightings se_yX10_sightings r0 (by decide) rfl rfl (fun v hX qX => ?_) (fun C h1 q => q.elim)
      obtain ⟨rfl, qX⟩ := qX
      rw [qX]
      clear qX hX
      rw [hN]
      refine zi_icmp_ne (tgt := 315) F dL_areLights_280 (by decide) (by first | omega | (dsimp only at *; omega)) (fun c280 => False.elim (by first | omega | (dsimp only at *; omega))) (fun c280 => ?_)
      refine z_aload_n F dL_areLights_283 rfl rfl ?_
      refine z_callSH F B calH_yL_seenShare (w_seenShare R2 hO hK) dL_areLights_284 rfl rfl (Nat.le_of_ble_eq_true rfl) (by decide) (by omega) (by omega) ml_L_285 st_yL_seenShare (fun v hX qX => ?_) (fun C h1 q => q.elim)
      clear r0 r1
      obtain ⟨rfl, R3⟩ := qX
      have r0 := R3.2.1
      obtain ⟨σ, τ, r1⟩ := R3.2.2.1
      refine z_aload_n F dL_areLights_287 rfl rfl ?_
      refine z_callV F B cal_yX10_shipCount (m_shipCount r0 r1) dL_areLights_288 rfl rfl (Nat.le_of_ble_eq_true rfl) (by decide) (by omega) (by omega) ml_L_182 im_yX10_shipCount se_yX10_shipCount r0 (by decide) rfl rfl (fun v hX qX => ?_) (fun C h1 q => q.elim)
      obtain ⟨rfl, qX⟩ := qX
      rw [qX]
      clear qX hX
      rw [hM]
      by_cases hm0 : M = 0
      · rw [if_pos hm0]
        refine zi_if_ne (tgt := 299) F dL_areLights_291 (by decide) (by first | omega | (dsimp only at *; omega)) (fun c291 => False.elim (by first | omega | (dsimp only at *; omega))) (fun c291 => ?_)
        refine z_ldcf F dL_areLights_294 zw_f79 ?_
        refine z_goto (tgt := 307) F dL_areLights_296 (by decide) ?_
        refine z_fcmp F dL_areLights_307 ?_
        rw [f_m1_e]
        refine zi_if_ne (tgt := 315) F dL_areLights_308 (by decide) (by first | omega | (dsimp only at *; omega)) (fun c308 => False.elim (by first | omega | (dsimp only at *; omega))) (fun c308 => ?_)
        refine zi_iconst F dL_areLights_311 ?_
        refine z_goto (tgt := 316) F dL_areLights_312 (by decide) ?_
        exact Z.widen (by omega) (by omega) (z_ireturn F rfl B dL_areLights_316 ⟨rfl, R3⟩)
      · rw [if_neg hm0]
        refine zi_if_ne (tgt := 299) F dL_areLights_291 (by decide) (by first | omega | (dsimp only at *; omega)) (fun c291 => ?_) (fun c291 => False.elim (by first | omega | (dsimp only at *; omega)))
        refine z_iload_n F dL_areLights_299 rfl rfl ?_
        refine z_i2f F dL_areLights_300 ?_
        refine z_aload_n F dL_areLights_301 rfl rfl ?_
        refine z_callV F B cal_yX10_shipCount (m_shipCount r0 r1) dL_areLights_302 rfl rfl (Nat.le_of_ble_eq_true rfl) (by decide) (by omega) (by omega) ml_L_182 im_yX10_shipCount se_yX10_shipCount r0 (by decide) rfl rfl (fun v hX qX => ?_) (fun C h1 q => q.elim)
        obtain ⟨rfl, qX⟩ := qX
        rw [qX]
        clear qX hX
        rw [hM]
        refine z_i2f F dL_areLights_305 ?_
        refine z_fdiv F dL_areLights_306 (f_shr_n (f_seen S.1) (by omega) M (by omega) (by omega)) ?_
        refine z_fcmp F dL_areLights_307 ?_
        rw [show FP.fdiv (FP.i2f (iI ((f_seen S.1 : Nat) : Int))) (FP.i2f (iI (M : Int))) = f_shr (f_seen S.1) M from rfl, f_shr_e (f_seen S.1) (by omega) M (by omega) (by omega)]
        refine zi_if_ne (tgt := 315) F dL_areLights_308 (by decide) (by first | omega | (dsimp only at *; omega)) (fun c308 => False.elim (by first | omega | (dsimp only at *; omega))) (fun c308 => ?_)
        refine zi_iconst F dL_areLights_311 ?_
        refine z_goto (tgt := 316) F dL_areLights_312 (by decide) ?_
        exact Z.widen (by omega) (by omega) (z_ireturn F rfl B dL_areLights_316 ⟨rfl, R3⟩)
    refine z_aload_n F dL_areLights_214 rfl rfl ?_
    refine z_callV F B cal_yX10_fewestLights (m_fewestLights R1 hO (by omega)) dL_areLights_215 rfl rfl (Nat.le_of_ble_eq_true rfl) (by decide) (by omega) (by omega) ml_L_273 im_yX10_fewestLights se_yX10_fewestLights R1.2.1 (by decide) rfl rfl (fun v hX qX => ?_) (fun C h1 q => q.elim)
    obtain ⟨rfl, R2⟩ := qX
    refine z_istore F dL_areLights_218 rfl (hnl _ rfl) ?_
    refine z_iload_n F dL_areLights_220 rfl rfl ?_
    refine zi_if_eq (tgt := 315) F dL_areLights_221 (by decide) (by first | omega | (dsimp only at *; omega)) (fun c221 => False.elim (by first | omega | (dsimp only at *; omega))) (fun c221 => ?_)
    refine z_aload_n F dL_areLights_224 rfl rfl ?_
    refine z_callV F B cal_yX10_litCells (m_litCells R2 hO (by omega)) dL_areLights_225 rfl rfl (Nat.le_of_ble_eq_true rfl) (by decide) (by omega) (by omega) ml_L_276 im_yX10_litCells se_yX10_litCells R2.2.1 (by decide) rfl rfl (fun v hX qX => ?_) (fun C h1 q => q.elim)
    obtain ⟨rfl, R3⟩ := qX
    rw [hN, mAll_mv, bc64_mv, iI_nI]
    refine z_iload_n F dL_areLights_228 rfl rfl ?_
    refine zi_icmp_ne (tgt := 315) F dL_areLights_229 (by decide) (by first | omega | (dsimp only at *; omega)) (fun c229 => False.elim (by first | omega | (dsimp only at *; omega))) (fun c229 => ?_)
    refine z_aload_n F dL_areLights_232 rfl rfl ?_
    refine z_callV F B cal_yX10_fewestLightsBySearch (m_fewestLightsBySearch R3 hO (by omega)) dL_areLights_233 rfl rfl (Nat.le_of_ble_eq_true rfl) (by decide) (by omega) (by omega) ml_L_279 im_yX10_fewestLightsBySearch se_yX10_fewestLightsBySearch R3.2.1 (by decide) rfl rfl (fun v hX qX => ?_) (fun C h1 q => q.elim)
    obtain ⟨rfl, R4⟩ := qX
    rw [hN, hF.1]
    refine z_iload F dL_areLights_236 rfl ?_
    refine zi_icmp_ne (tgt := 315) F dL_areLights_238 (by decide) (by first | omega | (dsimp only at *; omega)) (fun c238 => False.elim (by first | omega | (dsimp only at *; omega))) (fun c238 => ?_)
    refine z_iload F dL_areLights_241 rfl ?_
    have r0 := R4.2.1
    obtain ⟨σ, τ, r1⟩ := R4.2.2.1
    refine z_aload_n F dL_areLights_243 rfl rfl ?_
    refine z_callV F B cal_yX10_lightCount (m_lightCount r0 r1) dL_areLights_244 rfl rfl (Nat.le_of_ble_eq_true rfl) (by decide) (by omega) (by omega) ml_L_185 im_yX10_lightCount se_yX10_lightCount r0 (by decide) rfl rfl (fun v hX qX => ?_) (fun C h1 q => q.elim)
    obtain ⟨rfl, qX⟩ := qX
    rw [qX]
    clear qX hX
    rw [hN]
    refine zi_icmp_gt (tgt := 315) F dL_areLights_247 (by decide) (by first | omega | (dsimp only at *; omega)) (fun c247 => False.elim (by first | omega | (dsimp only at *; omega))) (fun c247 => ?_)
    by_cases hf0 : 0 < f_fw S.1
    · have hz0 := hF.2.2.mp hf0
      refine z_iload F dL_areLights_250 rfl ?_
      refine zi_if_le (tgt := 259) F dL_areLights_252 (by decide) (by first | omega | (dsimp only at *; omega)) (fun c252 => False.elim (by first | omega | (dsimp only at *; omega))) (fun c252 => ?_)
      refine zi_iconst F dL_areLights_255 ?_
      refine z_goto (tgt := 260) F dL_areLights_256 (by decide) ?_
      refine z_iload_n F dL_areLights_260 rfl rfl ?_
      refine zi_if_le (tgt := 268) F dL_areLights_261 (by decide) (by first | omega | (dsimp only at *; omega)) (fun c261 => False.elim (by first | omega | (dsimp only at *; omega))) (fun c261 => ?_)
      refine zi_iconst F dL_areLights_264 ?_
      refine z_goto (tgt := 269) F dL_areLights_265 (by decide) ?_
      refine zi_icmp_ne (tgt := 315) F dL_areLights_269 (by decide) (by first | omega | (dsimp only at *; omega)) (fun c269 => False.elim (by first | omega | (dsimp only at *; omega))) (fun c269 => ?_)
      exact k272 _ _ R4 rfl
    · have hz0 : ¬ 0 < zcnt (f_any S.1 N) 64 := fun q => hf0 (hF.2.2.mpr q)
      refine z_iload F dL_areLights_250 rfl ?_
      refine zi_if_le (tgt := 259) F dL_areLights_252 (by decide) (by first | omega | (dsimp only at *; omega)) (fun c252 => ?_) (fun c252 => False.elim (by first | omega | (dsimp only at *; omega)))
      refine zi_iconst F dL_areLights_259 ?_
      refine z_iload_n F dL_areLights_260 rfl rfl ?_
      refine zi_if_le (tgt := 268) F dL_areLights_261 (by decide) (by first | omega | (dsimp only at *; omega)) (fun c261 => ?_) (fun c261 => False.elim (by first | omega | (dsimp only at *; omega)))
      refine zi_iconst F dL_areLights_268 ?_
      refine zi_icmp_ne (tgt := 315) F dL_areLights_269 (by decide) (by first | omega | (dsimp only at *; omega)) (fun c269 => False.elim (by first | omega | (dsimp only at *; omega))) (fun c269 => ?_)
      exact k272 _ _ R4 rfl
  -- ships
  have k113 : ∀ n s : Nat, n + s = M → ∀ (h1 : zH) (ls : zL), zRB o S h1 → zpick ls [4, 1, 2, 3, 0] = [(4, .int (iI (s : Int))), (1, .int (iI ((zcnt (f_any S.1 N) 64 : Nat) : Int))), (2, .int (iI ((zcnt (fun i => decide (0 < f_lsw S.1 (S.1.2.2.1 i).1)) s : Nat) : Int))), (3, .int (iI 1)), (0, .ref o)] → Z X (896 * N) (5376 * N) 113 ls [] h1 := by
    intro n
    induction n with
    | zero =>
      intro s hs2 h1 ls R1 el
      have r0 := R1.2.1
      obtain ⟨σ, τ, r1⟩ := R1.2.2.1
      have es : s = M := by omega
      have esn : f_seen S.1 = zcnt (fun i => decide (0 < f_lsw S.1 (S.1.2.2.1 i).1)) s := by unfold f_seen; rw [hM, es]
      rw [← esn] at el
      refine Z.keys [4, 1, 2, 3, 0] el ?_
      refine z_iload F dL_areLights_113 rfl ?_
      refine z_aload_n F dL_areLights_115 rfl rfl ?_
      refine z_callV F B cal_yX10_shipCount (m_shipCount r0 r1) dL_areLights_116 rfl rfl (Nat.le_of_ble_eq_true rfl) (by decide) (by omega) (by omega) ml_L_182 im_yX10_shipCount se_yX10_shipCount r0 (by decide) rfl rfl (fun v hX qX => ?_) (fun C h1 q => q.elim)
      obtain ⟨rfl, qX⟩ := qX
      rw [qX]
      clear qX hX
      rw [hM]
      refine zi_icmp_ge (tgt := 214) F dL_areLights_119 (by decide) (by first | omega | (dsimp only at *; omega)) (fun c119 => ?_) (fun c119 => False.elim (by first | omega | (dsimp only at *; omega)))
      exact k214 _ _ R1 rfl
    | succ n ih =>
      intro s hs2 h1 ls R1 el
      refine Z.keys [4, 1, 2, 3, 0] el ?_
      have r0 := R1.2.1
      obtain ⟨σ, τ, r1⟩ := R1.2.2.1
      have hsM : s < S.1.2.2.2.1.2 := by omega
      have hc64 := (hO.2.2.1 s).1
      have hct := zcnt_le (fun i => decide (0 < f_lsw S.1 (S.1.2.2.1 i).1)) s
      have k128 : ∀ n2 l : Nat, n2 + l = N → ∀ (ls : zL), zpick ls [6, 5, 4, 1, 2, 3, 0] = [(6, .int (iI (l : Int))), (5, .int (iI ((zcnt (fun i => f_swp S.1 (S.1.2.1 i) (S.1.2.2.1 s).1) l : Nat) : Int))), (4, .int (iI (s : Int))), (1, .int (iI ((zcnt (f_any S.1 N) 64 : Nat) : Int))), (2, .int (iI ((zcnt (fun i => decide (0 < f_lsw S.1 (S.1.2.2.1 i).1)) s : Nat) : Int))), (3, .int (iI 1)), (0, .ref o)] → Z X (896 * N) (5376 * N) 128 ls [] h1 := by
        intro n2
        induction n2 with
        | zero =>
          intro l hl ls el
          refine Z.keys [6, 5, 4, 1, 2, 3, 0] el ?_
          have el2 : l = N := by omega
          have ey : zcnt (fun i => f_swp S.1 (S.1.2.1 i) (S.1.2.2.1 s).1) l = f_lsw S.1 (S.1.2.2.1 s).1 := by unfold f_lsw; rw [hN, el2]
          rw [ey]
          have hy6 : f_lsw S.1 (S.1.2.2.1 s).1 ≤ 6 := by rw [← ey]; exact Nat.le_trans (zcnt_le _ _) (by omega)
          by_cases hy : 0 < f_lsw S.1 (S.1.2.2.1 s).1
          · have ez : zcnt (fun i => decide (0 < f_lsw S.1 (S.1.2.2.1 i).1)) (s + 1) = zcnt (fun i => decide (0 < f_lsw S.1 (S.1.2.2.1 i).1)) s + 1 := by show _ + (if decide (0 < f_lsw S.1 (S.1.2.2.1 s).1) then 1 else 0) = _; rw [decide_eq_true hy]; rfl
            refine z_iload F dL_areLights_128 rfl ?_
            refine z_aload_n F dL_areLights_130 rfl rfl ?_
            refine z_callV F B cal_yX10_lightCount (m_lightCount r0 r1) dL_areLights_131 rfl rfl (Nat.le_of_ble_eq_true rfl) (by decide) (by omega) (by omega) ml_L_185 im_yX10_lightCount se_yX10_lightCount r0 (by decide) rfl rfl (fun v hX qX => ?_) (fun C h1 q => q.elim)
            obtain ⟨rfl, qX⟩ := qX
            rw [qX]
            clear qX hX
            rw [hN]
            refine zi_icmp_ge (tgt := 174) F dL_areLights_134 (by decide) (by first | omega | (dsimp only at *; omega)) (fun c134 => ?_) (fun c134 => False.elim (by first | omega | (dsimp only at *; omega)))
            refine z_iload_n F dL_areLights_174 rfl rfl ?_
            refine z_iload F dL_areLights_175 rfl ?_
            refine zi_if_le (tgt := 184) F dL_areLights_177 (by decide) (by first | omega | (dsimp only at *; omega)) (fun c177 => False.elim (by first | omega | (dsimp only at *; omega))) (fun c177 => ?_)
            refine zi_iconst F dL_areLights_180 ?_
            refine z_goto (tgt := 185) F dL_areLights_181 (by decide) ?_
            refine zi_iadd F dL_areLights_185 ?_
            refine z_istore_n F dL_areLights_186 rfl rfl (hnl _ rfl) ?_
            refine z_iload_n F dL_areLights_187 rfl rfl ?_
            refine zi_if_eq (tgt := 206) F dL_areLights_188 (by decide) (by first | omega | (dsimp only at *; omega)) (fun c188 => False.elim (by first | omega | (dsimp only at *; omega))) (fun c188 => ?_)
            refine z_aload_n F dL_areLights_191 rfl rfl ?_
            refine z_iload F dL_areLights_192 rfl ?_
            refine z_callV F B cal_yX10_seenBy (n_seenBy (i := s) hsM r0 r1 hO hKK) dL_areLights_194 rfl rfl (Nat.le_of_ble_eq_true rfl) (by decide) (by omega) (by omega) ml_L_270 im_yX10_seenBy se_yX10_seenBy r0 (by decide) rfl rfl (fun v hX qX => ?_) (fun C h1 q => q.elim)
            obtain ⟨rfl, qX⟩ := qX
            rw [qX]
            clear qX hX
            refine z_iload F dL_areLights_197 rfl ?_
            refine zi_icmp_ne (tgt := 206) F dL_areLights_199 (by decide) (by first | omega | (dsimp only at *; omega)) (fun c199 => False.elim (by first | omega | (dsimp only at *; omega))) (fun c199 => ?_)
            refine zi_iconst F dL_areLights_202 ?_
            refine z_goto (tgt := 207) F dL_areLights_203 (by decide) ?_
            refine z_istore_n F dL_areLights_207 rfl rfl (hnl _ rfl) ?_
            refine zi_iinc F dL_areLights_208 rfl rfl (hnl _ rfl) ?_
            refine z_goto (tgt := 113) F dL_areLights_211 (by decide) ?_
            exact ih (s + 1) (by omega) _ _ R1 (by rw [ez]; rfl)
          · have ez : zcnt (fun i => decide (0 < f_lsw S.1 (S.1.2.2.1 i).1)) (s + 1) = zcnt (fun i => decide (0 < f_lsw S.1 (S.1.2.2.1 i).1)) s + 0 := by show _ + (if decide (0 < f_lsw S.1 (S.1.2.2.1 s).1) then 1 else 0) = _; rw [decide_eq_false hy]; rfl
            refine z_iload F dL_areLights_128 rfl ?_
            refine z_aload_n F dL_areLights_130 rfl rfl ?_
            refine z_callV F B cal_yX10_lightCount (m_lightCount r0 r1) dL_areLights_131 rfl rfl (Nat.le_of_ble_eq_true rfl) (by decide) (by omega) (by omega) ml_L_185 im_yX10_lightCount se_yX10_lightCount r0 (by decide) rfl rfl (fun v hX qX => ?_) (fun C h1 q => q.elim)
            obtain ⟨rfl, qX⟩ := qX
            rw [qX]
            clear qX hX
            rw [hN]
            refine zi_icmp_ge (tgt := 174) F dL_areLights_134 (by decide) (by first | omega | (dsimp only at *; omega)) (fun c134 => ?_) (fun c134 => False.elim (by first | omega | (dsimp only at *; omega)))
            refine z_iload_n F dL_areLights_174 rfl rfl ?_
            refine z_iload F dL_areLights_175 rfl ?_
            refine zi_if_le (tgt := 184) F dL_areLights_177 (by decide) (by first | omega | (dsimp only at *; omega)) (fun c177 => ?_) (fun c177 => False.elim (by first | omega | (dsimp only at *; omega)))
            refine zi_iconst F dL_areLights_184 ?_
            refine zi_iadd F dL_areLights_185 ?_
            refine z_istore_n F dL_areLights_186 rfl rfl (hnl _ rfl) ?_
            refine z_iload_n F dL_areLights_187 rfl rfl ?_
            refine zi_if_eq (tgt := 206) F dL_areLights_188 (by decide) (by first | omega | (dsimp only at *; omega)) (fun c188 => False.elim (by first | omega | (dsimp only at *; omega))) (fun c188 => ?_)
            refine z_aload_n F dL_areLights_191 rfl rfl ?_
            refine z_iload F dL_areLights_192 rfl ?_
            refine z_callV F B cal_yX10_seenBy (n_seenBy (i := s) hsM r0 r1 hO hKK) dL_areLights_194 rfl rfl (Nat.le_of_ble_eq_true rfl) (by decide) (by omega) (by omega) ml_L_270 im_yX10_seenBy se_yX10_seenBy r0 (by decide) rfl rfl (fun v hX qX => ?_) (fun C h1 q => q.elim)
            obtain ⟨rfl, qX⟩ := qX
            rw [qX]
            clear qX hX
            refine z_iload F dL_areLights_197 rfl ?_
            refine zi_icmp_ne (tgt := 206) F dL_areLights_199 (by decide) (by first | omega | (dsimp only at *; omega)) (fun c199 => False.elim (by first | omega | (dsimp only at *; omega))) (fun c199 => ?_)
            refine zi_iconst F dL_areLights_202 ?_
            refine z_goto (tgt := 207) F dL_areLights_203 (by decide) ?_
            refine z_istore_n F dL_areLights_207 rfl rfl (hnl _ rfl) ?_
            refine zi_iinc F dL_areLights_208 rfl rfl (hnl _ rfl) ?_
            refine z_goto (tgt := 113) F dL_areLights_211 (by decide) ?_
            exact ih (s + 1) (by omega) _ _ R1 (by rw [ez]; rfl)
        | succ n2 ih2 =>
          intro l hl ls el
          refine Z.keys [6, 5, 4, 1, 2, 3, 0] el ?_
          have hlN : l < S.1.2.2.2.1.1 := by omega
          have hcl := zcnt_le (fun i => f_swp S.1 (S.1.2.1 i) (S.1.2.2.1 s).1) l
          refine z_iload F dL_areLights_128 rfl ?_
          refine z_aload_n F dL_areLights_130 rfl rfl ?_
          refine z_callV F B cal_yX10_lightCount (m_lightCount r0 r1) dL_areLights_131 rfl rfl (Nat.le_of_ble_eq_true rfl) (by decide) (by omega) (by omega) ml_L_185 im_yX10_lightCount se_yX10_lightCount r0 (by decide) rfl rfl (fun v hX qX => ?_) (fun C h1 q => q.elim)
          obtain ⟨rfl, qX⟩ := qX
          rw [qX]
          clear qX hX
          rw [hN]
          refine zi_icmp_ge (tgt := 174) F dL_areLights_134 (by decide) (by first | omega | (dsimp only at *; omega)) (fun c134 => False.elim (by first | omega | (dsimp only at *; omega))) (fun c134 => ?_)
          refine z_iload F dL_areLights_137 rfl ?_
          refine z_aload_n F dL_areLights_139 rfl rfl ?_
          refine z_iload F dL_areLights_140 rfl ?_
          refine z_aload_n F dL_areLights_142 rfl rfl ?_
          refine z_iload F dL_areLights_143 rfl ?_
          refine z_callV F B cal_yX10_columnOf (n_columnOf (i := s) hsM r0 r1 hO hKK) dL_areLights_145 rfl rfl (Nat.le_of_ble_eq_true rfl) (by decide) (by omega) (by omega) ml_L_205 im_yX10_columnOf se_yX10_columnOf r0 (by decide) rfl rfl (fun v hX qX => ?_) (fun C h1 q => q.elim)
          obtain ⟨rfl, qX⟩ := qX
          rw [qX]
          clear qX hX
          refine z_aload_n F dL_areLights_148 rfl rfl ?_
          refine z_iload F dL_areLights_149 rfl ?_
          refine z_callV F B cal_yX10_rowOf (n_rowOf (i := s) hsM r0 r1 hO hKK) dL_areLights_151 rfl rfl (Nat.le_of_ble_eq_true rfl) (by decide) (by omega) (by omega) ml_L_202 im_yX10_rowOf se_yX10_rowOf r0 (by decide) rfl rfl (fun v hX qX => ?_) (fun C h1 q => q.elim)
          obtain ⟨rfl, qX⟩ := qX
          rw [qX]
          clear qX hX
          refine z_callV F B cal_yX10_sweeps (n_sweeps (i := l) hlN (by omega) r0 r1 hO hKK) dL_areLights_154 rfl rfl (Nat.le_of_ble_eq_true rfl) (by decide) (by omega) (by omega) ml_L_261 im_yX10_sweeps se_yX10_sweeps r0 (by decide) rfl rfl (fun v hX qX => ?_) (fun C h1 q => q.elim)
          obtain ⟨rfl, qX⟩ := qX
          rw [qX]
          clear qX hX
          rw [cell_rc]
          rcases hq : f_swp S.1 (S.1.2.1 l) (S.1.2.2.1 s).1 with _ | _
          · have ez : zcnt (fun i => f_swp S.1 (S.1.2.1 i) (S.1.2.2.1 s).1) (l + 1) = zcnt (fun i => f_swp S.1 (S.1.2.1 i) (S.1.2.2.1 s).1) l + 0 := by show _ + (if f_swp S.1 (S.1.2.1 l) (S.1.2.2.1 s).1 then 1 else 0) = _; rw [hq]; rfl
            rw [show zBo false = 0 from rfl]
            refine zi_if_eq (tgt := 164) F dL_areLights_157 (by decide) (by first | omega | (dsimp only at *; omega)) (fun c157 => ?_) (fun c157 => False.elim (by first | omega | (dsimp only at *; omega)))
            refine zi_iconst F dL_areLights_164 ?_
            refine zi_iadd F dL_areLights_165 ?_
            refine z_istore F dL_areLights_166 rfl (hnl _ rfl) ?_
            refine zi_iinc F dL_areLights_168 rfl rfl (hnl _ rfl) ?_
            refine z_goto (tgt := 128) F dL_areLights_171 (by decide) ?_
            exact ih2 (l + 1) (by omega) _ (by rw [ez]; rfl)
          · have ez : zcnt (fun i => f_swp S.1 (S.1.2.1 i) (S.1.2.2.1 s).1) (l + 1) = zcnt (fun i => f_swp S.1 (S.1.2.1 i) (S.1.2.2.1 s).1) l + 1 := by show _ + (if f_swp S.1 (S.1.2.1 l) (S.1.2.2.1 s).1 then 1 else 0) = _; rw [hq]; rfl
            rw [show zBo true = 1 from rfl]
            refine zi_if_eq (tgt := 164) F dL_areLights_157 (by decide) (by first | omega | (dsimp only at *; omega)) (fun c157 => False.elim (by first | omega | (dsimp only at *; omega))) (fun c157 => ?_)
            refine zi_iconst F dL_areLights_160 ?_
            refine z_goto (tgt := 165) F dL_areLights_161 (by decide) ?_
            refine zi_iadd F dL_areLights_165 ?_
            refine z_istore F dL_areLights_166 rfl (hnl _ rfl) ?_
            refine zi_iinc F dL_areLights_168 rfl rfl (hnl _ rfl) ?_
            refine z_goto (tgt := 128) F dL_areLights_171 (by decide) ?_
            exact ih2 (l + 1) (by omega) _ (by rw [ez]; rfl)
      refine z_iload F dL_areLights_113 rfl ?_
      refine z_aload_n F dL_areLights_115 rfl rfl ?_
      refine z_callV F B cal_yX10_shipCount (m_shipCount r0 r1) dL_areLights_116 rfl rfl (Nat.le_of_ble_eq_true rfl) (by decide) (by omega) (by omega) ml_L_182 im_yX10_shipCount se_yX10_shipCount r0 (by decide) rfl rfl (fun v hX qX => ?_) (fun C h1 q => q.elim)
      obtain ⟨rfl, qX⟩ := qX
      rw [qX]
      clear qX hX
      rw [hM]
      refine zi_icmp_ge (tgt := 214) F dL_areLights_119 (by decide) (by first | omega | (dsimp only at *; omega)) (fun c119 => False.elim (by first | omega | (dsimp only at *; omega))) (fun c119 => ?_)
      refine zi_iconst F dL_areLights_122 ?_
      refine z_istore F dL_areLights_123 rfl (hnl _ rfl) ?_
      refine zi_iconst F dL_areLights_125 ?_
      refine z_istore F dL_areLights_126 rfl (hnl _ rfl) ?_
      exact k128 N 0 rfl _ rfl
  -- cells
  have k38 : ∀ n k : Nat, n + k = 64 → ∀ (h1 : zH) (ls : zL), zRB o S h1 → zpick ls [4, 1, 2, 3, 0] = [(4, .int (iI (k : Int))), (1, .int (iI ((zcnt (f_any S.1 N) k : Nat) : Int))), (2, .int (iI 0)), (3, .int (iI 1)), (0, .ref o)] → Z X (896 * N) (5376 * N) 38 ls [] h1 := by
    intro n
    induction n with
    | zero =>
      intro k hk h1 ls R1 el
      have hk64 : k = 64 := by omega
      subst hk64
      refine Z.keys [4, 1, 2, 3, 0] el ?_
      refine z_iload_n F dL_areLights_38 rfl rfl ?_
      refine zi_if_eq (tgt := 110) F dL_areLights_39 (by decide) (by first | omega | (dsimp only at *; omega)) (fun c39 => False.elim (by first | omega | (dsimp only at *; omega))) (fun c39 => ?_)
      refine z_iload F dL_areLights_42 rfl ?_
      refine zi_bipush F dL_areLights_44 (by decide) ?_
      refine zi_icmp_ge (tgt := 110) F dL_areLights_46 (by decide) (by first | omega | (dsimp only at *; omega)) (fun c46 => ?_) (fun c46 => False.elim (by first | omega | (dsimp only at *; omega)))
      refine zi_iconst F dL_areLights_110 ?_
      refine z_istore F dL_areLights_111 rfl (hnl _ rfl) ?_
      exact k113 M 0 rfl _ _ R1 rfl
    | succ n ih =>
      intro k hk h1 ls R1 el
      refine Z.keys [4, 1, 2, 3, 0] el ?_
      have r0 := R1.2.1
      obtain ⟨σ, τ, r1⟩ := R1.2.2.1
      have hk64 : k < 64 := by omega
      have hct := zcnt_le (f_any S.1 N) k
      have k55 : ∀ n2 l : Nat, n2 + l = N → ∀ (ls : zL), zpick ls [6, 5, 4, 1, 2, 3, 0] = [(6, .int (iI (l : Int))), (5, .int (iI (zBo (f_any S.1 l k)))), (4, .int (iI (k : Int))), (1, .int (iI ((zcnt (f_any S.1 N) k : Nat) : Int))), (2, .int (iI 0)), (3, .int (iI 1)), (0, .ref o)] → Z X (896 * N) (5376 * N) 55 ls [] h1 := by
        intro n2
        induction n2 with
        | zero =>
          intro l hl ls el
          refine Z.keys [6, 5, 4, 1, 2, 3, 0] el ?_
          have el2 : l = N := by omega
          subst el2
          refine z_iload F dL_areLights_55 rfl ?_
          refine z_aload_n F dL_areLights_57 rfl rfl ?_
          refine z_callV F B cal_yX10_lightCount (m_lightCount r0 r1) dL_areLights_58 rfl rfl (Nat.le_of_ble_eq_true rfl) (by decide) (by omega) (by omega) ml_L_185 im_yX10_lightCount se_yX10_lightCount r0 (by decide) rfl rfl (fun v hX qX => ?_) (fun C h1 q => q.elim)
          obtain ⟨rfl, qX⟩ := qX
          rw [qX]
          clear qX hX
          rw [hN]
          refine zi_icmp_ge (tgt := 91) F dL_areLights_61 (by decide) (by first | omega | (dsimp only at *; omega)) (fun c61 => ?_) (fun c61 => False.elim (by first | omega | (dsimp only at *; omega)))
          rcases hq : f_any S.1 l k with _ | _
          · have ez : zcnt (f_any S.1 l) (k + 1) = zcnt (f_any S.1 l) k + 0 := by show _ + (if f_any S.1 l k then 1 else 0) = _; rw [hq]; rfl
            rw [show zBo false = 0 from rfl]
            refine z_iload_n F dL_areLights_91 rfl rfl ?_
            refine z_iload F dL_areLights_92 rfl ?_
            refine zi_if_eq (tgt := 101) F dL_areLights_94 (by decide) (by first | omega | (dsimp only at *; omega)) (fun c94 => ?_) (fun c94 => False.elim (by first | omega | (dsimp only at *; omega)))
            refine zi_iconst F dL_areLights_101 ?_
            refine zi_iadd F dL_areLights_102 ?_
            refine z_istore_n F dL_areLights_103 rfl rfl (hnl _ rfl) ?_
            refine zi_iinc F dL_areLights_104 rfl rfl (hnl _ rfl) ?_
            refine z_goto (tgt := 38) F dL_areLights_107 (by decide) ?_
            exact ih (k + 1) (by omega) _ _ R1 (by rw [ez]; rfl)
          · have ez : zcnt (f_any S.1 l) (k + 1) = zcnt (f_any S.1 l) k + 1 := by show _ + (if f_any S.1 l k then 1 else 0) = _; rw [hq]; rfl
            rw [show zBo true = 1 from rfl]
            refine z_iload_n F dL_areLights_91 rfl rfl ?_
            refine z_iload F dL_areLights_92 rfl ?_
            refine zi_if_eq (tgt := 101) F dL_areLights_94 (by decide) (by first | omega | (dsimp only at *; omega)) (fun c94 => False.elim (by first | omega | (dsimp only at *; omega))) (fun c94 => ?_)
            refine zi_iconst F dL_areLights_97 ?_
            refine z_goto (tgt := 102) F dL_areLights_98 (by decide) ?_
            refine zi_iadd F dL_areLights_102 ?_
            refine z_istore_n F dL_areLights_103 rfl rfl (hnl _ rfl) ?_
            refine zi_iinc F dL_areLights_104 rfl rfl (hnl _ rfl) ?_
            refine z_goto (tgt := 38) F dL_areLights_107 (by decide) ?_
            exact ih (k + 1) (by omega) _ _ R1 (by rw [ez]; rfl)
        | succ n2 ih2 =>
          intro l hl ls el
          refine Z.keys [6, 5, 4, 1, 2, 3, 0] el ?_
          have hlN : l < S.1.2.2.2.1.1 := by omega
          refine z_iload F dL_areLights_55 rfl ?_
          refine z_aload_n F dL_areLights_57 rfl rfl ?_
          refine z_callV F B cal_yX10_lightCount (m_lightCount r0 r1) dL_areLights_58 rfl rfl (Nat.le_of_ble_eq_true rfl) (by decide) (by omega) (by omega) ml_L_185 im_yX10_lightCount se_yX10_lightCount r0 (by decide) rfl rfl (fun v hX qX => ?_) (fun C h1 q => q.elim)
          obtain ⟨rfl, qX⟩ := qX
          rw [qX]
          clear qX hX
          rw [hN]
          refine zi_icmp_ge (tgt := 91) F dL_areLights_61 (by decide) (by first | omega | (dsimp only at *; omega)) (fun c61 => False.elim (by first | omega | (dsimp only at *; omega))) (fun c61 => ?_)
          refine z_iload F dL_areLights_64 rfl ?_
          refine z_aload_n F dL_areLights_66 rfl rfl ?_
          refine z_iload F dL_areLights_67 rfl ?_
          refine z_iload F dL_areLights_69 rfl ?_
          refine zi_bipush F dL_areLights_71 (by decide) ?_
          refine zi_irem F dL_areLights_73 (by omega) ?_
          refine z_iload F dL_areLights_74 rfl ?_
          refine zi_bipush F dL_areLights_76 (by decide) ?_
          refine zi_idiv F dL_areLights_78 (by omega) ?_
          refine z_callV F B cal_yX10_reaches (n_reaches (i := l) hlN (by omega) r0 r1 hO hKK) dL_areLights_79 rfl rfl (Nat.le_of_ble_eq_true rfl) (by decide) (by omega) (by omega) ml_L_253 im_yX10_reaches se_yX10_reaches r0 (by decide) rfl rfl (fun v hX qX => ?_) (fun C h1 q => q.elim)
          obtain ⟨rfl, qX⟩ := qX
          rw [qX]
          clear qX hX
          rw [cell_rc]
          refine z_ior F dL_areLights_82 ?_
          rw [zBo_or]
          refine z_istore F dL_areLights_83 rfl (hnl _ rfl) ?_
          refine zi_iinc F dL_areLights_85 rfl rfl (hnl _ rfl) ?_
          refine z_goto (tgt := 55) F dL_areLights_88 (by decide) ?_
          exact ih2 (l + 1) (by omega) _ rfl
      refine z_iload_n F dL_areLights_38 rfl rfl ?_
      refine zi_if_eq (tgt := 110) F dL_areLights_39 (by decide) (by first | omega | (dsimp only at *; omega)) (fun c39 => False.elim (by first | omega | (dsimp only at *; omega))) (fun c39 => ?_)
      refine z_iload F dL_areLights_42 rfl ?_
      refine zi_bipush F dL_areLights_44 (by decide) ?_
      refine zi_icmp_ge (tgt := 110) F dL_areLights_46 (by decide) (by first | omega | (dsimp only at *; omega)) (fun c46 => False.elim (by first | omega | (dsimp only at *; omega))) (fun c46 => ?_)
      refine zi_iconst F dL_areLights_49 ?_
      refine z_istore F dL_areLights_50 rfl (hnl _ rfl) ?_
      refine zi_iconst F dL_areLights_52 ?_
      refine z_istore F dL_areLights_53 rfl (hnl _ rfl) ?_
      exact k55 N 0 rfl _ rfl
  -- light by light
  suffices KK : ∀ n l : Nat, n + l = N → ∀ (h1 : zH) (ls : zL), zRB o S h1 → zpick ls [4, 1, 2, 3, 0] = [(4, .int (iI (l : Int))), (1, .int (iI 0)), (2, .int (iI 0)), (3, .int (iI 1)), (0, .ref o)] → Z X (896 * l) (5376 * l) 9 ls [] h1 by
    refine zi_iconst F dL_areLights_0 ?_
    refine z_istore_n F dL_areLights_1 rfl rfl (hnl _ rfl) ?_
    refine zi_iconst F dL_areLights_2 ?_
    refine z_istore_n F dL_areLights_3 rfl rfl (hnl _ rfl) ?_
    refine zi_iconst F dL_areLights_4 ?_
    refine z_istore_n F dL_areLights_5 rfl rfl (hnl _ rfl) ?_
    refine zi_iconst F dL_areLights_6 ?_
    refine z_istore F dL_areLights_7 rfl (hnl _ rfl) ?_
    exact KK N 0 rfl h _ R rfl
  intro n
  induction n with
  | zero =>
    intro l hl h1 ls R1 el
    have r0 := R1.2.1
    obtain ⟨σ, τ, r1⟩ := R1.2.2.1
    have el2 : l = N := by omega
    subst el2
    refine Z.keys [4, 1, 2, 3, 0] el ?_
    refine z_iload_n F dL_areLights_9 rfl rfl ?_
    refine zi_if_eq (tgt := 35) F dL_areLights_10 (by decide) (by first | omega | (dsimp only at *; omega)) (fun c10 => False.elim (by first | omega | (dsimp only at *; omega))) (fun c10 => ?_)
    refine z_iload F dL_areLights_13 rfl ?_
    refine z_aload_n F dL_areLights_15 rfl rfl ?_
    refine z_callV F B cal_yX10_lightCount (m_lightCount r0 r1) dL_areLights_16 rfl rfl (Nat.le_of_ble_eq_true rfl) (by decide) (by omega) (by omega) ml_L_185 im_yX10_lightCount se_yX10_lightCount r0 (by decide) rfl rfl (fun v hX qX => ?_) (fun C h1 q => q.elim)
    obtain ⟨rfl, qX⟩ := qX
    rw [qX]
    clear qX hX
    rw [hN]
    refine zi_icmp_ge (tgt := 35) F dL_areLights_19 (by decide) (by first | omega | (dsimp only at *; omega)) (fun c19 => ?_) (fun c19 => False.elim (by first | omega | (dsimp only at *; omega)))
    refine zi_iconst F dL_areLights_35 ?_
    refine z_istore F dL_areLights_36 rfl (hnl _ rfl) ?_
    exact k38 64 0 rfl _ _ R1 rfl
  | succ n ih =>
    intro l hl h1 ls R1 el
    have r0 := R1.2.1
    obtain ⟨σ, τ, r1⟩ := R1.2.2.1
    refine Z.keys [4, 1, 2, 3, 0] el ?_
    refine z_iload_n F dL_areLights_9 rfl rfl ?_
    refine zi_if_eq (tgt := 35) F dL_areLights_10 (by decide) (by first | omega | (dsimp only at *; omega)) (fun c10 => False.elim (by first | omega | (dsimp only at *; omega))) (fun c10 => ?_)
    refine z_iload F dL_areLights_13 rfl ?_
    refine z_aload_n F dL_areLights_15 rfl rfl ?_
    refine z_callV F B cal_yX10_lightCount (m_lightCount r0 r1) dL_areLights_16 rfl rfl (Nat.le_of_ble_eq_true rfl) (by decide) (by omega) (by omega) ml_L_185 im_yX10_lightCount se_yX10_lightCount r0 (by decide) rfl rfl (fun v hX qX => ?_) (fun C h1 q => q.elim)
    obtain ⟨rfl, qX⟩ := qX
    rw [qX]
    clear qX hX
    rw [hN]
    refine zi_icmp_ge (tgt := 35) F dL_areLights_19 (by decide) (by first | omega | (dsimp only at *; omega)) (fun c19 => False.elim (by first | omega | (dsimp only at *; omega))) (fun c19 => ?_)
    refine z_aload_n F dL_areLights_22 rfl rfl ?_
    refine z_iload F dL_areLights_23 rfl ?_
    refine z_callS F B cal_yL_isLight (w_isLight (i := l) (by omega) hd R1 hO hK) dL_areLights_25 rfl rfl (Nat.le_of_ble_eq_true rfl) (by decide) (by omega) (by omega) ml_L_266 st_yL_isLight (fun v hX qX => ?_) (fun C h1 q => q.elim)
    obtain ⟨rfl, R2⟩ := qX
    refine z_istore_n F dL_areLights_28 rfl rfl (hnl _ rfl) ?_
    refine zi_iinc F dL_areLights_29 rfl rfl (hnl _ rfl) ?_
    refine z_goto (tgt := 9) F dL_areLights_32 (by decide) ?_
    exact Z.widen (by omega) (by omega) (ih (l + 1) (by omega) _ _ R2 rfl)
end
